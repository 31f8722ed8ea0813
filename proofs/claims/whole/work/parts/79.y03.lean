/-! treaties: all tokens of the class -/
theorem yby_c1 : ∀ a : Fin 4, ∀ r : Fin 64, (fun x : Int32 => ¬ ((x &&& 255).toUInt32 % 65536).toInt32 < 0 ∧ ((x &&& 255).toUInt32 % 65536).toInt32 ≤ 255 ∧ ((x &&& 255).toUInt32 % 65536).toInt32.toInt8.toInt32 = x) (nI (64 * a.1 + r.1)).toInt8.toInt32 := by decide +kernel
theorem yby_c {x : Int32} (h : x.toInt8.toInt32 = x) : ¬ ((x &&& 255).toUInt32 % 65536).toInt32 < 0 ∧ ((x &&& 255).toUInt32 % 65536).toInt32 ≤ 255 ∧ ((x &&& 255).toUInt32 % 65536).toInt32.toInt8.toInt32 = x := by
  obtain ⟨i, e⟩ := yby_i h
  have := yby_c1 ⟨i.1 / 64, by omega⟩ ⟨i.1 % 64, by omega⟩
  simp only [show 64 * (i.1 / 64) + i.1 % 64 = i.1 by omega] at this
  rw [← e] at this
  exact this
theorem yS_no {x : Int32} (h : ∀ i, i < 12 → ¬ (ix_sbyt.getD 1 []).getD i 0 = x) : yS x = false := by
  have a0 : ¬ (58 : Int32) = x := h 0 (by omega)
  have a1 : ¬ (59 : Int32) = x := h 1 (by omega)
  have a2 : ¬ (44 : Int32) = x := h 2 (by omega)
  have a3 : ¬ (60 : Int32) = x := h 3 (by omega)
  have a4 : ¬ (62 : Int32) = x := h 4 (by omega)
  have a5 : ¬ (61 : Int32) = x := h 5 (by omega)
  have a6 : ¬ (43 : Int32) = x := h 6 (by omega)
  have a7 : ¬ (45 : Int32) = x := h 7 (by omega)
  have a8 : ¬ (42 : Int32) = x := h 8 (by omega)
  have a9 : ¬ (47 : Int32) = x := h 9 (by omega)
  have b0 : ¬ (40 : Int32) = x := h 10 (by omega)
  have b1 : ¬ (41 : Int32) = x := h 11 (by omega)
  unfold yS
  rw [decide_eq_false (fun z => a0 z.symm), decide_eq_false (fun z => a1 z.symm), decide_eq_false (fun z => a2 z.symm), decide_eq_false (fun z => a3 z.symm), decide_eq_false (fun z => a4 z.symm), decide_eq_false (fun z => a5 z.symm), decide_eq_false (fun z => a6 z.symm), decide_eq_false (fun z => a7 z.symm), decide_eq_false (fun z => a8 z.symm), decide_eq_false (fun z => a9 z.symm), decide_eq_false (fun z => b0 z.symm), decide_eq_false (fun z => b1 z.symm)]
  rfl
theorem yS_y1 : ∀ i : Fin 12, yS ((ix_sbyt.getD 1 []).getD i.1 0) = true := by decide +kernel
theorem yfS {x : Int32} (hx : x.toInt8.toInt32 = x) {I : Nat → Nat → Int32} {J : Nat → Nat → Int64} {T : Option Nat} {P : Int32 → (Nat → Nat → Int32) → (Nat → Nat → Int64) → Option Nat → Prop} (h1 : yS x = true → ∀ v : Int32, ¬ v < 0 → P v I J T) (h0 : yS x = false → P (-1) I J T) : wp_J_indexOf1_s2 (((x &&& 255).toUInt32 % 65536).toInt32) I J T P := by
  obtain ⟨b1, b2, b3⟩ := yby_c hx
  unfold wp_J_indexOf1_s2 wp_J_indexOf2_s2 wp_J_isLatin1_s2 wp_J_length_s2 wp_J_coder_s2 wp_J_lindexOf_rs6 wp_J_canEncode
  refine ⟨fun z => absurd z (by decide), fun _ => ⟨by decide, ⟨fun z => absurd z b1, fun _ => ⟨fun _ => ⟨fun z => absurd z (by decide), fun _ => ?_⟩, fun z => absurd b2 z⟩⟩⟩⟩
  unfold wp_J9_max_7cf53 wp_J9_min_7cf53 wp_J_indexOfChar_rs6
  have body : wl_J_indexOfChar_rs6_7 12 x 0 I J T P := by
    intro V hV
    have key : ∀ m i, i + m = 12 → (∀ j, j < i → ¬ (ix_sbyt.getD 1 []).getD j 0 = x) → V 12 x (nI i) I J T := by
      intro m
      induction m with
      | zero =>
        intro i hi no
        have hi : i = 12 := by omega
        subst hi
        apply hV
        unfold wb_J_indexOfChar_rs6_7
        exact ⟨fun z => absurd z (by decide), fun _ => h0 (yS_no no)⟩
      | succ m ih =>
        intro i hi no
        apply hV
        unfold wb_J_indexOfChar_rs6_7
        rw [nI_clamp (show i < 2 ^ 31 by omega), nI_1]
        refine ⟨fun _ => ⟨nI_in2 (by omega) (by decide), fun g => ?_, fun g => ih (i + 1) (by omega) (fun j hj => ?_)⟩, fun z => absurd ((yi_lt (b := 12) (by omega) (by omega)).mpr (by omega)) z⟩
        · refine h1 ?_ _ (fun z => ?_)
          · rw [← g]
            exact yS_y1 ⟨i, by omega⟩
          · rw [Int32.lt_iff_toInt_lt, nI_toInt (by omega)] at z
            have z : (i : Int) < 0 := z
            omega
        · by_cases e : j = i
          · rw [e]; exact g
          · exact no j (by omega)
    exact key 12 0 rfl (fun j hj => by omega)
  refine ⟨fun z => absurd z (by decide), fun _ => ⟨fun _ => ⟨fun _ => ?_, fun z => absurd (by decide) z⟩, fun z => absurd (by decide) z⟩⟩
  rw [b3]
  exact body
theorem yf_tt {b : Nat → Int32} {n k s : Nat} (hk : k < 601) (hn : n ≤ 600) {I : Nat → Nat → Int32} {J : Nat → Nat → Int64} {T : Option Nat} {P : Int32 → (Nat → Nat → Int32) → (Nat → Nat → Int64) → Option Nat → Prop} (hb : ∀ q, q < n → I 45 q = b q ∧ (b q).toInt8.toInt32 = b q) (h2 : I 44 2 = nI n) (hs : s ≤ n) (h3 : I 44 3 = nI s) (hP : ∀ I2 J2, fr_off [(44, 45, 3, 4)] I I2 → fr_off [(48, 49, k, k + 1)] J J2 → I2 44 3 = nI (yen b n s) → (ykd b n s = 20 → J2 48 k = lZ (ynm (ydg b) 10 (yen b n s - s) s 0 : Nat)) → (ykd b n s = 18 → J2 48 k = lZ (ynm (ylt b) 27 (yen b n s - s) s 0 : Nat)) → P (ykd b n s) I2 J2 T) : wp_X7_tellToken (nI k) I J T P := by
  have hb1 : ∀ q, q < n → I 45 q = b q := fun q hq => (hb q hq).1
  have up : ∀ v : Int64, fr_off [(48, 49, k, k + 1)] J (ix_u2 J 48 k v) := fun v => fr_put (by simp [fr_in, fr_1]) fr_refl
  unfold wp_X7_tellToken
  rw [h3, h2, nI_clamp (show s < 2 ^ 31 by omega)]
  refine ⟨fun g => ?_, fun g => ?_⟩
  · have g : s < n := (yi_lt (by omega) (by omega)).mp g
    have ek : ykd b n s = if yL (b s) then nI (ywk b s (yen b n s)) else if yD (b s) then (if yen b n s - s ≤ 7 then 20 else 22) else if yS (b s) then b s else 22 := by unfold ykd; rw [if_neg (by omega)]
    rw [hb1 s g]
    refine ⟨nI_in2 (by omega) (by decide), yfL (fun y => ⟨fun z => absurd z (by decide), fun _ => ?_⟩) (fun y => ⟨fun _ => yfD (fun d => ⟨fun z => absurd z (by decide), fun _ => ?_⟩) (fun d => ⟨fun _ => yfS (hb s g).2 (fun q v hv => ⟨fun z => absurd z hv, fun _ => ?_⟩) (fun q => ⟨fun _ => ?_, fun z => absurd (by decide) z⟩), fun z => absurd rfl z⟩), fun z => absurd rfl z⟩)⟩
    · rw [y, if_pos rfl] at ek
      refine yf_tw hk hn hb1 h2 g y h3 (fun I2 v o2 e3 ev => ?_)
      rw [← ek]
      have hw := ywk_le b s (yen b n s)
      refine hP I2 _ o2 (up v) e3 (fun e => ?_) (fun e => ?_)
      · rw [ek] at e
        have e := (nI_eq (b := 20) (by omega) (by omega)).mp e
        omega
      · rw [ek] at e
        have e := (nI_eq (b := 18) (by omega) (by omega)).mp e
        have : yen b n s - s ≤ 8 := by
          unfold ywk at e
          by_cases c : yen b n s - s ≤ 8
          · exact c
          · rw [if_neg c] at e; omega
        rw [ev this]
        simp [u2_e]
    · rw [y, if_neg (by decide), d, if_pos rfl] at ek
      refine yf_tn hk hn hb1 h2 g d y h3 (fun I2 v o2 e3 ev => ?_)
      rw [← ek]
      refine hP I2 _ o2 (up v) e3 (fun e => ?_) (fun e => ?_)
      · rw [ek] at e
        by_cases c : yen b n s - s ≤ 7
        · rw [ev c]; simp [u2_e]
        · rw [if_neg c] at e; exact absurd e (by decide)
      · rw [ek] at e
        by_cases c : yen b n s - s ≤ 7
        · rw [if_pos c] at e; exact absurd e (by decide)
        · rw [if_neg c] at e; exact absurd e (by decide)
    · rw [y, if_neg (by decide), d, if_neg (by decide), q, if_pos rfl] at ek
      rw [← ek, h3, nI_1]
      have ee : yen b n s = s + 1 := by unfold yen; rw [if_neg (by omega), y, if_neg (by decide), d, if_neg (by decide)]
      have q18 : ∀ x : Int32, yS x = true → ¬ x = 20 ∧ ¬ x = 18 := fun x hx => ⟨fun e => by rw [e] at hx; exact absurd hx (by decide), fun e => by rw [e] at hx; exact absurd hx (by decide)⟩
      refine hP _ J (fr_put rfl fr_refl) fr_refl (by rw [ee]; simp [u2_e]) (fun e => ?_) (fun e => ?_)
      · rw [ek] at e; exact absurd e (q18 _ q).1
      · rw [ek] at e; exact absurd e (q18 _ q).2
    · rw [y, if_neg (by decide), d, if_neg (by decide), q, if_neg (by decide)] at ek
      rw [← ek, h3, nI_1]
      have ee : yen b n s = s + 1 := by unfold yen; rw [if_neg (by omega), y, if_neg (by decide), d, if_neg (by decide)]
      refine hP _ J (fr_put rfl fr_refl) fr_refl (by rw [ee]; simp [u2_e]) (fun e => ?_) (fun e => ?_)
      · rw [ek] at e; exact absurd e (by decide)
      · rw [ek] at e; exact absurd e (by decide)
  · have g : n ≤ s := by
      by_cases q : s < n
      · exact absurd ((yi_lt (by omega) (by omega)).mpr q) g
      · omega
    have ek : ykd b n s = 21 := by unfold ykd; rw [if_pos g]
    have ee : yen b n s = s := by unfold yen; rw [if_pos g]
    rw [← ek]
    refine hP I J fr_refl fr_refl (by rw [ee]; exact h3) (fun e => ?_) (fun e => ?_)
    · rw [ek] at e; exact absurd e (by decide)
    · rw [ek] at e; exact absurd e (by decide)
def yst (b : Nat → Int32) (n : Nat) : Nat → Nat
  | 0 => 0
  | c + 1 => yen b n (yps b n c)
theorem yst_le (b : Nat → Int32) (n : Nat) : ∀ c, yst b n c ≤ n
  | 0 => Nat.zero_le _
  | c + 1 => (ye_le b n c).2
theorem yps_st (b : Nat → Int32) (n : Nat) : ∀ c, yps b n c = ypl b n (yst b n c)
  | 0 => rfl
  | c + 1 => rfl
/-- what the class holds of the tokens below k -/
def ytok (b : Nat → Int32) (n k : Nat) (I : Nat → Nat → Int32) (J : Nat → Nat → Int64) : Prop := ∀ j, j < k → I 46 j = yk b n j ∧ I 47 j = nI (yps b n j) ∧ (yk b n j = 20 → J 48 j = yv b n j) ∧ (yk b n j = 18 → J 48 j = yn b n j)
theorem yf_tk {b : Nat → Int32} {n L : Nat} (hn : n ≤ 600) (hL : L ≤ n) (hL1 : yk b n L = 21 ∨ yk b n L = 22) (hL2 : ∀ c, c < L → yk b n c ≠ 21 ∧ yk b n c ≠ 22) {I : Nat → Nat → Int32} {J : Nat → Nat → Int64} {T : Option Nat} {P : (Nat → Nat → Int32) → (Nat → Nat → Int64) → Option Nat → Prop} (hb : ∀ q, q < n → I 45 q = b q ∧ (b q).toInt8.toInt32 = b q) (h2 : I 44 2 = nI n) (hP : ∀ I2 J2, fr_off [(44, 45, 3, 4), (44, 45, 7, 8), (46, 48, 0, 2147483648)] I I2 → fr_off [(48, 49, 0, 2147483648)] J J2 → I2 44 7 = nI (L + 1) → ytok b n (L + 1) I2 J2 → P I2 J2 T) : wp_X7_tellTokens I J T P := by
  unfold wp_X7_tellTokens
  intro V hV
  have key : ∀ m k I1 J1, k + m = L + 1 → fr_off [(44, 45, 3, 4), (44, 45, 7, 8), (46, 48, 0, 2147483648)] I I1 → fr_off [(48, 49, 0, 2147483648)] J J1 → I1 44 7 = nI k → I1 44 3 = nI (yst b n k) → ytok b n k I1 J1 → V (if k = L + 1 then 0 else 1) (nI k) I1 J1 T := by
    intro m
    induction m with
    | zero =>
      intro k I1 J1 hk o1 r1 e7 e3 tk
      have hk : k = L + 1 := by omega
      subst hk
      rw [if_pos rfl]
      apply hV
      unfold wb_X7_tellTokens_14
      exact ⟨fun _ => ⟨fun _ => hP I1 J1 o1 r1 e7 tk, fun z => absurd rfl z⟩, fun _ => hP I1 J1 o1 r1 e7 tk⟩
    | succ m ih =>
      intro k I1 J1 hk o1 r1 e7 e3 tk
      rw [if_neg (by omega)]
      apply hV
      unfold wb_X7_tellTokens_14
      refine ⟨fun _ => ⟨fun z => absurd z (by decide), fun _ => ?_⟩, fun z => absurd ((yi_le (b := 600) (by omega) (by omega)).mpr (by omega)) z⟩
      have e45 : I1 45 = I 45 := fr_rw1 o1 45 rfl
      have e2 : I1 44 2 = nI n := by rw [fr_at 44 2 o1 rfl]; exact h2
      have hps := yps_st b n k
      have hpl := yps_le b n k
      intro U hU
      -- the token itself
      have tell : ∀ I2, fr_off [(44, 45, 3, 4)] I1 I2 → I2 44 3 = nI (yps b n k) → ix_inb (nI k) 601 = true ∧ wp_X7_tellToken (nI k) (ix_u2 I2 47 (nI k).toNatClampNeg (I2 44 3)) J1 T (fun v17 I17 J17 T17 => ix_inb (nI k) 601 = true ∧ ix_inb (nI k) 601 = true ∧ (((ix_u2 I17 46 (nI k).toNatClampNeg v17) 46 (nI k).toNatClampNeg = 21 → V 0 (nI k + 1) (ix_u2 (ix_u2 I17 46 (nI k).toNatClampNeg v17) 44 7 (I17 44 7 + 1)) J17 T17) ∧ (¬ (ix_u2 I17 46 (nI k).toNatClampNeg v17) 46 (nI k).toNatClampNeg = 21 → ix_inb (nI k) 601 = true ∧ (((ix_u2 I17 46 (nI k).toNatClampNeg v17) 46 (nI k).toNatClampNeg = 22 → V 0 (nI k + 1) (ix_u2 (ix_u2 I17 46 (nI k).toNatClampNeg v17) 44 7 (I17 44 7 + 1)) J17 T17) ∧ (¬ (ix_u2 I17 46 (nI k).toNatClampNeg v17) 46 (nI k).toNatClampNeg = 22 → V 1 (nI k + 1) (ix_u2 (ix_u2 I17 46 (nI k).toNatClampNeg v17) 44 7 (I17 44 7 + 1)) J17 T17))))) := by
        intro I2 o2 e32
        have ik : ix_inb (nI k) 601 = true := nI_in2 (by omega) (by decide)
        rw [nI_clamp (show k < 2 ^ 31 by omega), nI_1, e32]
        refine ⟨ik, ?_⟩
        have o2b : fr_off [(44, 45, 3, 4), (44, 45, 7, 8), (46, 48, 0, 2147483648)] I1 (ix_u2 I2 47 k (nI (yps b n k))) := fr_putn rfl (by omega) (fr_mono (by decide) o2)
        have a45 : (ix_u2 I2 47 k (nI (yps b n k))) 45 = I 45 := by rw [fr_rw1 o2b 45 rfl, e45]
        have a2 : (ix_u2 I2 47 k (nI (yps b n k))) 44 2 = nI n := by rw [fr_at 44 2 o2b rfl]; exact e2
        refine yf_tt (b := b) (n := n) (by omega) hn (fun q hq => ⟨by rw [a45]; exact (hb q hq).1, (hb q hq).2⟩) a2 hpl (by simp [u2_e]; exact e32) (fun I3 J3 o3 r3 e33 ev en => ⟨ik, ik, ?_⟩)
        have s46 : (ix_u2 I3 46 k (ykd b n (yps b n k))) 46 k = ykd b n (yps b n k) := by simp [u2_e]
        have e73 : I3 44 7 = nI k := by rw [fr_at 44 7 o3 rfl]; simp only [u2_e]; rw [fr_at 44 7 o2 rfl]; simpa using e7
        rw [s46, e73, nI_1]
        have O : fr_off [(44, 45, 3, 4), (44, 45, 7, 8), (46, 48, 0, 2147483648)] I (ix_u2 (ix_u2 I3 46 k (ykd b n (yps b n k))) 44 7 (nI (k + 1))) := fr_put rfl (fr_putn rfl (by omega) (fr_trans o1 (fr_trans o2b (fr_mono (by decide) o3))))
        have R : fr_off [(48, 49, 0, 2147483648)] J J3 := fr_trans r1 (fun a j q => r3 a j (by
          simp only [fr_in, fr_1, List.any_cons, List.any_nil, Bool.or_false, Bool.and_eq_false_iff, Nat.ble_eq, Nat.blt_eq] at q ⊢
          by_cases ea : a = 48
          · subst ea
            right; right
            by_cases e : k ≤ j ∧ j < k + 1
            · exfalso
              have hj : j = k := by omega
              subst hj
              rcases q with q | q | q | q
              · exact absurd q (by simp)
              · exact absurd q (by simp)
              · exact absurd q (by simp)
              · have : ¬ j < 2147483648 := fun z => by rw [← Nat.blt_eq] at z; rw [z] at q; cases q
                omega
            · by_cases c1 : k ≤ j
              · right
                rw [Bool.eq_false_iff]
                intro z
                rw [Nat.blt_eq] at z
                omega
              · left
                rw [Bool.eq_false_iff]
                intro z
                rw [Nat.ble_eq] at z
                omega
          · rcases q with q | q | q
            · exact Or.inl q
            · exact Or.inr (Or.inl q)
            · by_cases c1 : 48 ≤ a
              · right; left
                rw [Bool.eq_false_iff]
                intro z
                rw [Nat.blt_eq] at z
                omega
              · left
                rw [Bool.eq_false_iff]
                intro z
                rw [Nat.ble_eq] at z
                omega))
        have TK : ytok b n (k + 1) (ix_u2 (ix_u2 I3 46 k (ykd b n (yps b n k))) 44 7 (nI (k + 1))) J3 := by
          intro j hj
          by_cases e : j = k
          · subst e
            refine ⟨by simp [u2_e]; rfl, ?_, ev, en⟩
            simp only [u2_e]
            rw [fr_at 47 j o3 rfl]
            simp [u2_e]
          · obtain ⟨t1, t2, t3, t4⟩ := tk j (by omega)
            have jj : J3 48 j = J1 48 j := r3 48 j (by
              simp only [fr_in, fr_1, List.any_cons, List.any_nil, Bool.or_false]
              by_cases c1 : k ≤ j
              · have : Nat.blt j (k + 1) = false := by rw [Bool.eq_false_iff]; intro z; rw [Nat.blt_eq] at z; omega
                simp [this]
              · have : Nat.ble k j = false := by rw [Bool.eq_false_iff]; intro z; rw [Nat.ble_eq] at z; omega
                simp [this])
            refine ⟨?_, ?_, fun h => by rw [jj]; exact t3 h, fun h => by rw [jj]; exact t4 h⟩
            · have : I3 46 j = I1 46 j := by rw [fr_at 46 j o3 rfl, u2_c (by decide), fr_at 46 j o2 rfl]
              simp [u2_e, e, this]
              exact t1
            · have : I3 47 j = I1 47 j := by rw [fr_at 47 j o3 rfl, u2_j e, fr_at 47 j o2 rfl]
              simp [u2_e, this]
              exact t2
        have S3 : (ix_u2 (ix_u2 I3 46 k (ykd b n (yps b n k))) 44 7 (nI (k + 1))) 44 3 = nI (yst b n (k + 1)) := by
          simp [u2_e]; exact e33
        have nx := ih (k + 1) _ J3 (by omega) O R (by simp [u2_e]) S3 TK
        refine ⟨fun z => ?_, fun z => ⟨ik, fun y => ?_, fun y => ?_⟩⟩
        · have : k + 1 = L + 1 := by
            by_cases c : k < L
            · exact absurd z (hL2 k c).1
            · omega
          rw [if_pos this] at nx
          exact nx
        · have : k + 1 = L + 1 := by
            by_cases c : k < L
            · exact absurd y (hL2 k c).2
            · omega
          rw [if_pos this] at nx
          exact nx
        · have : ¬ k + 1 = L + 1 := fun c => by
            have : k = L := by omega
            subst this
            rcases hL1 with h | h
            · exact z h
            · exact y h
          rw [if_neg this] at nx
          exact nx
      have k2 : ∀ r p I2, p + r = yps b n k → ypl b n p = yps b n k → fr_off [(44, 45, 3, 4)] I1 I2 → I2 44 3 = nI p → U (nI k) I2 J1 T := by
        intro r
        induction r with
        | zero =>
          intro p I2 hp hq o2 e32
          have hp : p = yps b n k := by omega
          subst hp
          have a45 : I2 45 = I 45 := by rw [fr_rw1 o2 45 rfl, e45]
          have a2 : I2 44 2 = nI n := by rw [fr_at 44 2 o2 rfl]; exact e2
          have tl := tell I2 o2 e32
          rw [e32] at tl
          apply hU
          unfold wb_X7_tellTokens_25_14
          rw [e32, a2, nI_clamp (show yps b n k < 2 ^ 31 by omega)]
          refine ⟨fun g => ?_, fun _ => tl⟩
          have g : yps b n k < n := (yi_lt (by omega) (by omega)).mp g
          have nb : yB (I2 45 (yps b n k)) = false := by
            rw [a45, (hb _ g).1]
            have := yR_out (f := fun q => yB (b q)) (m := n - yps b n k) (p := yps b n k) (by
              have : yR (fun q => yB (b q)) (n - yps b n k) (yps b n k) = yps b n k := hq
              omega)
            have e : yR (fun q => yB (b q)) (n - yps b n k) (yps b n k) = yps b n k := hq
            rw [e] at this
            exact this
          unfold yB at nb
          simp only [Bool.or_eq_false_iff, decide_eq_false_iff_not] at nb
          have ip : ix_inb (nI (yps b n k)) 600 = true := nI_in2 (by omega) (by decide)
          exact ⟨ip, fun z => absurd z nb.1, fun _ => ⟨ip, fun z => absurd z nb.2, fun _ => tl⟩⟩
        | succ r ir =>
          intro p I2 hp hq o2 e32
          have a45 : I2 45 = I 45 := by rw [fr_rw1 o2 45 rfl, e45]
          have a2 : I2 44 2 = nI n := by rw [fr_at 44 2 o2 rfl]; exact e2
          have g : p < n := by omega
          have bl : yB (b p) = true := yR_in (f := fun q => yB (b q)) (m := n - p) (p := p) (Nat.le_refl _) (by
            have e : yR (fun q => yB (b q)) (n - p) p = yps b n k := hq
            omega)
          have hq2 : ypl b n (p + 1) = yps b n k := by
            rw [← hq]
            exact (yR_st (f := fun q => yB (b q)) g bl).symm
          have nx : U (nI k) (ix_u2 I2 44 3 (nI (p + 1))) J1 T := ir (p + 1) _ (by omega) hq2 (fr_put rfl o2) (by simp [u2_e])
          apply hU
          unfold wb_X7_tellTokens_25_14
          rw [e32, a2, nI_clamp (show p < 2 ^ 31 by omega), nI_1]
          refine ⟨fun _ => ⟨nI_in2 (by omega) (by decide), fun _ => nx, fun c1 => ⟨nI_in2 (by omega) (by decide), fun _ => nx, fun c2 => ?_⟩⟩, fun z => absurd ((yi_lt (by omega) (by omega)).mpr g) z⟩
          exfalso
          rw [a45, (hb p g).1] at c1 c2
          unfold yB at bl
          rw [decide_eq_false c1, decide_eq_false c2] at bl
          cases bl
      have := (ypl_ge b (yst_le b n k)).1
      exact k2 (yps b n k - yst b n k) (yst b n k) I1 (by omega) hps.symm fr_refl e3
  have := key (L + 1) 0 (ix_u2 (ix_u2 I 44 3 0) 44 7 0) J (by omega) (fr_put rfl (fr_put rfl fr_refl)) fr_refl (by simp [u2_e]; rfl) (by simp [u2_e]; rfl) (fun j hj => by omega)
  rw [if_neg (by omega)] at this
  exact this
