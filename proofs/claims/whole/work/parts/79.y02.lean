/-! treaties: the class tells the tokens apart -/
theorem yL_j {x : Int32} (h : yL x = true) : ∃ j : Nat, j < 26 ∧ x = nI (97 + j) := by
  unfold yL at h
  simp only [Bool.and_eq_true, decide_eq_true_eq] at h
  obtain ⟨h1, h2⟩ := h
  rw [Int32.le_iff_toInt_le] at h1 h2
  have h1 : (97 : Int) ≤ x.toInt := h1
  have h2 : x.toInt ≤ 122 := h2
  obtain ⟨i, hi, e⟩ := ii_at (n := 123) (x := x) (by omega) (by omega) (by decide)
  rw [e, nI_toInt (by omega)] at h1 h2
  exact ⟨i - 97, by omega, by rw [e]; congr 1; omega⟩
theorem yD_j {x : Int32} (h : yD x = true) : ∃ j : Nat, j < 10 ∧ x = nI (48 + j) := by
  unfold yD at h
  simp only [Bool.and_eq_true, decide_eq_true_eq] at h
  obtain ⟨h1, h2⟩ := h
  rw [Int32.le_iff_toInt_le] at h1 h2
  have h1 : (48 : Int) ≤ x.toInt := h1
  have h2 : x.toInt ≤ 57 := h2
  obtain ⟨i, hi, e⟩ := ii_at (n := 58) (x := x) (by omega) (by omega) (by decide)
  rw [e, nI_toInt (by omega)] at h1 h2
  exact ⟨i - 48, by omega, by rw [e]; congr 1; omega⟩
theorem yfL {x : Int32} {I : Nat → Nat → Int32} {J : Nat → Nat → Int64} {T : Option Nat} {P : Int32 → (Nat → Nat → Int32) → (Nat → Nat → Int64) → Option Nat → Prop} (h1 : yL x = true → P 1 I J T) (h0 : yL x = false → P 0 I J T) : wp_X7_isLetter x I J T P := by
  have n97 : (97 : Int32) ≤ x ↔ ¬ x < 97 := Int32.not_lt.symm
  unfold wp_X7_isLetter
  unfold yL at h1 h0
  refine ⟨fun c => h0 ?_, fun c => ⟨fun d => h1 ?_, fun d => h0 ?_⟩⟩
  · rw [decide_eq_false (fun z => n97.mp z c)]; rfl
  · rw [decide_eq_true (n97.mpr c), decide_eq_true d]; rfl
  · rw [decide_eq_false d, Bool.and_false]
theorem yfD {x : Int32} {I : Nat → Nat → Int32} {J : Nat → Nat → Int64} {T : Option Nat} {P : Int32 → (Nat → Nat → Int32) → (Nat → Nat → Int64) → Option Nat → Prop} (h1 : yD x = true → P 1 I J T) (h0 : yD x = false → P 0 I J T) : wp_X7_isDigit x I J T P := by
  have n97 : (48 : Int32) ≤ x ↔ ¬ x < 48 := Int32.not_lt.symm
  unfold wp_X7_isDigit
  unfold yD at h1 h0
  refine ⟨fun c => h0 ?_, fun c => ⟨fun d => h1 ?_, fun d => h0 ?_⟩⟩
  · rw [decide_eq_false (fun z => n97.mp z c)]; rfl
  · rw [decide_eq_true (n97.mpr c), decide_eq_true d]; rfl
  · rw [decide_eq_false d, Bool.and_false]
theorem yW_c1 : ∀ a : Fin 2, ∀ r : Fin 54, ((yW (54 * a.1 + r.1) &&& 255).toUInt32 % 65536).toInt32 = yW (54 * a.1 + r.1) ∧ (yW (54 * a.1 + r.1)).toUInt32.toUInt16.toUInt32.toInt32 = yW (54 * a.1 + r.1) := by decide +kernel
theorem yW_c {j : Nat} (hj : j < 108) : ((yW j &&& 255).toUInt32 % 65536).toInt32 = yW j ∧ (yW j).toUInt32.toUInt16.toUInt32.toInt32 = yW j := by
  have := yW_c1 ⟨j / 54, by omega⟩ ⟨j % 54, by omega⟩
  simp only [show 54 * (j / 54) + j % 54 = j by omega] at this
  exact this
theorem yW_t : ∀ c : Fin 18, ∀ k : Fin 6, (k.1 < yWl.getD c.1 0 → yL (yW (6 * c.1 + k.1)) = true) ∧ (yWl.getD c.1 0 ≤ k.1 → yW (6 * c.1 + k.1) = 32) ∧ yWl.getD c.1 0 ≤ 6 ∧ 0 < yWl.getD c.1 0 := by decide +kernel
theorem yfc {j : Nat} (hj : j < 108) {I : Nat → Nat → Int32} {J : Nat → Nat → Int64} {T : Option Nat} {P : Int32 → (Nat → Nat → Int32) → (Nat → Nat → Int64) → Option Nat → Prop} (hP : P (yW j) I J T) : wp_J_charAt_s1 (nI j) I J T P := by
  obtain ⟨h1, h2⟩ := yW_c hj
  unfold wp_J_charAt_s1 wp_J_isLatin1_s1 wp_J_lcharAt_rs5
  refine ⟨fun z => absurd z (by decide), fun _ => ?_⟩
  rw [nI_clamp (show j < 2 ^ 31 by omega)]
  change (_ ∧ _) ∧ _ ∧ ((yW j &&& 255).toUInt32 % 65536).toInt32.toUInt32.toUInt16.toUInt32.toInt32 = ((yW j &&& 255).toUInt32 % 65536).toInt32 ∧ ((yW j &&& 255).toUInt32 % 65536).toInt32.toUInt32.toUInt16.toUInt32.toInt32 = ((yW j &&& 255).toUInt32 % 65536).toInt32 ∧ P (((yW j &&& 255).toUInt32 % 65536).toInt32) I J T
  rw [h1]
  refine ⟨⟨fun z => ?_, (yi_lt (b := 108) (by omega) (by omega)).mpr hj⟩, nI_in2 hj (by decide), h2, h2, hP⟩
  rw [Int32.lt_iff_toInt_lt, nI_toInt (by omega)] at z
  have z : (j : Int) < 0 := z
  omega
def ycp (b : Nat → Int32) (s e j : Nat) : Int32 := if s + j < e then b (s + j) else 32
def yal (b : Nat → Int32) (s e c : Nat) : Nat → Nat
  | 0 => 0
  | k + 1 => yal b s e c k + (if yW (6 * c + k) = ycp b s e k then 1 else 0)
theorem yal_le (b : Nat → Int32) (s e c : Nat) : ∀ k, yal b s e c k ≤ k
  | 0 => Nat.le_refl _
  | k + 1 => by
    rw [yal]
    have := yal_le b s e c k
    split <;> omega
theorem yal_all {b : Nat → Int32} {s e c : Nat} : ∀ {k : Nat}, yal b s e c k = k ↔ ∀ j, j < k → yW (6 * c + j) = ycp b s e j
  | 0 => ⟨fun _ j hj => by omega, fun _ => rfl⟩
  | k + 1 => by
    have ih := @yal_all b s e c k
    have := yal_le b s e c k
    rw [yal]
    constructor
    · intro h j hj
      split at h
      · next g =>
        by_cases ej : j = k
        · rw [ej]; exact g
        · exact ih.mp (by omega) j (by omega)
      · omega
    · intro h
      rw [if_pos (h k (by omega)), ih.mpr (fun j hj => h j (by omega))]
theorem yal_q {b : Nat → Int32} {s e c : Nat} (hc : c < 18) (hs : s < e) (h6 : e - s ≤ 6) (hb : ∀ q, s ≤ q → q < e → yL (b q) = true) : yal b s e c 6 = 6 ↔ yq b s e c = true := by
  have no : ∀ {x : Int32}, yL x = true → x = 32 → False := fun h1 h2 => by rw [h2] at h1; exact absurd h1 (by decide)
  rw [yal_all]
  unfold yq
  rw [Bool.and_eq_true, List.all_eq_true, decide_eq_true_eq]
  have tb := fun k (hk : k < 6) => yW_t ⟨c, hc⟩ ⟨k, hk⟩
  have t0 := tb 0 (by omega)
  obtain ⟨-, -, t6, t7⟩ := t0
  simp only at t6 t7
  constructor
  · intro h
    have e1 : e - s = yWl.getD c 0 := by
      rcases Nat.lt_trichotomy (e - s) (yWl.getD c 0) with g | g | g
      · have h1 := h (e - s) (by omega)
        unfold ycp at h1
        rw [if_neg (by omega)] at h1
        exact (no ((tb (e - s) (by omega)).1 g) h1).elim
      · exact g
      · have h1 := h (yWl.getD c 0) (by omega)
        unfold ycp at h1
        have q1 : yW (6 * c + yWl.getD c 0) = 32 := (tb (yWl.getD c 0) (by omega)).2.1 (Nat.le_refl _)
        rw [if_pos (by omega), q1] at h1
        exact (no (hb _ (by omega) (by omega)) h1.symm).elim
    refine ⟨e1, fun k hk => ?_⟩
    rw [List.mem_range] at hk
    have h1 := h k (by omega)
    unfold ycp at h1
    rw [if_pos (by omega)] at h1
    exact decide_eq_true h1.symm
  · rintro ⟨e1, h⟩ j hj
    unfold ycp
    by_cases g : s + j < e
    · rw [if_pos g]
      have := h j (List.mem_range.mpr (by omega))
      simp only [decide_eq_true_eq] at this
      exact this.symm
    · rw [if_neg g]
      exact (tb j hj).2.1 (show yWl.getD c 0 ≤ j by omega)
theorem yK_18 {b : Nat → Int32} {s e : Nat} (h : 6 < e - s) : ∀ m c, c + m ≤ 18 → yK b s e m c = 18
  | 0, _, _ => rfl
  | m + 1, c, hc => by
    have t := (yW_t ⟨c, by omega⟩ ⟨0, by omega⟩).2.2.1
    simp only at t
    rw [yK, yK_18 h m (c + 1) (by omega)]
    have : yq b s e c = false := by
      unfold yq
      rw [decide_eq_false (by omega)]; rfl
    rw [this]; rfl
theorem yf_wk {b : Nat → Int32} {s e : Nat} {I : Nat → Nat → Int32} {J : Nat → Nat → Int64} {T : Option Nat} {P : Int32 → (Nat → Nat → Int32) → (Nat → Nat → Int64) → Option Nat → Prop} (hb : ∀ q, s ≤ q → q < e → yL (b q) = true ∧ I 45 q = b q) (hs : s < e) (he : e ≤ 600) (h3 : I 44 3 = nI e) (hP : P (nI (yK b s e 18 0)) I J T) : wp_X7_wordKind (nI s) I J T P := by
  unfold wp_X7_wordKind
  rw [h3, nI_sub (by omega) (by omega)]
  refine ⟨fun c6 => ?_, fun c6 => ?_⟩
  · have c6 : e - s ≤ 6 := (yi_le (b := 6) (by omega) (by omega)).mp c6
    intro V hV
    have key : ∀ m c, c + m = 18 → yK b s e m c = yK b s e 18 0 → V (nI s) (nI c) I J T := by
      intro m
      induction m with
      | zero =>
        intro c hc ek
        have hc : c = 18 := by omega
        subst hc
        apply hV
        unfold wb_X7_wordKind_16
        refine ⟨fun z => absurd z (by decide), fun _ => ?_⟩
        rw [← ek] at hP
        exact hP
      | succ m ih =>
        intro c hc ek
        rw [yK] at ek
        apply hV
        unfold wb_X7_wordKind_16
        refine ⟨fun _ => ?_, fun z => absurd ((yi_le (b := 17) (by omega) (by omega)).mpr (by omega)) z⟩
        intro U hU
        have k2 : ∀ r k, k + r = 6 → U (nI s) (nI c) (nI (yal b s e c k)) (nI k) I J T := by
          intro r
          induction r with
          | zero =>
            intro k hk
            have hk : k = 6 := by omega
            subst hk
            apply hU
            unfold wb_X7_wordKind_27_16
            refine ⟨fun z => absurd z (by decide), fun _ => ?_⟩
            have hy := yal_le b s e c 6
            have hq := yal_q (show c < 18 by omega) hs c6 (fun q h1 h2 => (hb q h1 h2).1)
            refine ⟨fun z => ?_, fun z => ?_⟩
            · have z : yal b s e c 6 = 6 := (nI_eq (b := 6) (by omega) (by omega)).mp z
              rw [if_pos (hq.mp z)] at ek
              rw [← ek] at hP
              exact hP
            · have z : ¬ yal b s e c 6 = 6 := fun y => z (by rw [y]; rfl)
              rw [if_neg (fun y => z (hq.mpr y))] at ek
              rw [nI_1]
              exact ih (c + 1) (by omega) ek
          | succ r ir =>
            intro k hk
            have nx := ir (k + 1) (by omega)
            rw [yal] at nx
            apply hU
            unfold wb_X7_wordKind_27_16
            have e6 : nI c * 6 + nI k = nI (6 * c + k) := by
              rw [show (6 : Int32) = nI 6 from rfl, nI_mul, nI_add]; congr 1; omega
            rw [h3, nI_add, e6, nI_1, nI_clamp (show s + k < 2 ^ 31 by omega)]
            refine ⟨fun _ => ⟨fun g => ?_, fun g => ?_⟩, fun z => absurd ((yi_lt (b := 6) (by omega) (by omega)).mpr (by omega)) z⟩
            · have g : s + k < e := (yi_lt (by omega) (by omega)).mp g
              refine ⟨nI_in2 (by omega) (by decide), yfc (by omega) ?_⟩
              unfold ycp at nx
              rw [if_pos g] at nx
              rw [(hb (s + k) (by omega) g).2]
              refine ⟨fun z => ?_, fun z => ?_⟩
              · rw [if_pos z] at nx
                rw [nI_1]; exact nx
              · rw [if_neg z] at nx
                rw [show nI (yal b s e c k) + 0 = nI (yal b s e c k) from Int32.add_zero _, nI_1]; exact nx
            · have g : ¬ s + k < e := fun y => g ((yi_lt (by omega) (by omega)).mpr y)
              refine yfc (by omega) ?_
              unfold ycp at nx
              rw [if_neg g] at nx
              refine ⟨fun z => ?_, fun z => ?_⟩
              · rw [if_pos z] at nx
                rw [nI_1]; exact nx
              · rw [if_neg z] at nx
                rw [show nI (yal b s e c k) + 0 = nI (yal b s e c k) from Int32.add_zero _, nI_1]; exact nx
        exact k2 6 0 rfl
    exact key 18 0 rfl rfl
  · have c6 : 6 < e - s := by
      by_cases g : e - s ≤ 6
      · exact absurd ((yi_le (b := 6) (by omega) (by omega)).mpr g) c6
      · omega
    rw [yK_18 c6 18 0 (by omega)] at hP
    exact hP
theorem ylt_v1 : ∀ j : Fin 26, ((nI (97 + j.1) - 97) + 1).toInt64 = lZ ((((nI (97 + j.1)).toInt - 96).toNat % 27 : Nat) : Int) ∧ 0 < (((nI (97 + j.1)).toInt - 96).toNat % 27) := by decide +kernel
theorem ylt_v {b : Nat → Int32} {p : Nat} (h : yL (b p) = true) : ((b p - 97) + 1).toInt64 = lZ (ylt b p : Nat) := by
  obtain ⟨j, hj, e⟩ := yL_j h
  unfold ylt
  rw [e]
  exact (ylt_v1 ⟨j, hj⟩).1
theorem ydg_v1 : ∀ j : Fin 10, (nI (48 + j.1) - 48).toInt64 = lZ ((((nI (48 + j.1)).toInt - 48).toNat % 10 : Nat) : Int) := by decide +kernel
theorem ydg_v {b : Nat → Int32} {p : Nat} (h : yD (b p) = true) : (b p - 48).toInt64 = lZ (ydg b p : Nat) := by
  obtain ⟨j, hj, e⟩ := yD_j h
  unfold ydg
  rw [e]
  exact ydg_v1 ⟨j, hj⟩
theorem yf_tw {b : Nat → Int32} {n k s : Nat} (hk : k < 601) (hn : n ≤ 600) {I : Nat → Nat → Int32} {J : Nat → Nat → Int64} {T : Option Nat} {P : Int32 → (Nat → Nat → Int32) → (Nat → Nat → Int64) → Option Nat → Prop} (hb : ∀ q, q < n → I 45 q = b q) (h2 : I 44 2 = nI n) (hs : s < n) (hl : yL (b s) = true) (h3 : I 44 3 = nI s) (hP : ∀ I2 v, fr_off [(44, 45, 3, 4)] I I2 → I2 44 3 = nI (yen b n s) → (yen b n s - s ≤ 8 → v = lZ (ynm (ylt b) 27 (yen b n s - s) s 0 : Nat)) → P (nI (ywk b s (yen b n s))) I2 (ix_u2 J 48 k v) T) : wp_X7_tellWord (nI k) I J T P := by
  have eE : yen b n s = yR (fun q => yL (b q)) (n - s) s := by unfold yen; rw [if_neg (by omega), if_pos hl]
  have hE := yR_ge (fun q => yL (b q)) (n - s) s
  have hi : ∀ q, s ≤ q → q < yen b n s → yL (b q) = true := fun q h1 h2 => by
    rw [eE] at h2
    exact yR_in h1 h2
  have ho : yen b n s < n → yL (b (yen b n s)) = false := fun h => by
    rw [eE] at h ⊢
    exact yR_out (f := fun q => yL (b q)) (by omega)
  have hgt := yen_gt b hs
  have hle : yen b n s ≤ n := by omega
  unfold wp_X7_tellWord
  rw [h3]
  intro V hV
  have key : ∀ m p v I1, p + m = yen b n s → s ≤ p → fr_off [(44, 45, 3, 4)] I I1 → I1 44 3 = nI p → (p - s ≤ 8 → v = lZ (ynm (ylt b) 27 (p - s) s 0 : Nat)) → V (nI k) (nI s) v I1 J T := by
    intro m
    induction m with
    | zero =>
      intro p v I1 hp hsp o1 e3 ev
      have hp : p = yen b n s := by omega
      subst hp
      have e2 : I1 44 2 = nI n := by rw [fr_at 44 2 o1 rfl]; exact h2
      have e45 : I1 45 = I 45 := fr_rw1 o1 45 rfl
      have fin : ix_inb (nI k) 601 = true ∧ ((nI (yen b n s) - nI s ≤ 8 → wp_X7_wordKind (nI s) I1 (ix_u2 J 48 (nI k).toNatClampNeg v) T (fun v12 I12 J12 T12 => P v12 I12 J12 T12)) ∧ (¬ nI (yen b n s) - nI s ≤ 8 → P 19 I1 (ix_u2 J 48 (nI k).toNatClampNeg v) T)) := by
        rw [nI_clamp (show k < 2 ^ 31 by omega), nI_sub (by omega) (by omega)]
        have hp := hP I1 v o1 e3 ev
        unfold ywk at hp
        refine ⟨nI_in2 hk (by decide), fun g => ?_, fun g => ?_⟩
        · have g : yen b n s - s ≤ 8 := (yi_le (b := 8) (by omega) (by omega)).mp g
          rw [if_pos g] at hp
          exact yf_wk (fun q h1 h2 => ⟨hi q h1 h2, by rw [e45]; exact hb q (by omega)⟩) hgt (by omega) e3 hp
        · have g : ¬ yen b n s - s ≤ 8 := fun y => g ((yi_le (b := 8) (by omega) (by omega)).mpr y)
          rw [if_neg g] at hp
          exact hp
      apply hV
      unfold wb_X7_tellWord_7
      rw [e3, e2, nI_clamp (show yen b n s < 2 ^ 31 by omega)]
      refine ⟨fun g => ?_, fun _ => fin⟩
      have g : yen b n s < n := (yi_lt (by omega) (by omega)).mp g
      refine ⟨nI_in2 (by omega) (by decide), yfL (fun y => ?_) (fun y => ?_)⟩
      · rw [e45, hb _ g, ho g] at y
        cases y
      · refine ⟨fun _ => ?_, fun z => absurd rfl z⟩
        rw [e3]
        exact fin
    | succ m ih =>
      intro p v I1 hp hsp o1 e3 ev
      have e2 : I1 44 2 = nI n := by rw [fr_at 44 2 o1 rfl]; exact h2
      have e45 : I1 45 = I 45 := fr_rw1 o1 45 rfl
      have lp := hi p hsp (by omega)
      apply hV
      unfold wb_X7_tellWord_7
      rw [e3, e2, nI_clamp (show p < 2 ^ 31 by omega)]
      refine ⟨fun _ => ⟨nI_in2 (by omega) (by decide), yfL (fun y => ?_) (fun y => ?_)⟩, fun z => absurd ((yi_lt (by omega) (by omega)).mpr (by omega)) z⟩
      · refine ⟨fun z => absurd z (by decide), fun _ => ?_⟩
        rw [e3, nI_sub hsp (by omega), nI_1, nI_clamp (show p < 2 ^ 31 by omega), e45, hb p (by omega), ylt_v lp]
        have o2 : fr_off [(44, 45, 3, 4)] I (ix_u2 I1 44 3 (nI (p + 1))) := fr_put rfl o1
        refine ⟨fun g => ⟨nI_in2 (by omega) (by decide), ih (p + 1) _ _ (by omega) (by omega) o2 (by simp [u2_e]) (fun _ => ?_)⟩, fun g => ih (p + 1) _ _ (by omega) (by omega) o2 (by simp [u2_e]) (fun y => ?_)⟩
        · have g : p - s < 8 := (yi_lt (b := 8) (by omega) (by omega)).mp g
          rw [ev (by omega), show p + 1 - s = (p - s) + 1 by omega, ynm_sn, show (27 : Int64) = lZ 27 from rfl, lZ_mul, lZ_add, show s + (p - s) = p by omega]
          congr 1
        · exact absurd ((yi_lt (b := 8) (by omega) (by omega)).mpr (show p - s < 8 by omega)) g
      · rw [e45, hb p (by omega), lp] at y
        cases y
  exact key (yen b n s - s) s 0 I (by omega) (Nat.le_refl _) fr_refl h3 (fun _ => by rw [Nat.sub_self]; rfl)
theorem yf_tn {b : Nat → Int32} {n k s : Nat} (hk : k < 601) (hn : n ≤ 600) {I : Nat → Nat → Int32} {J : Nat → Nat → Int64} {T : Option Nat} {P : Int32 → (Nat → Nat → Int32) → (Nat → Nat → Int64) → Option Nat → Prop} (hb : ∀ q, q < n → I 45 q = b q) (h2 : I 44 2 = nI n) (hs : s < n) (hl : yD (b s) = true) (hl2 : yL (b s) = false) (h3 : I 44 3 = nI s) (hP : ∀ I2 v, fr_off [(44, 45, 3, 4)] I I2 → I2 44 3 = nI (yen b n s) → (yen b n s - s ≤ 7 → v = lZ (ynm (ydg b) 10 (yen b n s - s) s 0 : Nat)) → P (if yen b n s - s ≤ 7 then 20 else 22) I2 (ix_u2 J 48 k v) T) : wp_X7_tellNumber (nI k) I J T P := by
  have eE : yen b n s = yR (fun q => yD (b q)) (n - s) s := by unfold yen; rw [if_neg (by omega), hl2, if_neg (by decide), if_pos hl]
  have hE := yR_ge (fun q => yD (b q)) (n - s) s
  have hi : ∀ q, s ≤ q → q < yen b n s → yD (b q) = true := fun q h1 h2 => by
    rw [eE] at h2
    exact yR_in h1 h2
  have ho : yen b n s < n → yD (b (yen b n s)) = false := fun h => by
    rw [eE] at h ⊢
    exact yR_out (f := fun q => yD (b q)) (by omega)
  have hgt := yen_gt b hs
  have hle : yen b n s ≤ n := by omega
  unfold wp_X7_tellNumber
  rw [h3]
  intro V hV
  have key : ∀ m p v I1, p + m = yen b n s → s ≤ p → fr_off [(44, 45, 3, 4)] I I1 → I1 44 3 = nI p → (p - s ≤ 7 → v = lZ (ynm (ydg b) 10 (p - s) s 0 : Nat)) → V (nI k) (nI s) v I1 J T := by
    intro m
    induction m with
    | zero =>
      intro p v I1 hp hsp o1 e3 ev
      have hp : p = yen b n s := by omega
      subst hp
      have e2 : I1 44 2 = nI n := by rw [fr_at 44 2 o1 rfl]; exact h2
      have e45 : I1 45 = I 45 := fr_rw1 o1 45 rfl
      have fin : ix_inb (nI k) 601 = true ∧ ((nI (yen b n s) - nI s ≤ 7 → P 20 I1 (ix_u2 J 48 (nI k).toNatClampNeg v) T) ∧ (¬ nI (yen b n s) - nI s ≤ 7 → P 22 I1 (ix_u2 J 48 (nI k).toNatClampNeg v) T)) := by
        rw [nI_clamp (show k < 2 ^ 31 by omega), nI_sub (by omega) (by omega)]
        have hp := hP I1 v o1 e3 ev
        refine ⟨nI_in2 hk (by decide), fun g => ?_, fun g => ?_⟩
        · have g : yen b n s - s ≤ 7 := (yi_le (b := 7) (by omega) (by omega)).mp g
          rw [if_pos g] at hp
          exact hp
        · have g : ¬ yen b n s - s ≤ 7 := fun y => g ((yi_le (b := 7) (by omega) (by omega)).mpr y)
          rw [if_neg g] at hp
          exact hp
      apply hV
      unfold wb_X7_tellNumber_7
      rw [e3, e2, nI_clamp (show yen b n s < 2 ^ 31 by omega)]
      refine ⟨fun g => ?_, fun _ => fin⟩
      have g : yen b n s < n := (yi_lt (by omega) (by omega)).mp g
      refine ⟨nI_in2 (by omega) (by decide), yfD (fun y => ?_) (fun y => ?_)⟩
      · rw [e45, hb _ g, ho g] at y
        cases y
      · refine ⟨fun _ => ?_, fun z => absurd rfl z⟩
        rw [e3]
        exact fin
    | succ m ih =>
      intro p v I1 hp hsp o1 e3 ev
      have e2 : I1 44 2 = nI n := by rw [fr_at 44 2 o1 rfl]; exact h2
      have e45 : I1 45 = I 45 := fr_rw1 o1 45 rfl
      have lp := hi p hsp (by omega)
      apply hV
      unfold wb_X7_tellNumber_7
      rw [e3, e2, nI_clamp (show p < 2 ^ 31 by omega)]
      refine ⟨fun _ => ⟨nI_in2 (by omega) (by decide), yfD (fun y => ?_) (fun y => ?_)⟩, fun z => absurd ((yi_lt (by omega) (by omega)).mpr (by omega)) z⟩
      · refine ⟨fun z => absurd z (by decide), fun _ => ?_⟩
        rw [e3, nI_1, nI_clamp (show p < 2 ^ 31 by omega), e45, hb p (by omega), ydg_v lp]
        have o2 : fr_off [(44, 45, 3, 4)] I (ix_u2 I1 44 3 (nI (p + 1))) := fr_put rfl o1
        refine ⟨nI_in2 (by omega) (by decide), ih (p + 1) _ _ (by omega) (by omega) o2 (by simp [u2_e]) (fun y => ?_)⟩
        rw [ev (by omega), show p + 1 - s = (p - s) + 1 by omega, ynm_sn, show (10 : Int64) = lZ 10 from rfl, lZ_mul, lZ_add, show s + (p - s) = p by omega]
        congr 1
      · rw [e45, hb p (by omega), lp] at y
        cases y
  exact key (yen b n s - s) s 0 I (by omega) (Nat.le_refl _) fr_refl h3 (fun _ => by rw [Nat.sub_self]; rfl)
