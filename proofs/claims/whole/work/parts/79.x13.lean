/-! books: the class joins the lines -/
def mt_ (x : Nat) : Int32 := if x = 12 then -1 else nI x
theorem hs_w {n1 : Nat} {co : Nat → Nat → Nat} {g t : Nat → Nat} : ∀ {n : Nat}, (∀ r, 1 ≤ r → r ≤ n → (g (r - 1) = 12 ∧ ¬ t r - 1 < n1) ∨ (g (r - 1) ≠ 12 ∧ t r - 1 < n1 ∧ g (r - 1) = t r - 1)) → hs_sum (fun r => bkw n1 co r (t r)) n = bkA co g n * 23298085122481 + bkL g n
  | 0, _ => rfl
  | n + 1, h => by
    have ih := hs_w (co := co) (g := g) (t := t) (n := n) (fun r a b => h r a (by omega))
    rw [hs_sum, ih, bkA, bkL]
    have h1 := h (n + 1) (by omega) (Nat.le_refl _)
    rw [Nat.add_sub_cancel] at h1
    unfold bkw bkc
    rw [Nat.add_sub_cancel]
    rcases h1 with ⟨a, b⟩ | ⟨a, b, c⟩
    · rw [if_neg b, if_pos a, a]
      rw [Int.add_mul]
      have : ((12 : Nat) : Int) = 12 := rfl
      rw [this]
      omega
    · rw [if_pos b, if_neg a, c]
      rw [Int.add_mul]
      omega
theorem jl_best {m n0 n1 : Nat} {co : Nat → Nat → Nat} {u v : Nat → Int} {p : Nat → Nat} (h0 : n0 ≤ 12) (h1 : n1 ≤ 12) (hmn : m = n0 + n1) (h : hu_I m 605750213184506 (bkw n1 co) n0 u v p) : ∃ s : Nat → Nat, (∀ r, 1 ≤ r → r ≤ n0 → (1 ≤ s r ∧ s r ≤ m) ∧ p (s r) = r) ∧ ∀ i, i < n0 → (if s (i + 1) ≤ n1 then s (i + 1) - 1 else 12) = bkg n0 n1 co i := by
  obtain ⟨s, s1, s2, s3⟩ := hu_best h
  refine ⟨s, s1, ?_⟩
  have gV : bkV n0 n1 (fun i => if s (i + 1) ≤ n1 then s (i + 1) - 1 else 12) := by
    refine ⟨fun i hi => ?_, fun i j hij hj e => ?_⟩
    · have := (s1 (i + 1) (by omega) (by omega)).1
      by_cases c : s (i + 1) ≤ n1
      · left; show (if s (i + 1) ≤ n1 then s (i + 1) - 1 else 12) < n1; rw [if_pos c]; omega
      · right; show (if s (i + 1) ≤ n1 then s (i + 1) - 1 else 12) = 12; rw [if_neg c]
    · have a := (s1 (i + 1) (by omega) (by omega)).1
      have b := (s1 (j + 1) (by omega) (by omega)).1
      have e : (if s (i + 1) ≤ n1 then s (i + 1) - 1 else 12) = (if s (j + 1) ≤ n1 then s (j + 1) - 1 else 12) := e
      show (if s (i + 1) ≤ n1 then s (i + 1) - 1 else 12) = 12
      by_cases c : s (i + 1) ≤ n1
      · rw [if_pos c] at e ⊢
        by_cases d : s (j + 1) ≤ n1
        · rw [if_pos d] at e
          have := s2 (i + 1) (j + 1) (by omega) (by omega) (by omega) (by omega) (by omega)
          omega
        · rw [if_neg d] at e; exact e
      · rw [if_neg c]
  have wS : hs_sum (fun r => bkw n1 co r (s r)) n0 = bkA co (fun i => if s (i + 1) ≤ n1 then s (i + 1) - 1 else 12) n0 * 23298085122481 + bkL (fun i => if s (i + 1) ≤ n1 then s (i + 1) - 1 else 12) n0 := hs_w (fun r r1 r2 => by
    have a := (s1 r r1 r2).1
    show ((if s (r - 1 + 1) ≤ n1 then s (r - 1 + 1) - 1 else 12) = 12 ∧ _) ∨ ((if s (r - 1 + 1) ≤ n1 then s (r - 1 + 1) - 1 else 12) ≠ 12 ∧ _ ∧ (if s (r - 1 + 1) ≤ n1 then s (r - 1 + 1) - 1 else 12) = _)
    rw [show r - 1 + 1 = r by omega]
    by_cases c : s r ≤ n1
    · rw [if_pos c]; right; omega
    · rw [if_neg c]; left; omega)
  refine bk_same h0 h1 gV (fun f hf => ?_)
  have t1 := s3 (fun r => if f (r - 1) = 12 then n1 + r else f (r - 1) + 1) (fun r r1 r2 => by
    have := hf.1 (r - 1) (by omega)
    show 1 ≤ (if f (r - 1) = 12 then n1 + r else f (r - 1) + 1) ∧ (if f (r - 1) = 12 then n1 + r else f (r - 1) + 1) ≤ m
    by_cases c : f (r - 1) = 12
    · rw [if_pos c]; omega
    · rw [if_neg c]; omega) (fun r q r1 r2 q1 q2 e => by
    have a := hf.1 (r - 1) (by omega)
    have b := hf.1 (q - 1) (by omega)
    have e : (if f (r - 1) = 12 then n1 + r else f (r - 1) + 1) = (if f (q - 1) = 12 then n1 + q else f (q - 1) + 1) := e
    by_cases c : f (r - 1) = 12
    · rw [if_pos c] at e
      by_cases d : f (q - 1) = 12
      · rw [if_pos d] at e; omega
      · rw [if_neg d] at e; omega
    · rw [if_neg c] at e
      by_cases d : f (q - 1) = 12
      · rw [if_pos d] at e; omega
      · rw [if_neg d] at e
        rcases Nat.lt_trichotomy r q with l | l | l
        · exact absurd (hf.2 (r - 1) (q - 1) (by omega) (by omega) (by omega)) c
        · exact l
        · exact absurd (hf.2 (q - 1) (r - 1) (by omega) (by omega) (by omega)) d)
  rw [wS] at t1
  have wF : hs_sum (fun r => bkw n1 co r ((fun r => if f (r - 1) = 12 then n1 + r else f (r - 1) + 1) r)) n0 = bkA co f n0 * 23298085122481 + bkL f n0 := hs_w (fun r r1 r2 => by
    have a := hf.1 (r - 1) (by omega)
    show (f (r - 1) = 12 ∧ ¬ (if f (r - 1) = 12 then n1 + r else f (r - 1) + 1) - 1 < n1) ∨ (f (r - 1) ≠ 12 ∧ (if f (r - 1) = 12 then n1 + r else f (r - 1) + 1) - 1 < n1 ∧ f (r - 1) = (if f (r - 1) = 12 then n1 + r else f (r - 1) + 1) - 1)
    by_cases c : f (r - 1) = 12
    · rw [if_pos c]; left; omega
    · rw [if_neg c]; right; omega)
  rw [wF] at t1
  exact t1
theorem fn_jl {n0 n1 : Nat} {N D G : Nat → Nat → Nat} (h0 : n0 ≤ 12) (h1 : n1 ≤ 12) {I : Nat → Nat → Int32} {J : Nat → Nat → Int64} {T : Option Nat} {P : (Nat → Nat → Int32) → (Nat → Nat → Int64) → Option Nat → Prop} (e0 : I 182 0 = nI n0) (e1 : I 182 1 = nI n1) (h : bkM I n0 n1 N D G) (hf : ∀ k, k < 12 → J 193 k = lZ (13 ^ (11 - k))) (hP : ∀ I2 J2, fr_off [(192, 193, 0, 2147483648), (197, 200, 0, 2147483648)] I I2 → fr_off [(194, 197, 0, 2147483648)] J J2 → (∀ i, i < n0 → I2 192 i = mt_ (bkg n0 n1 (bko N D G) i)) → P I2 J2 T) : wp_X2_joinLines I J T P := by
  have cb : ∀ a b, bko N D G a b ≤ 50 := fun a b => bko_le
  have wb := bkw_bd h1 cb
  have bm : ∀ {I1 : Nat → Nat → Int32}, fr_off [(192, 193, 0, 2147483648), (197, 200, 0, 2147483648)] I I1 → bkM I1 n0 n1 N D G := fun {I1} o => by
    unfold bkM
    rw [fr_rw1 o 184 rfl, fr_rw1 o 185 rfl, fr_rw1 o 187 rfl, fr_rw1 o 188 rfl, fr_rw1 o 190 rfl, fr_rw1 o 191 rfl]
    exact h
  have le_ : ∀ {a b : Nat}, a < 100 → b < 100 → (nI a ≤ nI b ↔ a ≤ b) := fun {a b} ha hb => by
    rw [Int32.le_iff_toInt_le, nI_toInt (by omega), nI_toInt (by omega)]
    omega
  unfold wp_X2_joinLines
  rw [show ((0 : Int32)).toNatClampNeg = 0 from rfl, show ((1 : Int32)).toNatClampNeg = 1 from rfl, e0, e1, nI_add]
  intro V16 hV16
  have fin : ∀ (I1 : Nat → Nat → Int32) (J1 : Nat → Nat → Int64) (u v : Nat → Int) (p : Nat → Nat) (V49 : Int32 → Int32 → (Nat → Nat → Int32) → (Nat → Nat → Int64) → Option Nat → Prop), fr_off [(192, 193, 0, 2147483648), (197, 200, 0, 2147483648)] I I1 → fr_off [(194, 197, 0, 2147483648)] J J1 → (∀ r, r ≤ 12 → J1 194 r = lZ (u r)) → (∀ c, c ≤ n0 + n1 → J1 195 c = lZ (v c) ∧ I1 197 c = nI (p c)) → hu_I (n0 + n1) 605750213184506 (bkw n1 (bko N D G)) n0 u v p → wl_X2_joinLines_85_16_49 0 I1 J1 T V16 V49 P := by
    intro I1 J1 u v p V49 o oj mg1 mg2 hI
    obtain ⟨s, s1, s2⟩ := jl_best h0 h1 rfl hI
    obtain ⟨iA, iB, -⟩ := hI
    intro V85 hV85
    have key85 : ∀ (q k : Nat) (I2 : Nat → Nat → Int32), k + q = n0 → fr_off [(192, 193, 0, 2147483648), (197, 200, 0, 2147483648)] I I2 → I2 197 = I1 197 → (∀ i, i < k → I2 192 i = -1) → V85 (nI k) I2 J1 T := by
      intro q
      induction q with
      | zero =>
        intro k I2 hk o2 e2 g
        have hk : k = n0 := by omega
        subst hk
        apply hV85
        unfold wb_X2_joinLines_85_16_49
        rw [show ((0 : Int32)).toNatClampNeg = 0 from rfl, fr_at 182 0 o2 rfl, e0]
        refine ⟨fun z => absurd z (nI_nlt (Nat.le_refl _) (by omega)), fun _ => ?_⟩
        intro V110 hV110
        have key110 : ∀ (q c : Nat) (I3 : Nat → Nat → Int32), c + q = n1 + 1 → 1 ≤ c → fr_off [(192, 193, 0, 2147483648), (197, 200, 0, 2147483648)] I I3 → I3 197 = I1 197 → (∀ i, i < k → I3 192 i = if s (i + 1) < c then nI (s (i + 1) - 1) else -1) → V110 (nI c) I3 J1 T := by
          intro q
          induction q with
          | zero =>
            intro c I3 hc c1 o3 e3 g3
            have hc : c = n1 + 1 := by omega
            subst hc
            apply hV110
            unfold wb_X2_joinLines_110_16_49_85
            rw [show ((1 : Int32)).toNatClampNeg = 1 from rfl, fr_at 182 1 o3 rfl, e1, le_ (by omega) (by omega)]
            refine ⟨fun z => by omega, fun _ => hP I3 J1 o3 oj (fun i hi => ?_)⟩
            rw [g3 i hi, ← s2 i hi]
            unfold mt_
            have a := (s1 (i + 1) (by omega) (by omega)).1
            by_cases x : s (i + 1) ≤ n1
            · rw [if_pos (by omega), if_pos x, if_neg (by omega)]
            · rw [if_neg (by omega), if_neg x, if_pos rfl]
          | succ q ih =>
            intro c I3 hc c1 o3 e3 g3
            have ic : ix_inb (nI c) 25 = true := nI_in2 (by omega) (by decide)
            have pe : I3 197 c = nI (p c) := by rw [e3]; exact (mg2 c (by omega)).2
            have pc := iA c c1 (by omega)
            have pz : nI (p c) ≤ 0 ↔ p c = 0 := by
              rw [Int32.le_iff_toInt_le, nI_toInt (by omega)]
              show ((p c : Nat) : Int) ≤ 0 ↔ _
              omega
            apply hV110
            unfold wb_X2_joinLines_110_16_49_85
            rw [show ((1 : Int32)).toNatClampNeg = 1 from rfl, fr_at 182 1 o3 rfl, e1, le_ (by omega) (by omega), nI_clamp (show c < 2 ^ 31 by omega), pe, pz]
            simp only [nI_1]
            refine ⟨fun _ => ⟨ic, fun z => ih (c + 1) I3 (by omega) (by omega) o3 e3 (fun i hi => ?_), fun z => ⟨ic, ?_⟩⟩, fun z => absurd (by omega) z⟩
            · rw [g3 i hi]
              have a := s1 (i + 1) (by omega) (by omega)
              have ne : s (i + 1) ≠ c := fun e => by
                have := a.2
                rw [e, z] at this
                omega
              by_cases x : s (i + 1) < c
              · rw [if_pos x, if_pos (by omega)]
              · rw [if_neg x, if_neg (by omega)]
            · rw [nI_dec (show 0 < p c by omega), nI_clamp (show p c - 1 < 2 ^ 31 by omega), nI_dec (show 0 < c by omega)]
              refine ⟨nI_in2 (by omega) (by decide), ih (c + 1) _ (by omega) (by omega) (fr_putn rfl (by omega) o3) (by rw [u2_r (by decide)]; exact e3) (fun i hi => ?_)⟩
              have a := s1 (i + 1) (by omega) (by omega)
              by_cases x : i = p c - 1
              · subst x
                have e : s (p c - 1 + 1) = c := by
                  rw [show p c - 1 + 1 = p c by omega] at a ⊢
                  exact iB _ _ a.1.1 a.1.2 c1 (by omega) a.2 (by rw [a.2]; omega)
                rw [u2_s, if_pos (by omega), e]
              · rw [u2_j x, g3 i hi]
                have ne : s (i + 1) ≠ c := fun e => by
                  have := a.2
                  rw [e] at this
                  omega
                by_cases y : s (i + 1) < c
                · rw [if_pos y, if_pos (by omega)]
                · rw [if_neg y, if_neg (by omega)]
        exact key110 n1 1 I2 (by omega) (by omega) o2 e2 (fun i hi => by rw [g i hi, if_neg (by have := (s1 (i + 1) (by omega) (by omega)).1; omega)])
      | succ q ih =>
        intro k I2 hk o2 e2 g
        apply hV85
        unfold wb_X2_joinLines_85_16_49
        rw [show ((0 : Int32)).toNatClampNeg = 0 from rfl, fr_at 182 0 o2 rfl, e0, nI_clamp (show k < 2 ^ 31 by omega), nI_1]
        refine ⟨fun _ => ⟨nI_in2 (by omega) (by decide), ih (k + 1) _ (by omega) (fr_putn rfl (by omega) o2) (by rw [u2_r (by decide)]; exact e2) (fun i hi => ?_)⟩, fun z => absurd (nI_lt (by omega) (by omega)) z⟩
        by_cases x : i = k
        · subst x; exact u2_s
        · rw [u2_j x]; exact g i (by omega)
    exact key85 n0 0 I1 (by omega) o rfl (fun i hi => by omega)
  have rows : ∀ (I1 : Nat → Nat → Int32) (J1 : Nat → Nat → Int64) (u v : Nat → Int) (p : Nat → Nat), fr_off [(192, 193, 0, 2147483648), (197, 200, 0, 2147483648)] I I1 → fr_off [(194, 197, 0, 2147483648)] J J1 → (∀ r, r ≤ 12 → J1 194 r = lZ (u r)) → (∀ c, c ≤ n0 + n1 → J1 195 c = lZ (v c) ∧ I1 197 c = nI (p c)) → hu_I (n0 + n1) 605750213184506 (bkw n1 (bko N D G)) 0 u v p → wl_X2_joinLines_49_16 (nI (n0 + n1)) 1 I1 J1 T V16 P := by
    intro I1 J1 u v p o oj mg1 mg2 hI V49 hV49
    have key49 : ∀ (q i : Nat) (I2 : Nat → Nat → Int32) (J2 : Nat → Nat → Int64) (u v : Nat → Int) (p : Nat → Nat), i + q = n0 → fr_off [(192, 193, 0, 2147483648), (197, 200, 0, 2147483648)] I I2 → fr_off [(194, 197, 0, 2147483648)] J J2 → (∀ r, r ≤ 12 → J2 194 r = lZ (u r)) → (∀ c, c ≤ n0 + n1 → J2 195 c = lZ (v c) ∧ I2 197 c = nI (p c)) → hu_I (n0 + n1) 605750213184506 (bkw n1 (bko N D G)) i u v p → V49 (nI (n0 + n1)) (nI (i + 1)) I2 J2 T := by
      intro q
      induction q with
      | zero =>
        intro i I2 J2 u v p hi o2 oj2 mg1 mg2 hI2
        have hi : i = n0 := by omega
        subst hi
        apply hV49
        unfold wb_X2_joinLines_49_16
        rw [show ((0 : Int32)).toNatClampNeg = 0 from rfl, fr_at 182 0 o2 rfl, e0, le_ (by omega) (by omega)]
        exact ⟨fun z => by omega, fun _ => fin I2 J2 u v p V49 o2 oj2 mg1 mg2 hI2⟩
      | succ q ih =>
        intro i I2 J2 u v p hi o2 oj2 mg1 mg2 hI2
        apply hV49
        unfold wb_X2_joinLines_49_16
        rw [show ((0 : Int32)).toNatClampNeg = 0 from rfl, fr_at 182 0 o2 rfl, e0, le_ (by omega) (by omega), nI_clamp (show i + 1 < 2 ^ 31 by omega)]
        simp only [nI_1]
        refine ⟨fun _ => ⟨nI_in2 (by omega) (by decide), ?_⟩, fun z => absurd (by omega) z⟩
        have oj3 : fr_off [(194, 197, 0, 2147483648)] J (ix_u2 J2 194 (i + 1) 0) := fr_putn rfl (by omega) oj2
        have mg3 : ∀ r, r ≤ 12 → ix_u2 J2 194 (i + 1) 0 194 r = lZ ((fun r => if r = i + 1 then 0 else u r) r) := fun r hr => by
          try dsimp only
          by_cases e : r = i + 1
          · rw [if_pos e, e]; exact u2_s
          · rw [if_neg e, u2_j e]; exact mg1 r hr
        have mg4 : ∀ c, c ≤ n0 + n1 → ix_u2 J2 194 (i + 1) 0 195 c = lZ (v c) ∧ I2 197 c = nI (p c) := fun c hc => by
          rw [u2_c (show 195 ≠ 194 by decide)]
          exact mg2 c hc
        have hI3 : hu_I (n0 + n1) 605750213184506 (bkw n1 (bko N D G)) i (fun r => if r = i + 1 then 0 else u r) v p := by
          obtain ⟨a1, a2, a3, a4, a5, a6, a7⟩ := hI2
          refine ⟨a1, a2, a3, fun r c r1 r2 => ?_, fun c c1 c2 z => ?_, a6, fun r r1 r2 => ?_⟩
          · try dsimp only
            rw [if_neg (by omega)]; exact a4 r c r1 r2
          · try dsimp only
            have := a1 c c1 c2
            rw [if_neg (by omega)]; exact a5 c c1 c2 z
          · try dsimp only
            rw [if_neg (by omega)]; exact a7 r r1 r2
        refine fn_put h0 h1 rfl (by omega) (by rw [fr_at 182 1 o2 rfl]; exact e1) (bm o2) (by rw [fr_rw1 oj3 193 rfl]; exact hf) mg3 mg4 hI3 (if_pos rfl) (fun I4 J4 k u4 v4 sl4 p4 wy4 us4 rk a o4 oj4 mm4 hp4 pa => ?_)
        refine fn_shf h0 h1 rfl (show i < n0 by omega) wb mm4 hp4 pa (fun I5 p5 o5 mm5 hI5 => ?_)
        exact ih (i + 1) I5 J4 u4 v4 p5 (by omega) (fr_trans o2 (fr_trans (fr_mono (by decide) o4) (fr_mono (by decide) o5))) (fr_trans oj3 oj4) mm5.1 (fun c hc => ⟨(mm5.2 c hc).1, (mm5.2 c hc).2.2.1⟩) hI5
    exact key49 n0 0 I1 J1 u v p (by omega) o oj mg1 mg2 hI
  have key16 : ∀ (q c : Nat) (I1 : Nat → Nat → Int32) (J1 : Nat → Nat → Int64), c + q = n0 + n1 + 1 → fr_off [(192, 193, 0, 2147483648), (197, 200, 0, 2147483648)] I I1 → fr_off [(194, 197, 0, 2147483648)] J J1 → (∀ x, x < c → J1 195 x = 0 ∧ I1 197 x = 0) → V16 (nI (n0 + n1)) (nI c) I1 J1 T := by
    intro q
    induction q with
    | zero =>
      intro c I1 J1 hc o oj g
      have hc : c = n0 + n1 + 1 := by omega
      subst hc
      apply hV16
      unfold wb_X2_joinLines_16
      rw [le_ (by omega) (by omega)]
      refine ⟨fun z => by omega, fun _ => rows I1 J1 (fun r => (J1 194 r).toInt) (fun _ => 0) (fun _ => 0) o oj (fun r _ => lZ_of _) (fun c hc => ⟨(g c (by omega)).1, (g c (by omega)).2⟩) ?_⟩
      · exact ⟨fun c _ _ => Nat.le_refl _, fun c d _ _ _ _ _ z => absurd rfl z, fun r r1 r2 => by omega, fun r c r1 r2 => by omega, fun c _ _ z => absurd rfl z, fun c _ _ => ⟨Int.le_refl _, fun _ => rfl⟩, fun r r1 r2 => by omega⟩
    | succ q ih =>
      intro c I1 J1 hc o oj g
      have ic : ix_inb (nI c) 25 = true := nI_in2 (by omega) (by decide)
      apply hV16
      unfold wb_X2_joinLines_16
      have c24 : nI c ≤ 24 ↔ c ≤ 24 := le_ (a := c) (b := 24) (by omega) (by omega)
      rw [le_ (by omega) (by omega), c24, nI_clamp (show c < 2 ^ 31 by omega), nI_1]
      refine ⟨fun _ => ⟨fun _ => ⟨ic, ic, ih (c + 1) _ _ (by omega) (fr_putn rfl (by omega) o) (fr_putn rfl (by omega) oj) (fun x hx => ?_)⟩, fun z => absurd (by omega) z⟩, fun z => absurd (by omega) z⟩
      by_cases e : x = c
      · subst e; rw [u2_s, u2_s]; exact ⟨rfl, rfl⟩
      · rw [u2_j e, u2_j e]; exact g x (by omega)
  exact key16 (n0 + n1 + 1) 0 I J (by omega) fr_refl fr_refl (fun x hx => by omega)
