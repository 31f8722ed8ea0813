/-! judge -/
def dn_ (W : Nat → Int32) (x y : Nat) : Nat → Nat
  | 0 => 0
  | i + 1 => dn_ W x y i + (W i).toNatClampNeg * ((x / 10 ^ i % 10 - y / 10 ^ i % 10) + (y / 10 ^ i % 10 - x / 10 ^ i % 10))
theorem dn_comm {W : Nat → Int32} {x y : Nat} : ∀ {n : Nat}, dn_ W x y n = dn_ W y x n
  | 0 => rfl
  | n + 1 => by rw [dn_, dn_, dn_comm, Nat.add_comm (x / 10 ^ n % 10 - y / 10 ^ n % 10)]
theorem dn_congr {W Z : Nat → Int32} {x y : Nat} : ∀ {n : Nat}, (∀ k, k < n → W k = Z k) → dn_ W x y n = dn_ Z x y n
  | 0, _ => rfl
  | n + 1, h => by rw [dn_, dn_, dn_congr (n := n) (fun k hk => h k (by omega)), h n (by omega)]
theorem dn_bd {W : Nat → Int32} {x y : Nat} : ∀ {n : Nat}, (∀ k, k < n → ∃ q : Nat, q ≤ 9 ∧ W k = nI q) → dn_ W x y n ≤ 81 * n
  | 0, _ => by rw [dn_]; omega
  | n + 1, h => by
    have h1 := dn_bd (x := x) (y := y) (n := n) (fun k hk => h k (by omega))
    obtain ⟨q, hq, e⟩ := h n (by omega)
    rw [dn_, e, nI_clamp (show q < 2 ^ 31 by omega)]
    have : q * ((x / 10 ^ n % 10 - y / 10 ^ n % 10) + (y / 10 ^ n % 10 - x / 10 ^ n % 10)) ≤ 9 * 9 := Nat.mul_le_mul hq (by omega)
    omega
theorem ab_nI {a b : Nat} (ha : a ≤ 9) (hb : b ≤ 9) {I : Nat → Nat → Int32} {J : Nat → Nat → Int64} {T : Option Nat} {P : Int32 → (Nat → Nat → Int32) → (Nat → Nat → Int64) → Option Nat → Prop} (hP : P (nI ((a - b) + (b - a))) I J T) : wp_J9_abs_0f7a4 (nI a - nI b) I J T P := by
  unfold wp_J9_abs_0f7a4
  rw [nI_iZ, nI_iZ, iZ_sub, iZ_neg]
  have e0 : (0 : Int32) = iZ 0 := rfl
  rw [e0, iZ_lt (by omega) (by omega)]
  refine ⟨fun c => ?_, fun c => ?_⟩
  · rw [show (-((a : Int) - b)) = (((a - b) + (b - a) : Nat) : Int) by omega, ← nI_iZ]; exact hP
  · rw [show ((a : Int) - b) = (((a - b) + (b - a) : Nat) : Int) by omega, ← nI_iZ]; exact hP
theorem md_10 {a : Nat} (ha : a < 2147483648) : nI a - nI a / 10 * 10 = nI (a % 10) := by
  rw [show (10 : Int32) = nI 10 from rfl, nI_div ha (by omega) (by omega), nI_mul, nI_sub (by omega) ha, show a - a / 10 * 10 = a % 10 by omega]
theorem dv_10 {a i : Nat} (ha : a < 2147483648) : nI (a / 10 ^ i) / 10 = nI (a / 10 ^ (i + 1)) := by
  rw [show (10 : Int32) = nI 10 from rfl, nI_div (Nat.lt_of_le_of_lt (Nat.div_le_self _ _) ha) (by omega) (by omega), Nat.div_div_eq_div_mul, Nat.pow_succ]
theorem lp_distC {x y : Nat} (hx : x ≤ 999999) (hy : y ≤ 999999) {I : Nat → Nat → Int32} {J : Nat → Nat → Int64} {T : Option Nat} {P : Int32 → (Nat → Nat → Int32) → (Nat → Nat → Int64) → Option Nat → Prop} (hw : ∀ k, k < 6 → ∃ q : Nat, q ≤ 9 ∧ I 203 k = nI q) (hP : P (nI (dn_ (I 203) x y 6)) I J T) : wl_X3_distance_11 0 (nI x) (nI y) 0 I J T P := by
  intro V hV
  have key : ∀ m i : Nat, i + m = 6 → V (nI (dn_ (I 203) x y i)) (nI (x / 10 ^ i)) (nI (y / 10 ^ i)) (nI i) I J T := by
    intro m
    induction m with
    | zero =>
      intro i hi
      have hi : i = 6 := by omega
      subst hi
      apply hV
      unfold wb_X3_distance_11
      exact ⟨fun q => absurd q (by decide), fun _ => hP⟩
    | succ m ih =>
      intro i hi
      have nxt := ih (i + 1) (by omega)
      obtain ⟨q, hq, e⟩ := hw i (by omega)
      have hxi : x / 10 ^ i < 2147483648 := Nat.lt_of_le_of_lt (Nat.div_le_self _ _) (by omega)
      have hyi : y / 10 ^ i < 2147483648 := Nat.lt_of_le_of_lt (Nat.div_le_self _ _) (by omega)
      rw [dn_, ← dv_10 (by omega), ← dv_10 (by omega), ← nI_add, ← nI_mul, e, nI_clamp (show q < 2 ^ 31 by omega)] at nxt
      apply hV
      unfold wb_X3_distance_11
      rw [nI_clamp (show i < 2 ^ 31 by omega), md_10 hxi, md_10 hyi, nI_1, e]
      exact ⟨fun _ => ⟨nI_in2 (by omega) (by decide), ab_nI (by omega) (by omega) nxt⟩, fun q => absurd (nI_lt (a := i) (b := 6) (by omega) (by omega)) q⟩
  have := key 6 0 (by omega)
  rw [Nat.pow_zero, Nat.div_one, Nat.div_one] at this
  exact this
def jb_ (D : Nat → Nat) : Nat → Nat
  | 0 => 0
  | k + 1 => if k = 0 ∨ D k ≤ D (jb_ D k) then k else jb_ D k
theorem jb_lt {D : Nat → Nat} : ∀ {n : Nat}, 0 < n → jb_ D n < n
  | n + 1, _ => by
    rw [jb_]
    by_cases c : n = 0 ∨ D n ≤ D (jb_ D n)
    · rw [if_pos c]; omega
    · rw [if_neg c]
      have := jb_lt (D := D) (n := n) (by omega)
      omega
def jd_ (F W : Nat → Int32) (x k : Nat) : Nat := dn_ W (F k).toNatClampNeg x 6
theorem lp_judgeC {x n : Nat} (hx : x ≤ 999999) (hn : n ≤ 20) {I : Nat → Nat → Int32} {J : Nat → Nat → Int64} {T : Option Nat} {P : Int32 → (Nat → Nat → Int32) → (Nat → Nat → Int64) → Option Nat → Prop} (en : I 200 0 = nI n) (hw : ∀ k, k < 6 → ∃ q : Nat, q ≤ 9 ∧ I 203 k = nI q) (hf : ∀ k, k < n → ∃ q : Nat, q ≤ 999999 ∧ I 201 k = nI q) (hP : P (if n = 0 then -1 else I 202 (jb_ (jd_ (I 201) (I 203) x) n)) I J T) : wl_X3_nearestRuling_8 (nI x) (-1) 2147483647 0 I J T P := by
  have bd : ∀ k, (jd_ (I 201) (I 203) x) k ≤ 486 := fun k => dn_bd (n := 6) hw
  intro V hV
  have key : ∀ m i : Nat, i + m = n → V (nI x) (if i = 0 then -1 else I 202 (jb_ (jd_ (I 201) (I 203) x) i)) (if i = 0 then 2147483647 else nI ((jd_ (I 201) (I 203) x) (jb_ (jd_ (I 201) (I 203) x) i))) (nI i) I J T := by
    intro m
    induction m with
    | zero =>
      intro i hi
      have hi : i = n := by omega
      subst hi
      apply hV
      unfold wb_X3_nearestRuling_8
      rw [en]
      exact ⟨fun q => absurd q (nI_nlt (Nat.le_refl _) (by omega)), fun _ => hP⟩
    | succ m ih =>
      intro i hi
      have nxt := ih (i + 1) (by omega)
      rw [if_neg (by omega), if_neg (by omega), jb_] at nxt
      obtain ⟨q, hq, e⟩ := hf i (by omega)
      have i5 : (nI i).toNatClampNeg = i := nI_clamp (by omega)
      have ed : (jd_ (I 201) (I 203) x) i = dn_ (I 203) q x 6 := by rw [jd_, e, nI_clamp (show q < 2 ^ 31 by omega)]
      apply hV
      unfold wb_X3_nearestRuling_8
      rw [en, i5, nI_1]
      refine ⟨fun _ => ⟨nI_in2 (by omega) (by decide), ?_⟩, fun q => absurd (nI_lt (by omega) (by omega)) q⟩
      unfold wp_X3_distance
      rw [e]
      refine lp_distC hq hx hw ?_
      rw [← ed]
      have hc : nI ((jd_ (I 201) (I 203) x) i) ≤ (if i = 0 then 2147483647 else nI ((jd_ (I 201) (I 203) x) (jb_ (jd_ (I 201) (I 203) x) i))) ↔ (i = 0 ∨ (jd_ (I 201) (I 203) x) i ≤ (jd_ (I 201) (I 203) x) (jb_ (jd_ (I 201) (I 203) x) i)) := by
        have b1 := bd i
        have b2 := bd (jb_ (jd_ (I 201) (I 203) x) i)
        by_cases c : i = 0
        · rw [if_pos c, Int32.le_iff_toInt_le, nI_toInt (by omega)]
          refine ⟨fun _ => Or.inl c, fun _ => ?_⟩
          show (((jd_ (I 201) (I 203) x) i : Nat) : Int) ≤ 2147483647
          omega
        · rw [if_neg c, Int32.le_iff_toInt_le, nI_toInt (by omega), nI_toInt (by omega)]
          omega
      refine ⟨fun c => ⟨nI_in2 (by omega) (by decide), ?_⟩, fun c => ?_⟩
      · rw [if_pos (hc.mp c)] at nxt; exact nxt
      · rw [if_neg (fun z => c (hc.mpr z))] at nxt
        by_cases c0 : i = 0
        · exact absurd (hc.mpr (Or.inl c0)) c
        · rw [if_neg c0, if_neg c0]; exact nxt
  exact key n 0 (by omega)
theorem lp_distM {x y : Nat} {x2 x3 x4 : Int32} (hx : x ≤ 999999) (hy : y ≤ 999999) {I : Nat → Nat → Int32} {J : Nat → Nat → Int64} {T : Option Nat} {P : Int32 → (Nat → Nat → Int32) → (Nat → Nat → Int64) → Option Nat → Prop} {V38 : Int32 → Int32 → Int32 → Int32 → (Nat → Nat → Int32) → (Nat → Nat → Int64) → Option Nat → Prop} (hw : ∀ k, k < 6 → ∃ q : Nat, q ≤ 9 ∧ I 273 k = nI q) (hP : ((x3 = -1 ∨ nI (dn_ (I 273) x y 6) ≤ x3) → V38 (nI x) x4 (nI (dn_ (I 273) x y 6)) (x4 + 1) I J T) ∧ (¬ (x3 = -1 ∨ nI (dn_ (I 273) x y 6) ≤ x3) → V38 (nI x) x2 x3 (x4 + 1) I J T)) : wl_X12_judge_65_38 (nI x) x2 x3 x4 0 (nI x) (nI y) 0 I J T V38 P := by
  intro V hV
  have key : ∀ m i : Nat, i + m = 6 → V (nI x) x2 x3 x4 (nI (dn_ (I 273) x y i)) (nI (x / 10 ^ i)) (nI (y / 10 ^ i)) (nI i) I J T := by
    intro m
    induction m with
    | zero =>
      intro i hi
      have hi : i = 6 := by omega
      subst hi
      apply hV
      unfold wb_X12_judge_65_38
      exact ⟨fun q => absurd q (by decide), fun _ => ⟨fun c => hP.1 (Or.inl c), fun c => ⟨fun c2 => hP.1 (Or.inr c2), fun c2 => hP.2 (fun z => z.elim c c2)⟩⟩⟩
    | succ m ih =>
      intro i hi
      have nxt := ih (i + 1) (by omega)
      obtain ⟨q, hq, e⟩ := hw i (by omega)
      have hxi : x / 10 ^ i < 2147483648 := Nat.lt_of_le_of_lt (Nat.div_le_self _ _) (by omega)
      have hyi : y / 10 ^ i < 2147483648 := Nat.lt_of_le_of_lt (Nat.div_le_self _ _) (by omega)
      rw [dn_, ← dv_10 (by omega), ← dv_10 (by omega), ← nI_add, ← nI_mul, e, nI_clamp (show q < 2 ^ 31 by omega)] at nxt
      apply hV
      unfold wb_X12_judge_65_38
      rw [nI_clamp (show i < 2 ^ 31 by omega), md_10 hxi, md_10 hyi, nI_1, e]
      exact ⟨fun _ => ⟨nI_in2 (by omega) (by decide), ab_nI (by omega) (by omega) nxt⟩, fun q => absurd (nI_lt (a := i) (b := 6) (by omega) (by omega)) q⟩
  have := key 6 0 (by omega)
  rw [Nat.pow_zero, Nat.div_one, Nat.div_one] at this
  exact this
theorem lp_judgeM {x n : Nat} {D : Nat → Nat} (hx : x ≤ 999999) (h1 : 1 ≤ n) (hn : n ≤ 20) {I : Nat → Nat → Int32} {J : Nat → Nat → Int64} {T : Option Nat} {P : Int32 → (Nat → Nat → Int32) → (Nat → Nat → Int64) → Option Nat → Prop} (en : I 204 107 = nI n) (hw : ∀ k, k < 6 → ∃ q : Nat, q ≤ 9 ∧ I 273 k = nI q) (hf : ∀ k, k < n → ∃ q : Nat, q ≤ 999999 ∧ I 274 k = nI q ∧ D k = dn_ (I 273) x q 6) (hP : P (I 275 (jb_ D n)) (ix_u2 I 204 0 0) J T) : wl_X12_judge_38 (nI x) 0 (-1) 0 I J T P := by
  have bd : ∀ k, k < n → D k ≤ 486 := fun k hk => by
    obtain ⟨q, -, -, e⟩ := hf k hk
    rw [e]
    exact dn_bd (n := 6) hw
  intro V hV
  have key : ∀ m i : Nat, i + m = n → V (nI x) (nI (jb_ D i)) (if i = 0 then -1 else nI (D (jb_ D i))) (nI i) I J T := by
    intro m
    induction m with
    | zero =>
      intro i hi
      have hi : i = n := by omega
      subst hi
      have := jb_lt (D := D) (n := i) (by omega)
      apply hV
      unfold wb_X12_judge_38 wp_X12_gives
      rw [en, nI_clamp (show jb_ D i < 2 ^ 31 by omega)]
      exact ⟨fun q => absurd q (nI_nlt (Nat.le_refl _) (by omega)), fun _ => ⟨nI_in2 (by omega) (by decide), hP⟩⟩
    | succ m ih =>
      intro i hi
      have nxt := ih (i + 1) (by omega)
      rw [if_neg (by omega), jb_] at nxt
      obtain ⟨q, hq, e, ed⟩ := hf i (by omega)
      have i5 : (nI i).toNatClampNeg = i := nI_clamp (by omega)
      apply hV
      unfold wb_X12_judge_38
      rw [en, i5, e]
      refine ⟨fun _ => ⟨nI_in2 (by omega) (by decide), ?_⟩, fun q => absurd (nI_lt (by omega) (by omega)) q⟩
      have b1 := bd i (by omega)
      refine lp_distM hx hq hw ?_
      rw [← ed, nI_1]
      have hc : ((if i = 0 then (-1 : Int32) else nI (D (jb_ D i))) = -1 ∨ nI (D i) ≤ (if i = 0 then (-1 : Int32) else nI (D (jb_ D i)))) ↔ (i = 0 ∨ D i ≤ D (jb_ D i)) := by
        by_cases c : i = 0
        · rw [if_pos c]
          exact ⟨fun _ => Or.inl c, fun _ => Or.inl rfl⟩
        · have b2 := bd (jb_ D i) (by have := jb_lt (D := D) (n := i) (by omega); omega)
          have n1 : ¬ nI (D (jb_ D i)) = -1 := fun e => by
            have := congrArg Int32.toInt e
            rw [nI_toInt (by omega)] at this
            have e0 : (-1 : Int32).toInt = -1 := rfl
            omega
          rw [if_neg c, Int32.le_iff_toInt_le, nI_toInt (by omega), nI_toInt (by omega)]
          constructor
          · intro z; cases z with
            | inl z => exact absurd z n1
            | inr z => right; omega
          · intro z; right; omega
      refine ⟨fun c => ?_, fun c => ?_⟩
      · rw [if_pos (hc.mp c)] at nxt; exact nxt
      · rw [if_neg (fun z => c (hc.mpr z))] at nxt
        by_cases c0 : i = 0
        · exact absurd (hc.mpr (Or.inl c0)) c
        · rw [if_neg c0]; exact nxt
  exact key n 0 (by omega)
theorem rp_judge (a : Int32) {I : Nat → Nat → Int32} {J : Nat → Nat → Int64} {T : Option Nat} {P : Int32 → Int32 → (Nat → Nat → Int32) → (Nat → Nat → Int64) → Option Nat → Prop} (h : RR I J) (hP : ∀ v I2 J2 T2, RR I2 J2 → P v v I2 J2 T2) : wp_X11_judge a I J T (fun v I1 J1 T1 => wp_X12_judge a I1 J1 T1 (fun w I2 J2 T2 => P v w I2 J2 T2)) := by
  obtain ⟨n, hn, n1, n2, hc⟩ := h.case
  have n4 : (nI n).toInt = (n : Int) := nI_toInt (by omega)
  have n5 : (nI n).toNatClampNeg = n := nI_clamp (by omega)
  have n6 : nI n = 20 ↔ n = 20 := nI_eq (by omega) (by decide)
  have n7 : nI n = 0 ↔ n = 0 := nI_eq (by omega) (by decide)
  by_cases q : (0 ≤ a.toInt ∧ a.toInt ≤ 999999) ∧ 1 ≤ n
  · obtain ⟨x, hx, rfl⟩ := ii_at (n := 1000000) q.1.1 (by omega) (by omega)
    have x4 : (nI x).toInt = (x : Int) := nI_toInt (by omega)
    have hw := h.wght
    have ej : ∀ k, k < n → ∃ q : Nat, q ≤ 999999 ∧ I 274 k = nI q ∧ jd_ (I 201) (I 203) x k = dn_ (I 273) x q 6 := fun k hk => by
      obtain ⟨e1, e2, ⟨q, hq, e3⟩, e4⟩ := hc k hk
      refine ⟨q, hq, e1.symm.trans e3, ?_⟩
      rw [jd_, e3, nI_clamp (show q < 2 ^ 31 by omega), dn_comm, dn_congr (Z := I 273) (fun k hk => (hw k hk).1)]
    have jl := jb_lt (D := jd_ (I 201) (I 203) x) (n := n) (by omega)
    obtain ⟨-, r2, -, r3, r4⟩ := hc (jb_ (jd_ (I 201) (I 203) x) n) jl
    have fM : wl_X12_judge_38 (nI x) 0 (-1) 0 (ix_u2 I 0 0 0) J T (fun v6 I6 J6 T6 => P (I 202 (jb_ (jd_ (I 201) (I 203) x) n)) v6 I6 J6 T6) := lp_judgeM (by omega) q.2 hn n2 (fun k hk => by
        obtain ⟨e1, z, hz, e2⟩ := hw k hk
        exact ⟨z, hz, e1.symm.trans e2⟩) ej (by
      show P (I 202 (jb_ (jd_ (I 201) (I 203) x) n)) (I 275 (jb_ (jd_ (I 201) (I 203) x) n)) _ _ _
      rw [← r2]
      exact hP _ _ _ _ (RR_st h 0))
    have fm : wp_X12_judge (nI x) (ix_u2 I 0 0 0) J T (fun w I3 J3 T3 => P (I 202 (jb_ (jd_ (I 201) (I 203) x) n)) w I3 J3 T3) := by
      simp only [wp_X12_judge, wp_X12_refuse, lgc_lt, lgc_le, lgc_eq, cmp_s, cmp_t, u2_e]
      try simp only [Int32.lt_iff_toInt_lt, Int32.le_iff_toInt_le]
      simp [n2, n4, x4, n7]
      repeat' (first | with_reducible exact fM | with_reducible refine And.intro ?_ ?_ | with_reducible intro _)
      all_goals try first | rfl | (exfalso; omega) | exact inb_of (by omega) (by omega) | with_reducible exact nI_in2 (by omega) (by omega)
    generalize hr : I 202 (jb_ (jd_ (I 201) (I 203) x) n) = r at r3 r4 fm
    have fa : wp_X11_answerOrNoneSuch r I J T (fun v10 I10 J10 T10 => wp_X12_judge (nI x) I10 J10 T10 (fun w I3 J3 T3 => P v10 w I3 J3 T3)) := by
      simp only [wp_X11_answerOrNoneSuch, lgc_lt, lgc_le, lgc_eq, cmp_s, cmp_t, u2_e]
      try simp only [Int32.lt_iff_toInt_lt, Int32.le_iff_toInt_le]
      simp
      repeat' (first | with_reducible refine And.intro ?_ ?_ | with_reducible intro _)
      all_goals try first | rfl | (exfalso; omega) | exact inb_of (by omega) (by omega) | with_reducible exact nI_in2 (by omega) (by omega) | with_reducible exact fm
    have fC : wl_X3_nearestRuling_8 (nI x) (-1) 2147483647 0 I J T (fun v9 I9 J9 T9 => wp_X11_answerOrNoneSuch v9 I9 J9 T9 (fun v10 I10 J10 T10 => wp_X12_judge (nI x) I10 J10 T10 (fun w I3 J3 T3 => P v10 w I3 J3 T3))) := lp_judgeC (by omega) hn n1 (fun k hk => (hw k hk).2) (fun k hk => (hc k hk).2.2.1) (by rw [if_neg (by omega), hr]; exact fa)
    simp only [wp_X11_judge, wp_X11_outside, wp_X11_refuse, wp_X3_nearestRuling, lgc_lt, lgc_le, lgc_eq, cmp_s, cmp_t, u2_e]
    try simp only [Int32.lt_iff_toInt_lt, Int32.le_iff_toInt_le]
    simp [n1, n4, x4]
    repeat' (first | with_reducible exact fC | with_reducible refine And.intro ?_ ?_ | with_reducible intro _)
    all_goals try first | rfl | (exfalso; omega) | exact inb_of (by omega) (by omega) | with_reducible exact nI_in2 (by omega) (by omega)
  · by_cases q0 : 0 ≤ a.toInt ∧ a.toInt ≤ 999999
    · obtain ⟨x, hx, rfl⟩ := ii_at (n := 1000000) q0.1 (by omega) (by omega)
      have x4 : (nI x).toInt = (x : Int) := nI_toInt (by omega)
      have hn0 : n = 0 := by omega
      subst hn0
      have fm : wp_X12_judge (nI x) (ix_u2 I 0 0 6) J T (fun w I3 J3 T3 => P (-1) w I3 J3 T3) := by
        simp only [wp_X12_judge, wp_X12_refuse, lgc_lt, lgc_le, lgc_eq, cmp_s, cmp_t, u2_e]
        try simp only [Int32.lt_iff_toInt_lt, Int32.le_iff_toInt_le]
        simp [n2, n4, x4, n7]
        repeat' (first | with_reducible refine And.intro ?_ ?_ | with_reducible intro _)
        all_goals try first | rfl | (exfalso; omega) | exact inb_of (by omega) (by omega) | with_reducible exact nI_in2 (by omega) (by omega) | exact hP _ _ _ _ (RR_st h 6)
      have fa : wp_X11_answerOrNoneSuch (-1) I J T (fun v10 I10 J10 T10 => wp_X12_judge (nI x) I10 J10 T10 (fun w I3 J3 T3 => P v10 w I3 J3 T3)) := by
        simp only [wp_X11_answerOrNoneSuch, lgc_lt, lgc_le, lgc_eq, cmp_s, cmp_t, u2_e]
        try simp only [Int32.lt_iff_toInt_lt, Int32.le_iff_toInt_le]
        simp
        repeat' (first | with_reducible refine And.intro ?_ ?_ | with_reducible intro _)
        all_goals try first | rfl | (exfalso; omega) | exact inb_of (by omega) (by omega) | with_reducible exact nI_in2 (by omega) (by omega) | with_reducible exact fm
      have fC : wl_X3_nearestRuling_8 (nI x) (-1) 2147483647 0 I J T (fun v9 I9 J9 T9 => wp_X11_answerOrNoneSuch v9 I9 J9 T9 (fun v10 I10 J10 T10 => wp_X12_judge (nI x) I10 J10 T10 (fun w I3 J3 T3 => P v10 w I3 J3 T3))) := lp_judgeC (by omega) hn n1 (fun k hk => (h.wght k hk).2) (fun k hk => (hc k hk).2.2.1) (by rw [if_pos rfl]; exact fa)
      simp only [wp_X11_judge, wp_X11_outside, wp_X11_refuse, wp_X3_nearestRuling, lgc_lt, lgc_le, lgc_eq, cmp_s, cmp_t, u2_e]
      try simp only [Int32.lt_iff_toInt_lt, Int32.le_iff_toInt_le]
      simp [n1, n4, x4]
      repeat' (first | with_reducible exact fC | with_reducible refine And.intro ?_ ?_ | with_reducible intro _)
      all_goals try first | rfl | (exfalso; omega) | exact inb_of (by omega) (by omega) | with_reducible exact nI_in2 (by omega) (by omega)
    · skip
      simp only [wp_X11_judge, wp_X12_judge, wp_X11_answerOrNoneSuch, wp_X11_outside, wp_X11_refuse, wp_X3_nearestRuling, wp_X12_refuse, lgc_lt, lgc_le, lgc_eq, cmp_s, cmp_t, u2_e]
      try simp only [Int32.lt_iff_toInt_lt, Int32.le_iff_toInt_le]
      simp [n1, n2, n4, n7]
      repeat' (first | with_reducible refine And.intro ?_ ?_ | with_reducible intro _)
      all_goals try first | rfl | (exfalso; omega) | exact inb_of (by omega) (by omega) | exact hP _ _ _ _ (RR_st h 1) | exact hP _ _ _ _ (RR_st h 6) | with_reducible exact nI_in2 (by omega) (by omega)

