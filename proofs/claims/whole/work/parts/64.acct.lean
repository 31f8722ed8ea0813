/-! owes, balance -/
def sl_ (f : Nat → Int64) : Nat → Int64
  | 0 => 0
  | k + 1 => sl_ f k + f k
theorem sl_congr {f g : Nat → Int64} : ∀ {n : Nat}, (∀ k, k < n → f k = g k) → sl_ f n = sl_ g n
  | 0, _ => rfl
  | n + 1, h => by rw [sl_, sl_, sl_congr (n := n) (fun k hk => h k (by omega)), h n (by omega)]
theorem lp_balC {i : Nat} (hi : i < 7) {I : Nat → Nat → Int32} {J : Nat → Nat → Int64} {T : Option Nat} {P : Int64 → (Nat → Nat → Int32) → (Nat → Nat → Int64) → Option Nat → Prop} (hP : P (sl_ (fun k => J (126 + k) i - J (126 + i) k) 7) I J T) : wl_X0_balanceOf_5 (nI i) 0 0 I J T P := by
  have i5 : (nI i).toNatClampNeg = i := nI_clamp (by omega)
  intro V hV
  have key : ∀ m k : Nat, k + m = 7 → V (nI i) (sl_ (fun k => J (126 + k) i - J (126 + i) k) k) (nI k) I J T := by
    intro m
    induction m with
    | zero =>
      intro k hk
      have hk : k = 7 := by omega
      subst hk
      apply hV
      unfold wb_X0_balanceOf_5
      exact ⟨fun q => absurd q (by decide), fun _ => hP⟩
    | succ m ih =>
      intro k hk
      have nxt := ih (k + 1) (by omega)
      apply hV
      unfold wb_X0_balanceOf_5
      rw [re_125 hi, re_125 (show k < 7 by omega), nI_1, i5, nI_clamp (show k < 2 ^ 31 by omega)]
      exact ⟨fun _ => ⟨nI_in2 (by omega) (by decide), nI_in2 hi (by decide), nI_in2 hi (by decide), nI_in2 (by omega) (by decide), nxt⟩, fun q => absurd (nI_lt (a := k) (b := 7) (by omega) (by omega)) q⟩
  exact key 7 0 (by omega)
theorem lp_balM {i : Nat} (hi : i < 7) {I : Nat → Nat → Int32} {J : Nat → Nat → Int64} {T : Option Nat} {P : Int64 → (Nat → Nat → Int32) → (Nat → Nat → Int64) → Option Nat → Prop} (hP : P (sl_ (fun k => J 255 (7 * k + i) - J 255 (7 * i + k)) 7) I J T) : wl_X12_balanceOf_5 (nI i) 0 0 I J T P := by
  intro V hV
  have key : ∀ m k : Nat, k + m = 7 → V (nI i) (sl_ (fun k => J 255 (7 * k + i) - J 255 (7 * i + k)) k) (nI k) I J T := by
    intro m
    induction m with
    | zero =>
      intro k hk
      have hk : k = 7 := by omega
      subst hk
      apply hV
      unfold wb_X12_balanceOf_5
      exact ⟨fun q => absurd q (by decide), fun _ => hP⟩
    | succ m ih =>
      intro k hk
      have nxt := ih (k + 1) (by omega)
      apply hV
      unfold wb_X12_balanceOf_5 wp_X12_pair
      dsimp only
      rw [pr_7, pr_7, nI_1, nI_clamp (show 7 * k + i < 2 ^ 31 by omega), nI_clamp (show 7 * i + k < 2 ^ 31 by omega)]
      exact ⟨fun _ => ⟨nI_in2 (by omega) (by decide), nI_in2 (by omega) (by decide), nxt⟩, fun q => absurd (nI_lt (a := k) (b := 7) (by omega) (by omega)) q⟩
  exact key 7 0 (by omega)
theorem ac_eq {I : Nat → Nat → Int32} {J : Nat → Nat → Int64} (h : RR I J) {i k : Nat} (hi : i < 7) (hk : k < 7) : J (126 + i) k = J 255 (7 * i + k) := by
  have := (h.acct.2.2 i k hi hk).1
  rw [bJ_lt hi] at this
  exact this
theorem rp_owes (a : Int32) (b : Int32) {I : Nat → Nat → Int32} {J : Nat → Nat → Int64} {T : Option Nat} {P : Int64 → Int64 → (Nat → Nat → Int32) → (Nat → Nat → Int64) → Option Nat → Prop} (h : RR I J) (hP : ∀ v I2 J2 T2, RR I2 J2 → P v v I2 J2 T2) : wp_X11_owes a b I J T (fun v I1 J1 T1 => wp_X12_owes a b I1 J1 T1 (fun w I2 J2 T2 => P v w I2 J2 T2)) := by
  obtain ⟨n, hn, n1, n2⟩ := h.land
  have n3 : (nI n - 1).toInt = (n : Int) - 1 := nI_pm1 (by omega)
  have n4 : (nI n).toInt = (n : Int) := nI_toInt (by omega)
  obtain ⟨c1, c2, -⟩ := h.acct
  have c3 : I 124 0 = 0 ∧ I 204 80 = 0 ∨ I 124 0 = 1 ∧ I 204 80 = 1 := by
    rcases c2 with c2 | c2
    · exact Or.inl ⟨c2, c1.symm.trans c2⟩
    · exact Or.inr ⟨c2, c1.symm.trans c2⟩
  have t0 : ix_01 0 = true := rfl
  have t1 : ix_01 1 = true := rfl
  by_cases q : (0 ≤ a.toInt ∧ a.toInt < n) ∧ (0 ≤ b.toInt ∧ b.toInt < n)
  · obtain ⟨i, hi, rfl⟩ := ii_at q.1.1 q.1.2 (by omega)
    obtain ⟨j, hj, rfl⟩ := ii_at q.2.1 q.2.2 (by omega)
    have i4 : (nI i).toInt = (i : Int) := nI_toInt (by omega)
    have j4 : (nI j).toInt = (j : Int) := nI_toInt (by omega)
    have i5 : (nI i).toNatClampNeg = i := nI_clamp (by omega)
    have j5 : (nI j).toNatClampNeg = j := nI_clamp (by omega)
    have x5 : (nI (7 * i + j)).toNatClampNeg = 7 * i + j := nI_clamp (by omega)
    have y5 : (nI (7 * j + i)).toNatClampNeg = 7 * j + i := nI_clamp (by omega)
    have ij : nI i = nI j ↔ i = j := nI_eq (by omega) (by omega)
    have ei := re_125 (show i < 7 by omega)
    have ej := re_125 (show j < 7 by omega)
    have e1 := ac_eq h (show i < 7 by omega) (show j < 7 by omega)
    have e2 := ac_eq h (show j < 7 by omega) (show i < 7 by omega)
    rcases c3 with ⟨c3, c4⟩ | ⟨c3, c4⟩
    · skip
      simp only [wp_X11_owes, wp_X12_owes, wp_X0_isTold, wp_X0_netDebt, wp_X11_isPair, wp_X11_refuse, wp_J9_max_f86c9, wp_X12_areTwo, wp_X12_givesLong, wp_X12_pair, wp_X12_refuse, wp_X11_isLand, wp_X12_isLand, wp_X11_outside, wp_X5_count, lgc_lt, lgc_le, lgc_eq, cmp_s, cmp_t, u2_e]
      try simp only [Int32.lt_iff_toInt_lt, Int32.le_iff_toInt_le, Int64.lt_iff_toInt_lt, Int64.le_iff_toInt_le]
      simp [n1, n2, n3, n4, i4, j4, i5, j5, x5, y5, ei, ej, pr_7, e1, e2, c3, c4, t0, t1, ij]
      repeat' (first | with_reducible refine And.intro ?_ ?_ | with_reducible intro _)
      all_goals try first | rfl | (exfalso; omega) | exact inb_of (by omega) (by omega) | exact hP _ _ _ _ (RR_st h 0) | exact hP _ _ _ _ (RR_st h 1) | exact hP _ _ _ _ (RR_st h 6) | with_reducible exact nI_in2 (by omega) (by omega)
    · skip
      simp only [wp_X11_owes, wp_X12_owes, wp_X0_isTold, wp_X0_netDebt, wp_X11_isPair, wp_X11_refuse, wp_J9_max_f86c9, wp_X12_areTwo, wp_X12_givesLong, wp_X12_pair, wp_X12_refuse, wp_X11_isLand, wp_X12_isLand, wp_X11_outside, wp_X5_count, lgc_lt, lgc_le, lgc_eq, cmp_s, cmp_t, u2_e]
      try simp only [Int32.lt_iff_toInt_lt, Int32.le_iff_toInt_le, Int64.lt_iff_toInt_lt, Int64.le_iff_toInt_le]
      simp [n1, n2, n3, n4, i4, j4, i5, j5, x5, y5, ei, ej, pr_7, e1, e2, c3, c4, t0, t1, ij]
      repeat' (first | with_reducible refine And.intro ?_ ?_ | with_reducible intro _)
      all_goals try first | rfl | (exfalso; omega) | exact inb_of (by omega) (by omega) | exact hP _ _ _ _ (RR_st h 0) | exact hP _ _ _ _ (RR_st h 1) | exact hP _ _ _ _ (RR_st h 6) | with_reducible exact nI_in2 (by omega) (by omega)
  · skip
    simp only [wp_X11_owes, wp_X12_owes, wp_X0_isTold, wp_X0_netDebt, wp_X11_isPair, wp_X11_refuse, wp_J9_max_f86c9, wp_X12_areTwo, wp_X12_givesLong, wp_X12_pair, wp_X12_refuse, wp_X11_isLand, wp_X12_isLand, wp_X11_outside, wp_X5_count, lgc_lt, lgc_le, lgc_eq, cmp_s, cmp_t, u2_e]
    try simp only [Int32.lt_iff_toInt_lt, Int32.le_iff_toInt_le, Int64.lt_iff_toInt_lt, Int64.le_iff_toInt_le]
    simp [n1, n2, n3, n4]
    repeat' (first | with_reducible refine And.intro ?_ ?_ | with_reducible intro _)
    all_goals try first | rfl | (exfalso; omega) | exact inb_of (by omega) (by omega) | exact hP _ _ _ _ (RR_st h 0) | exact hP _ _ _ _ (RR_st h 1) | exact hP _ _ _ _ (RR_st h 6) | with_reducible exact nI_in2 (by omega) (by omega)

theorem rp_balance (a : Int32) {I : Nat → Nat → Int32} {J : Nat → Nat → Int64} {T : Option Nat} {P : Int64 → Int64 → (Nat → Nat → Int32) → (Nat → Nat → Int64) → Option Nat → Prop} (h : RR I J) (hP : ∀ v I2 J2 T2, RR I2 J2 → P v v I2 J2 T2) : wp_X11_balance a I J T (fun v I1 J1 T1 => wp_X12_balance a I1 J1 T1 (fun w I2 J2 T2 => P v w I2 J2 T2)) := by
  obtain ⟨n, hn, n1, n2⟩ := h.land
  have n3 : (nI n - 1).toInt = (n : Int) - 1 := nI_pm1 (by omega)
  have n4 : (nI n).toInt = (n : Int) := nI_toInt (by omega)
  obtain ⟨c1, c2, -⟩ := h.acct
  have c3 : I 124 0 = 0 ∧ I 204 80 = 0 ∨ I 124 0 = 1 ∧ I 204 80 = 1 := by
    rcases c2 with c2 | c2
    · exact Or.inl ⟨c2, c1.symm.trans c2⟩
    · exact Or.inr ⟨c2, c1.symm.trans c2⟩
  have t0 : ix_01 0 = true := rfl
  have t1 : ix_01 1 = true := rfl
  by_cases q : 0 ≤ a.toInt ∧ a.toInt < n
  · obtain ⟨i, hi, rfl⟩ := ii_at q.1 q.2 (by omega)
    have i4 : (nI i).toInt = (i : Int) := nI_toInt (by omega)
    have i5 : (nI i).toNatClampNeg = i := nI_clamp (by omega)
    have hi7 : i < 7 := by omega
    have es : sl_ (fun k => J (126 + k) i - J (126 + i) k) 7 = sl_ (fun k => J 255 (7 * k + i) - J 255 (7 * i + k)) 7 := sl_congr (fun k hk => by rw [ac_eq h hk hi7, ac_eq h hi7 hk])
    rcases c3 with ⟨c3, c4⟩ | ⟨c3, c4⟩
    · skip
      simp only [wp_X11_balance, wp_X12_balance, wp_X0_balanceOf, wp_X0_isTold, wp_X11_isLand, wp_X11_refuse, wp_X12_balanceOf, wp_X12_givesLong, wp_X12_isLand, wp_X12_refuse, wp_X11_outside, wp_X5_count, lgc_lt, lgc_le, lgc_eq, cmp_s, cmp_t, u2_e]
      try simp only [Int32.lt_iff_toInt_lt, Int32.le_iff_toInt_le, Int64.lt_iff_toInt_lt, Int64.le_iff_toInt_le]
      simp [n1, n2, n3, n4, i4, c3, c4, t0]
      repeat' (first | with_reducible refine And.intro ?_ ?_ | with_reducible intro _)
      all_goals try first | rfl | (exfalso; omega) | exact inb_of (by omega) (by omega) | exact hP _ _ _ _ (RR_st h 6) | with_reducible exact nI_in2 (by omega) (by omega)
    · have fM : wl_X12_balanceOf_5 (nI i) 0 0 (ix_u2 I 0 0 0) J T (fun v5 I5 J5 T5 => wp_X12_givesLong v5 I5 J5 T5 (fun v6 I6 J6 T6 => P (sl_ (fun k => J (126 + k) i - J (126 + i) k) 7) v6 I6 J6 T6)) := lp_balM hi7 (by
        unfold wp_X12_givesLong
        rw [es]
        exact hP _ _ _ _ (RR_st h 0))
      have fm : wp_X12_balance (nI i) (ix_u2 I 0 0 0) J T (fun w I3 J3 T3 => P (sl_ (fun k => J (126 + k) i - J (126 + i) k) 7) w I3 J3 T3) := by
        simp only [wp_X12_balance, wp_X12_balanceOf, wp_X12_isLand, wp_X12_refuse, lgc_lt, lgc_le, lgc_eq, cmp_s, cmp_t, u2_e]
        try simp only [Int32.lt_iff_toInt_lt, Int32.le_iff_toInt_le, Int64.lt_iff_toInt_lt, Int64.le_iff_toInt_le]
        simp [n2, n4, i4, c4]
        repeat' (first | with_reducible exact fM | with_reducible refine And.intro ?_ ?_ | with_reducible intro _)
        all_goals try first | rfl | (exfalso; omega) | exact inb_of (by omega) (by omega) | with_reducible exact nI_in2 (by omega) (by omega)
      have fC : wl_X0_balanceOf_5 (nI i) 0 0 (ix_u2 I 0 0 0) J T (fun v9 I9 J9 T9 => wp_X12_balance (nI i) I9 J9 T9 (fun w I3 J3 T3 => P v9 w I3 J3 T3)) := lp_balC hi7 fm
      simp only [wp_X11_balance, wp_X0_balanceOf, wp_X0_isTold, wp_X11_isLand, wp_X11_refuse, wp_X11_outside, wp_X5_count, lgc_lt, lgc_le, lgc_eq, cmp_s, cmp_t, u2_e]
      try simp only [Int32.lt_iff_toInt_lt, Int32.le_iff_toInt_le, Int64.lt_iff_toInt_lt, Int64.le_iff_toInt_le]
      simp [n1, n3, n4, i4, c3, t1]
      repeat' (first | with_reducible exact fC | with_reducible refine And.intro ?_ ?_ | with_reducible intro _)
      all_goals try first | rfl | (exfalso; omega) | exact inb_of (by omega) (by omega) | with_reducible exact nI_in2 (by omega) (by omega)
  · skip
    simp only [wp_X11_balance, wp_X12_balance, wp_X0_balanceOf, wp_X0_isTold, wp_X11_isLand, wp_X11_refuse, wp_X12_balanceOf, wp_X12_givesLong, wp_X12_isLand, wp_X12_refuse, wp_X11_outside, wp_X5_count, lgc_lt, lgc_le, lgc_eq, cmp_s, cmp_t, u2_e]
    try simp only [Int32.lt_iff_toInt_lt, Int32.le_iff_toInt_le, Int64.lt_iff_toInt_lt, Int64.le_iff_toInt_le]
    simp [n1, n2, n3, n4]
    repeat' (first | with_reducible refine And.intro ?_ ?_ | with_reducible intro _)
    all_goals try first | rfl | (exfalso; omega) | exact inb_of (by omega) (by omega) | exact hP _ _ _ _ (RR_st h 1) | exact hP _ _ _ _ (RR_st h 6) | with_reducible exact nI_in2 (by omega) (by omega)

