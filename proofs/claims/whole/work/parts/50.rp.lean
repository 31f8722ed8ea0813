theorem nI_dec {n : Nat} (h : 0 < n) : nI n - 1 = nI (n - 1) := match n, h with
  | k + 1, _ => nI_pred k
theorem fr_in_row {D : List fr_R} {a b k j : Nat} (h : ((a, b, 0, 2147483648) : fr_R) ∈ D) (h1 : a ≤ k) (h2 : k < b) (h3 : j < 2147483648) : fr_in D k j = true := by
  unfold fr_in
  rw [List.any_eq_true]
  exact ⟨_, h, fr_1_iff.mpr ⟨h1, h2, Nat.zero_le _, h3⟩⟩
theorem rk_rate {I I2 : Nat → Nat → Int32} {J : Nat → Nat → Int64} (h : RR I J) (o : fr_off [(0, 1, 0, 1), (204, 205, 0, 1), (37, 44, 0, 2147483648), (246, 247, 0, 2147483648)] I I2) (p0 : RL_stat I2) (p1 : RL_rate I2) : RR I2 J := ⟨p0, fr_frac (fr_refl (D := [])) rfl h.frac, fr_tray o (fr_refl (D := [])) rfl h.tray, fr_land o rfl h.land, fr_gold o rfl h.gold, fr_road o rfl h.road, fr_carr o rfl h.carr, p1, fr_tape o rfl h.tape, fr_falt o rfl h.falt, fr_resv o rfl h.resv, fr_flow o rfl h.flow, fr_draw o rfl h.draw, fr_tell o rfl h.tell, fr_acct o (fr_refl (D := [])) rfl h.acct, fr_rule o rfl h.rule, fr_bags o rfl h.bags, fr_hand o rfl h.hand, fr_book o rfl h.book, fr_figs (fr_refl (D := [])) rfl h.figs, fr_case o rfl h.case, fr_wght o rfl h.wght, fr_trty o (fr_refl (D := [])) rfl h.trty⟩
theorem rp_rate (a : Int32) (b : Int32) (c : Int32) {I : Nat → Nat → Int32} {J : Nat → Nat → Int64} {T : Option Nat} {P : Int32 → Int32 → (Nat → Nat → Int32) → (Nat → Nat → Int64) → Option Nat → Prop} (h : RR I J) (hP : ∀ v I2 J2 T2, RR I2 J2 → P v v I2 J2 T2) : wp_X11_rate a b c I J T (fun v I1 J1 T1 => wp_X12_rate a b c I1 J1 T1 (fun w I2 J2 T2 => P v w I2 J2 T2)) := by
  obtain ⟨n, hn, n1, n2⟩ := h.land
  have n3 : (nI n - 1).toInt = (n : Int) - 1 := nI_pm1 (by omega)
  have n4 : (nI n).toInt = (n : Int) := nI_toInt (by omega)
  by_cases g : 0 ≤ a.toInt ∧ a.toInt < n ∧ 0 ≤ b.toInt ∧ b.toInt < n ∧ ¬ a.toInt = b.toInt ∧ 0 ≤ c.toInt ∧ c.toInt ≤ 1000000000
  · skip
    obtain ⟨i, hi, rfl⟩ := ii_at (x := a) (n := n) (by omega) (by omega) (by omega)
    obtain ⟨j, hj, rfl⟩ := ii_at (x := b) (n := n) (by omega) (by omega) (by omega)
    have i4 : (nI i).toInt = (i : Int) := nI_toInt (by omega)
    have i5 : (nI i).toNatClampNeg = i := nI_clamp (by omega)
    have j4 : (nI j).toInt = (j : Int) := nI_toInt (by omega)
    have j5 : (nI j).toNatClampNeg = j := nI_clamp (by omega)
    have ij : nI i = nI j ↔ i = j := nI_eq (by omega) (by omega)
    rw [i4, j4] at g
    have g5 : ¬ i = j := by omega
    have p4 : (nI (7 * i + j)).toNatClampNeg = 7 * i + j := nI_clamp (by omega)
    have p5 : (nI (7 * j + i)).toNatClampNeg = 7 * j + i := nI_clamp (by omega)
    have i7 : i < 7 := by omega
    have j7 : j < 7 := by omega
    obtain ⟨p, hp, rfl⟩ := ii_at (x := c) (n := 1000000001) (by omega) (by omega) (by decide)
    have c4 : (nI p).toInt = (p : Int) := nI_toInt (by omega)
    simp only [wp_X11_rate, wp_X12_rate, wp_X11_accepted, wp_X11_isPair, wp_X11_outside, wp_X11_refused, wp_X5_setRate, wp_X12_areTwo, wp_X12_is, wp_X12_pair, wp_X11_isLand, wp_X12_isLand, wp_X5_count, lgc_lt, lgc_le, lgc_eq, cmp_s, cmp_t, u2_e]
    try simp only [Int32.lt_iff_toInt_lt, Int32.le_iff_toInt_le]
    simp [n1, n2, n3, n4, i4, i5, j4, j5, ij, g5, c4, pr_7, p4, re_36 i7, show ¬ 204 = 37 + i by omega]
    repeat' (first | refine And.intro ?_ ?_ | intro _)
    all_goals try first | rfl | (exfalso; omega) | exact inb_of (by omega) (by omega) | exact hP _ _ _ _ (RR_st h 1) | exact nI_in2 (by omega) (by omega)
    refine hP _ _ _ _ (rk_rate h (by repeat (first | exact fr_refl | refine fr_put rfl ?_ | refine fr_putn rfl (by omega) ?_ | refine fr_put (fr_in_row (a := 37) (b := 44) (by decide) (by omega) (by omega) (by omega)) ?_)) (by simp [rl_stat, u2_e, show ¬ 204 = 37 + i by omega]) (fun x y hx hy => ?_))
    obtain ⟨q, hq, q1, q2⟩ := h.rate x y hx hy
    rw [bI_lt hx] at q1 ⊢
    by_cases e : x = i ∧ y = j
    · obtain ⟨rfl, rfl⟩ := e
      refine ⟨p, by omega, ?_, ?_⟩
      · simp [u2_e, show ¬ 37 + x = 204 by omega, show ¬ 37 + x = 246 by omega, show ¬ 37 + x = 0 by omega]
      · simp [u2_e, show ¬ 246 = 37 + x by omega]
    · refine ⟨q, hq, ?_, ?_⟩
      · simp [u2_e, show ¬ 37 + x = 204 by omega, show ¬ 37 + x = 246 by omega, show ¬ 37 + x = 0 by omega]
        by_cases e1 : x = i
        · have e2 : ¬ y = j := fun z => e ⟨e1, z⟩
          simp [e1, e2]
          rw [← e1]
          exact q1
        · simp [e1]
          exact q1
      · simp [u2_e, show ¬ 246 = 37 + i by omega, show ¬ 7 * x + y = 7 * i + j by omega]
        exact q2
  · simp only [wp_X11_rate, wp_X12_rate, wp_X11_accepted, wp_X11_isPair, wp_X11_outside, wp_X11_refused, wp_X5_setRate, wp_X12_areTwo, wp_X12_is, wp_X12_pair, wp_X11_isLand, wp_X12_isLand, wp_X5_count, lgc_lt, lgc_le, lgc_eq, cmp_s, cmp_t, u2_e]
    try simp only [Int32.lt_iff_toInt_lt, Int32.le_iff_toInt_le]
    simp [n1, n2, n3, n4, show a = b ↔ a.toInt = b.toInt from Int32.toInt_inj.symm]
    repeat' (first | refine And.intro ?_ ?_ | intro _)
    all_goals try first | rfl | (exfalso; omega) | exact inb_of (by omega) (by omega) | exact hP _ _ _ _ (RR_st h 1)

theorem rk_handed {I I2 : Nat → Nat → Int32} {J : Nat → Nat → Int64} (h : RR I J) (o : fr_off [(0, 1, 0, 1), (204, 205, 0, 1), (142, 143, 8, 9), (204, 205, 82, 84), (177, 181, 0, 2147483648), (263, 267, 0, 2147483648)] I I2) (p0 : RL_stat I2) (p1 : RL_hand I2) : RR I2 J := ⟨p0, fr_frac (fr_refl (D := [])) rfl h.frac, fr_tray o (fr_refl (D := [])) rfl h.tray, fr_land o rfl h.land, fr_gold o rfl h.gold, fr_road o rfl h.road, fr_carr o rfl h.carr, fr_rate o rfl h.rate, fr_tape o rfl h.tape, fr_falt o rfl h.falt, fr_resv o rfl h.resv, fr_flow o rfl h.flow, fr_draw o rfl h.draw, fr_tell o rfl h.tell, fr_acct o (fr_refl (D := [])) rfl h.acct, fr_rule o rfl h.rule, fr_bags o rfl h.bags, p1, fr_book o rfl h.book, fr_figs (fr_refl (D := [])) rfl h.figs, fr_case o rfl h.case, fr_wght o rfl h.wght, fr_trty o (fr_refl (D := [])) rfl h.trty⟩
theorem rp_handed (a : Int32) (b : Int32) (c : Int32) (d : Int32) {I : Nat → Nat → Int32} {J : Nat → Nat → Int64} {T : Option Nat} {P : Int32 → Int32 → (Nat → Nat → Int32) → (Nat → Nat → Int64) → Option Nat → Prop} (h : RR I J) (hP : ∀ v I2 J2 T2, RR I2 J2 → P v v I2 J2 T2) : wp_X11_handed a b c d I J T (fun v I1 J1 T1 => wp_X12_handed a b c d I1 J1 T1 (fun w I2 J2 T2 => P v w I2 J2 T2)) := by
  obtain ⟨m, hm, m1, m2, hb⟩ := h.bags
  have m4 : (nI m).toInt = (m : Int) := nI_toInt (by omega)
  have m5 : (nI m).toNatClampNeg = m := nI_clamp (by omega)
  have m6 : nI m = 30 ↔ m = 30 := nI_eq (by omega) (by decide)
  obtain ⟨n, hn, n1, n2, l0, l1, hc⟩ := h.hand
  have n4 : (nI n).toInt = (n : Int) := nI_toInt (by omega)
  have n5 : (nI n).toNatClampNeg = n := nI_clamp (by omega)
  have n6 : nI n = 150 ↔ n = 150 := nI_eq (by omega) (by decide)
  by_cases g : 0 ≤ a.toInt ∧ a.toInt < m
  · obtain ⟨i, hi, rfl⟩ := ii_at (x := a) (n := m) (by omega) (by omega) (by omega)
    clear g
    have i4 : (nI i).toInt = (i : Int) := nI_toInt (by omega)
    have i5 : (nI i).toNatClampNeg = i := nI_clamp (by omega)
    obtain ⟨-, -, b3, ⟨l, dq, l2, l5, b4, -⟩, -⟩ := hb i hi
    have b5 := b3.symm.trans b4
    have l4 : (nI l).toInt = (l : Int) := nI_toInt (by omega)
    have fin : ∀ I2, fr_off [(0, 1, 0, 1), (204, 205, 0, 1), (142, 143, 8, 9), (204, 205, 82, 84), (177, 181, 0, 2147483648), (263, 267, 0, 2147483648)] I I2 → I2 0 0 = I2 204 0 → I2 142 8 = nI (n + 1) → I2 204 82 = nI (n + 1) → I2 204 83 = d → (∀ k, I2 177 k = (if k = n then nI i else I 177 k) ∧ I2 178 k = (if k = n then b else I 178 k) ∧ I2 179 k = (if k = n then c else I 179 k) ∧ I2 180 k = (if k = n then d else I 180 k) ∧ I2 263 k = (if k = n then nI i else I 263 k) ∧ I2 264 k = (if k = n then b else I 264 k) ∧ I2 265 k = (if k = n then c else I 265 k) ∧ I2 266 k = (if k = n then d else I 266 k)) → n < 150 → 0 ≤ b.toInt → b.toInt < l → 0 ≤ c.toInt → c.toInt ≤ 9999 → RR I2 J := by
      intro I2 o s0 s1 s2 s3 s4 hn b1 b2 c1 c2
      obtain ⟨y, hy, rfl⟩ := ii_at (x := b) b1 b2 (by omega)
      obtain ⟨x, hx, rfl⟩ := ii_at (x := c) (n := 10000) c1 (by omega) (by omega)
      refine rk_handed h o s0 ⟨n + 1, by omega, s1, s2, fun z => by omega, fun _ => ?_, fun k hk => ?_⟩
      · rw [s3, (s4 (n + 1 - 1)).2.2.2.1, if_pos (by omega)]
      · obtain ⟨z1, z2, z3, z4, z5, z6, z7, z8⟩ := s4 k
        rw [z1, z2, z3, z4, z5, z6, z7, z8, fr_at 142 3 o rfl, fr_rw1 o 145 rfl]
        by_cases e : k = n
        · simp only [e, if_true]
          exact ⟨trivial, trivial, trivial, trivial, i, y, l, x, rfl, by rw [m1, m4]; omega, by omega, rfl, b4, by omega, by omega, rfl, by omega⟩
        · simp only [e, if_false]
          exact hc k (by omega)
    rcases Nat.eq_zero_or_pos n with n0 | n0
    · have la := l0 n0
      simp only [wp_X11_handed, wp_X12_handed, wp_X11_accepted, wp_X11_isDay, wp_X11_refused, wp_X1_addHanded, wp_X1_hasPlace, wp_X1_isHandedFull, wp_X1_latestKnown, wp_X12_is, wp_X12_isBag, wp_X12_isDay, wp_X11_outside, wp_X1_has, lgc_lt, lgc_le, lgc_eq, cmp_s, cmp_t, u2_e]
      try simp only [Int32.lt_iff_toInt_lt, Int32.le_iff_toInt_le]
      simp [m1, m2, m4, n1, n2, n4, n5, n6, i4, i5, b4, b5, l4, la, n0, nI_0]
      repeat' (first | refine And.intro ?_ ?_ | intro _)
      all_goals try first | rfl | (exfalso; omega) | exact inb_of (by omega) (by omega) | exact hP _ _ _ _ (RR_st h 1) | exact hP _ _ _ _ (RR_st h 4) | exact hP _ _ _ _ (RR_st h 5) | exact nI_in2 (by omega) (by omega)
      subst n0
      exact hP _ _ _ _ (fin _ (by repeat (first | exact fr_refl | refine fr_put rfl ?_ | refine fr_putc rfl ?_ | refine fr_putn rfl (by omega) ?_)) (by simp [u2_e]) (by simp [u2_e, nI_1, nI_0]; rfl) (by simp [u2_e, nI_1, nI_0]; rfl) (by simp [u2_e]) (fun k => by simp [u2_e]) (by omega) (by omega) (by omega) (by omega) (by omega))
    · have la := l1 n0
      have x5 : (nI n - 1).toNatClampNeg = n - 1 := by rw [nI_dec n0]; exact nI_clamp (by omega)
      have x6 : ix_inb (nI n - 1) 150 = true := by rw [nI_dec n0]; exact nI_in2 (by omega) (by omega)
      have n7 : ¬ n = 0 := by omega
      simp only [wp_X11_handed, wp_X12_handed, wp_X11_accepted, wp_X11_isDay, wp_X11_refused, wp_X1_addHanded, wp_X1_hasPlace, wp_X1_isHandedFull, wp_X1_latestKnown, wp_X12_is, wp_X12_isBag, wp_X12_isDay, wp_X11_outside, wp_X1_has, lgc_lt, lgc_le, lgc_eq, cmp_s, cmp_t, u2_e]
      try simp only [Int32.lt_iff_toInt_lt, Int32.le_iff_toInt_le]
      simp [m1, m2, m4, n1, n2, n4, n5, n6, i4, i5, b4, b5, l4, la, x5, x6, n7]
      repeat' (first | refine And.intro ?_ ?_ | intro _)
      all_goals try first | rfl | (exfalso; omega) | exact inb_of (by omega) (by omega) | exact hP _ _ _ _ (RR_st h 1) | exact hP _ _ _ _ (RR_st h 4) | exact hP _ _ _ _ (RR_st h 5) | exact nI_in2 (by omega) (by omega)
      exact hP _ _ _ _ (fin _ (by repeat (first | exact fr_refl | refine fr_put rfl ?_ | refine fr_putc rfl ?_ | refine fr_putn rfl (by omega) ?_)) (by simp [u2_e]) (by simp [u2_e, nI_1]) (by simp [u2_e, nI_1]) (by simp [u2_e]) (fun k => by simp [u2_e]) (by omega) (by omega) (by omega) (by omega) (by omega))
  · simp only [wp_X11_handed, wp_X12_handed, wp_X11_accepted, wp_X11_isDay, wp_X11_refused, wp_X1_addHanded, wp_X1_hasPlace, wp_X1_isHandedFull, wp_X1_latestKnown, wp_X12_is, wp_X12_isBag, wp_X12_isDay, wp_X11_outside, wp_X1_has, lgc_lt, lgc_le, lgc_eq, cmp_s, cmp_t, u2_e]
    try simp only [Int32.lt_iff_toInt_lt, Int32.le_iff_toInt_le]
    simp [m1, m2, m4, n1, n2, n4, n5, n6]
    repeat' (first | refine And.intro ?_ ?_ | intro _)
    all_goals try first | rfl | (exfalso; omega) | exact inb_of (by omega) (by omega) | exact hP _ _ _ _ (RR_st h 1)

