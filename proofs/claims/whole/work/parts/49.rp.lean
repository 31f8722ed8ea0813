theorem re_1 {i : Nat} (h : i < 4) : ix_row 1 (nI i) = 2 + i := by rw [(rw_1 (nI_in2 h (by decide))).2.2.2.2, nI_clamp (by omega)]
theorem re_12 {i : Nat} (h : i < 7) : ix_row 12 (nI i) = 13 + i := by rw [(rw_12 (nI_in2 h (by decide))).2.2.2.2, nI_clamp (by omega)]
theorem re_20 {i : Nat} (h : i < 7) : ix_row 20 (nI i) = 21 + i := by rw [(rw_20 (nI_in2 h (by decide))).2.2.2.2, nI_clamp (by omega)]
theorem re_28 {i : Nat} (h : i < 7) : ix_row 28 (nI i) = 29 + i := by rw [(rw_28 (nI_in2 h (by decide))).2.2.2.2, nI_clamp (by omega)]
theorem re_36 {i : Nat} (h : i < 7) : ix_row 36 (nI i) = 37 + i := by rw [(rw_36 (nI_in2 h (by decide))).2.2.2.2, nI_clamp (by omega)]
theorem re_99 {i : Nat} (h : i < 4) : ix_row 99 (nI i) = 100 + i := by rw [(rw_99 (nI_in2 h (by decide))).2.2.2.2, nI_clamp (by omega)]
theorem re_112 {i : Nat} (h : i < 8) : ix_row 112 (nI i) = 113 + i := by rw [(rw_112 (nI_in2 h (by decide))).2.2.2.2, nI_clamp (by omega)]
theorem re_125 {i : Nat} (h : i < 7) : ix_row 125 (nI i) = 126 + i := by rw [(rw_125 (nI_in2 h (by decide))).2.2.2.2, nI_clamp (by omega)]
theorem re_133 {i : Nat} (h : i < 7) : ix_row 133 (nI i) = 134 + i := by rw [(rw_133 (nI_in2 h (by decide))).2.2.2.2, nI_clamp (by omega)]
theorem re_146 {i : Nat} (h : i < 30) : ix_row 146 (nI i) = 147 + i := by rw [(rw_146 (nI_in2 h (by decide))).2.2.2.2, nI_clamp (by omega)]
theorem re_183 {i : Nat} (h : i < 2) : ix_row 183 (nI i) = 184 + i := by rw [(rw_183 (nI_in2 h (by decide))).2.2.2.2, nI_clamp (by omega)]
theorem re_186 {i : Nat} (h : i < 2) : ix_row 186 (nI i) = 187 + i := by rw [(rw_186 (nI_in2 h (by decide))).2.2.2.2, nI_clamp (by omega)]
theorem re_189 {i : Nat} (h : i < 2) : ix_row 189 (nI i) = 190 + i := by rw [(rw_189 (nI_in2 h (by decide))).2.2.2.2, nI_clamp (by omega)]
theorem nI_mul (a b : Nat) : nI a * nI b = nI (a * b) := (Int32.ofNat_mul a b).symm
theorem pr_7 (i j : Nat) : (7 : Int32) * nI i + nI j = nI (7 * i + j) := by rw [show (7 : Int32) = nI 7 from rfl, nI_mul, nI_add]
theorem pr_12 (i j : Nat) : (12 : Int32) * nI i + nI j = nI (12 * i + j) := by rw [show (12 : Int32) = nI 12 from rfl, nI_mul, nI_add]
theorem pr_60 (i j : Nat) : (60 : Int32) * nI i + nI j = nI (60 * i + j) := by rw [show (60 : Int32) = nI 60 from rfl, nI_mul, nI_add]
theorem pr_52 (i j : Nat) : (52 : Int32) * nI i + nI j = nI (52 * i + j) := by rw [show (52 : Int32) = nI 52 from rfl, nI_mul, nI_add]
theorem pr_5 (i j : Nat) : (5 : Int32) * nI i + nI j = nI (5 * i + j) := by rw [show (5 : Int32) = nI 5 from rfl, nI_mul, nI_add]
theorem rk_linex {I I2 : Nat → Nat → Int32} {J : Nat → Nat → Int64} (h : RR I J) (o : fr_off [(0, 1, 0, 1), (204, 205, 0, 1), (182, 183, 0, 2147483648), (267, 268, 0, 2147483648), (184, 186, 0, 2147483648), (187, 189, 0, 2147483648), (190, 192, 0, 2147483648), (268, 271, 0, 2147483648)] I I2) (p0 : RL_stat I2) (p1 : RL_book I2) : RR I2 J := ⟨p0, fr_frac (fr_refl (D := [])) rfl h.frac, fr_tray o (fr_refl (D := [])) rfl h.tray, fr_land o rfl h.land, fr_gold o rfl h.gold, fr_road o rfl h.road, fr_carr o rfl h.carr, fr_rate o rfl h.rate, fr_tape o rfl h.tape, fr_falt o rfl h.falt, fr_resv o rfl h.resv, fr_flow o rfl h.flow, fr_draw o rfl h.draw, fr_tell o rfl h.tell, fr_acct o (fr_refl (D := [])) rfl h.acct, fr_rule o rfl h.rule, fr_bags o rfl h.bags, fr_hand o rfl h.hand, p1, fr_figs (fr_refl (D := [])) rfl h.figs, fr_case o rfl h.case, fr_wght o rfl h.wght, fr_trty o (fr_refl (D := [])) rfl h.trty⟩
theorem rp_line (a : Int32) (b : Int32) (c : Int32) (d : Int32) {I : Nat → Nat → Int32} {J : Nat → Nat → Int64} {T : Option Nat} {P : Int32 → Int32 → (Nat → Nat → Int32) → (Nat → Nat → Int64) → Option Nat → Prop} (h : RR I J) (hP : ∀ v I2 J2 T2, RR I2 J2 → P v v I2 J2 T2) : wp_X11_line a b c d I J T (fun v I1 J1 T1 => wp_X12_line a b c d I1 J1 T1 (fun w I2 J2 T2 => P v w I2 J2 T2)) := by
  by_cases g : 0 ≤ a.toInt ∧ a.toInt ≤ 1 ∧ 0 ≤ b.toInt ∧ b.toInt ≤ 9999 ∧ 0 ≤ c.toInt ∧ c.toInt ≤ 9999 ∧ 0 ≤ d.toInt ∧ d.toInt ≤ 1000000
  · obtain ⟨s, hs, rfl⟩ := ii_at (x := a) (n := 2) (by omega) (by omega) (by decide)
    obtain ⟨e1, he1, rfl⟩ := ii_at (x := b) (n := 10000) (by omega) (by omega) (by decide)
    obtain ⟨d1, hd1, rfl⟩ := ii_at (x := c) (n := 10000) (by omega) (by omega) (by decide)
    obtain ⟨w1, hw1, rfl⟩ := ii_at (x := d) (n := 1000001) (by omega) (by omega) (by decide)
    clear g
    have b3 : (nI e1).toInt = (e1 : Int) := nI_toInt (by omega)
    have c3 : (nI d1).toInt = (d1 : Int) := nI_toInt (by omega)
    have d3 : (nI w1).toInt = (w1 : Int) := nI_toInt (by omega)
    obtain ⟨n, hn, n1, n2, hc⟩ := h.book s hs
    have n4 : (nI n).toInt = (n : Int) := nI_toInt (by omega)
    have n5 : (nI n).toNatClampNeg = n := nI_clamp (by omega)
    have n6 : nI n = 12 ↔ n = 12 := nI_eq (by omega) (by decide)
    have a4 : (nI s).toInt = (s : Int) := nI_toInt (by omega)
    have a5 : (nI s).toNatClampNeg = s := nI_clamp (by omega)
    have x4 : (nI (12 * s + n)).toNatClampNeg = 12 * s + n := nI_clamp (by omega)
    rcases (show s = 0 ∨ s = 1 by omega) with rfl | rfl
    · simp only [wp_X11_line, wp_X12_line, wp_X11_isDay, wp_X11_outside, wp_X11_refuse, wp_X2_add, wp_X2_isFull, wp_X12_gives, wp_X12_isDay, wp_X12_refuse, lgc_lt, lgc_le, lgc_eq, cmp_s, cmp_t, u2_e]
      try simp only [Int32.lt_iff_toInt_lt, Int32.le_iff_toInt_le]
      simp [b3, c3, d3, n1, n2, n4, n5, n6, nI_ap1, a4, a5, pr_12, x4, re_183 hs, re_186 hs, re_189 hs]
      repeat' (first | refine And.intro ?_ ?_ | intro _)
      all_goals try first | rfl | (exfalso; omega) | exact inb_of (by omega) (by omega) | exact hP _ _ _ _ (RR_st h 1) | exact hP _ _ _ _ (RR_st h 4) | exact nI_in2 (by omega) (by omega)
      refine hP _ _ _ _ (rk_linex h (by repeat (first | exact fr_refl | refine fr_put rfl ?_ | refine fr_putc rfl ?_ | refine fr_putn rfl (by omega) ?_)) (by simp [rl_stat, u2_e]) (fun z hz => ?_))
      rcases (show z = 0 ∨ z = 1 by omega) with rfl | rfl
      · refine ⟨n + 1, by omega, by simp [u2_e, nI_1], by simp [u2_e, nI_1], fun k hk => ?_⟩
        by_cases e : k = n
        · refine ⟨e1, d1, w1, by omega, by omega, by omega, ?_⟩
          simp [u2_e, e, bI]
        · have := hc k (by omega)
          simpa [u2_e, e, bI, show ¬ 0 + k = 0 + n by omega] using this
      · obtain ⟨m, hm, m1, m2, hq⟩ := h.book 1 (by omega)
        refine ⟨m, hm, by simpa [u2_e] using m1, by simpa [u2_e] using m2, fun k hk => ?_⟩
        have := hq k hk
        simpa [u2_e, bI, show ¬ 12 + k = n by omega] using this

    · simp only [wp_X11_line, wp_X12_line, wp_X11_isDay, wp_X11_outside, wp_X11_refuse, wp_X2_add, wp_X2_isFull, wp_X12_gives, wp_X12_isDay, wp_X12_refuse, lgc_lt, lgc_le, lgc_eq, cmp_s, cmp_t, u2_e]
      try simp only [Int32.lt_iff_toInt_lt, Int32.le_iff_toInt_le]
      simp [b3, c3, d3, n1, n2, n4, n5, n6, nI_ap1, a4, a5, pr_12, x4, re_183 hs, re_186 hs, re_189 hs]
      repeat' (first | refine And.intro ?_ ?_ | intro _)
      all_goals try first | rfl | (exfalso; omega) | exact inb_of (by omega) (by omega) | exact hP _ _ _ _ (RR_st h 1) | exact hP _ _ _ _ (RR_st h 4) | exact nI_in2 (by omega) (by omega)
      refine hP _ _ _ _ (rk_linex h (by repeat (first | exact fr_refl | refine fr_put rfl ?_ | refine fr_putc rfl ?_ | refine fr_putn rfl (by omega) ?_)) (by simp [rl_stat, u2_e]) (fun z hz => ?_))
      rcases (show z = 0 ∨ z = 1 by omega) with rfl | rfl
      · obtain ⟨m, hm, m1, m2, hq⟩ := h.book 0 (by omega)
        refine ⟨m, hm, by simpa [u2_e] using m1, by simpa [u2_e] using m2, fun k hk => ?_⟩
        have := hq k hk
        simpa [u2_e, bI, show ¬ k = 12 + n by omega] using this
      · refine ⟨n + 1, by omega, by simp [u2_e, nI_1], by simp [u2_e, nI_1], fun k hk => ?_⟩
        by_cases e : k = n
        · refine ⟨e1, d1, w1, by omega, by omega, by omega, ?_⟩
          simp [u2_e, e, bI]
        · have := hc k (by omega)
          simpa [u2_e, e, bI, show ¬ 12 + k = 12 + n by omega] using this

  · simp only [wp_X11_line, wp_X12_line, wp_X11_isDay, wp_X11_outside, wp_X11_refuse, wp_X2_add, wp_X2_isFull, wp_X12_gives, wp_X12_isDay, wp_X12_refuse, lgc_lt, lgc_le, lgc_eq, cmp_s, cmp_t, u2_e]
    try simp only [Int32.lt_iff_toInt_lt, Int32.le_iff_toInt_le]
    simp
    repeat' (first | refine And.intro ?_ ?_ | intro _)
    all_goals try first | rfl | (exfalso; omega) | exact inb_of (by omega) (by omega) | exact hP _ _ _ _ (RR_st h 1)


theorem rp_fault (a : Int32) {I : Nat → Nat → Int32} {J : Nat → Nat → Int64} {T : Option Nat} {P : Int32 → Int32 → (Nat → Nat → Int32) → (Nat → Nat → Int64) → Option Nat → Prop} (h : RR I J) (hP : ∀ v I2 J2 T2, RR I2 J2 → P v v I2 J2 T2) : wp_X11_fault a I J T (fun v I1 J1 T1 => wp_X12_fault a I1 J1 T1 (fun w I2 J2 T2 => P v w I2 J2 T2)) := by
  have e1 : I 44 10 = I 204 20 := h.falt.1
  have e2 : I 44 11 = I 204 21 := h.falt.2
  simp only [wp_X11_fault, wp_X12_fault, wp_X7_faultKind, wp_X7_faultPlace, e1, e2]
  repeat' (first | refine And.intro ?_ ?_ | intro _)
  all_goals first | contradiction | exact hP _ _ _ _ h
theorem rp_drawn (a : Int32) {I : Nat → Nat → Int32} {J : Nat → Nat → Int64} {T : Option Nat} {P : Int32 → Int32 → (Nat → Nat → Int32) → (Nat → Nat → Int64) → Option Nat → Prop} (h : RR I J) (hP : ∀ v I2 J2 T2, RR I2 J2 → P v v I2 J2 T2) : wp_X11_drawn a I J T (fun v I1 J1 T1 => wp_X12_drawn a I1 J1 T1 (fun w I2 J2 T2 => P v w I2 J2 T2)) := by
  obtain ⟨n, hn, n1, n2, hc⟩ := h.draw
  have n4 : (nI n).toInt = (n : Int) := nI_toInt (by omega)
  have n5 : (nI n).toNatClampNeg = n := nI_clamp (by omega)
  have n6 : nI n = 52 ↔ n = 52 := nI_eq (by omega) (by decide)
  by_cases g : 0 ≤ a.toInt ∧ a.toInt < n
  · obtain ⟨k, hk, rfl⟩ := ii_at g.1 g.2 (by omega)
    obtain ⟨q1, w, hw, q2⟩ := hc k hk
    have k4 : (nI k).toInt = (k : Int) := nI_toInt (by omega)
    have k5 : (nI k).toNatClampNeg = k := nI_clamp (by omega)
    have w4 : (nI w).toInt = (w : Int) := nI_toInt (by omega)
    have q3 := q1.symm.trans q2
    simp only [wp_X11_drawn, wp_X12_drawn, wp_X11_answerOrNoneSuch, wp_X11_refuse, wp_X4_drawnWeek, wp_X12_gives, wp_X12_refuse, lgc_lt, lgc_le, lgc_eq, cmp_s, cmp_t, u2_e]
    try simp only [Int32.lt_iff_toInt_lt, Int32.le_iff_toInt_le]
    simp [n1, n2, n4, k4, k5, q2, q3, w4]
    repeat' (first | refine And.intro ?_ ?_ | intro _)
    all_goals try first | rfl | (exfalso; omega) | exact inb_of (by omega) (by omega) | exact hP _ _ _ _ (RR_st h 0) | exact nI_in2 (by omega) (by omega)
  · simp only [wp_X11_drawn, wp_X12_drawn, wp_X11_answerOrNoneSuch, wp_X11_refuse, wp_X4_drawnWeek, wp_X12_gives, wp_X12_refuse, lgc_lt, lgc_le, lgc_eq, cmp_s, cmp_t, u2_e]
    try simp only [Int32.lt_iff_toInt_lt, Int32.le_iff_toInt_le]
    simp [n1, n2, n4]
    repeat' (first | refine And.intro ?_ ?_ | intro _)
    all_goals try first | rfl | (exfalso; omega) | exact inb_of (by omega) (by omega) | exact hP _ _ _ _ (RR_st h 1) | exact hP _ _ _ _ (RR_st h 6)

theorem rp_tells (a : Int32) {I : Nat → Nat → Int32} {J : Nat → Nat → Int64} {T : Option Nat} {P : Int32 → Int32 → (Nat → Nat → Int32) → (Nat → Nat → Int64) → Option Nat → Prop} (h : RR I J) (hP : ∀ v I2 J2 T2, RR I2 J2 → P v v I2 J2 T2) : wp_X11_tells a I J T (fun v I1 J1 T1 => wp_X12_tells a I1 J1 T1 (fun w I2 J2 T2 => P v w I2 J2 T2)) := by
  obtain ⟨n, hn, n1, n2, hc⟩ := h.tell
  have n4 : (nI n).toInt = (n : Int) := nI_toInt (by omega)
  have n5 : (nI n).toNatClampNeg = n := nI_clamp (by omega)
  have n6 : nI n = 3 ↔ n = 3 := nI_eq (by omega) (by decide)
  by_cases g : 0 ≤ a.toInt ∧ a.toInt < n
  · obtain ⟨k, hk, rfl⟩ := ii_at g.1 g.2 (by omega)
    obtain ⟨q1, w, hw, q2⟩ := hc k hk
    have k4 : (nI k).toInt = (k : Int) := nI_toInt (by omega)
    have k5 : (nI k).toNatClampNeg = k := nI_clamp (by omega)
    have w4 : (nI w).toInt = (w : Int) := nI_toInt (by omega)
    have q3 := q1.symm.trans q2
    simp only [wp_X11_tells, wp_X12_tells, wp_X11_answerOrNoneSuch, wp_X11_refuse, wp_X4_tellingWeek, wp_X12_gives, wp_X12_refuse, lgc_lt, lgc_le, lgc_eq, cmp_s, cmp_t, u2_e]
    try simp only [Int32.lt_iff_toInt_lt, Int32.le_iff_toInt_le]
    simp [n1, n2, n4, k4, k5, q2, q3, w4]
    repeat' (first | refine And.intro ?_ ?_ | intro _)
    all_goals try first | rfl | (exfalso; omega) | exact inb_of (by omega) (by omega) | exact hP _ _ _ _ (RR_st h 0) | exact nI_in2 (by omega) (by omega)
  · simp only [wp_X11_tells, wp_X12_tells, wp_X11_answerOrNoneSuch, wp_X11_refuse, wp_X4_tellingWeek, wp_X12_gives, wp_X12_refuse, lgc_lt, lgc_le, lgc_eq, cmp_s, cmp_t, u2_e]
    try simp only [Int32.lt_iff_toInt_lt, Int32.le_iff_toInt_le]
    simp [n1, n2, n4]
    repeat' (first | refine And.intro ?_ ?_ | intro _)
    all_goals try first | rfl | (exfalso; omega) | exact inb_of (by omega) (by omega) | exact hP _ _ _ _ (RR_st h 1) | exact hP _ _ _ _ (RR_st h 6)

