theorem nI_pm1 {n : Nat} (hn : n ≤ 600) : (nI n - 1).toInt = (n : Int) - 1 := by
  rw [nI_iZ, show (1 : Int32) = iZ 1 from rfl, iZ_sub, iZ_toInt (by omega) (by omega)]
theorem nI_ap1 (n : Nat) : nI n + 1 - 1 = nI n := by rw [nI_1, nI_pred]
theorem rk_rules {I I2 : Nat → Nat → Int32} {J : Nat → Nat → Int64} (h : RR I J) (o : fr_off [(0, 1, 0, 1), (204, 205, 0, 1), (142, 143, 0, 3), (204, 205, 84, 87)] I I2) (p0 : RL_stat I2) (p1 : RL_rule I2) : RR I2 J := ⟨p0, fr_frac (fr_refl (D := [])) rfl h.frac, fr_tray o (fr_refl (D := [])) rfl h.tray, fr_land o rfl h.land, fr_gold o rfl h.gold, fr_road o rfl h.road, fr_carr o rfl h.carr, fr_rate o rfl h.rate, fr_tape o rfl h.tape, fr_falt o rfl h.falt, fr_resv o rfl h.resv, fr_flow o rfl h.flow, fr_draw o rfl h.draw, fr_tell o rfl h.tell, fr_acct o (fr_refl (D := [])) rfl h.acct, p1, fr_bags o rfl h.bags, fr_hand o rfl h.hand, fr_book o rfl h.book, fr_figs (fr_refl (D := [])) rfl h.figs, fr_case o rfl h.case, fr_wght o rfl h.wght, fr_trty o (fr_refl (D := [])) rfl h.trty⟩
theorem rp_rules (a : Int32) (b : Int32) (c : Int32) {I : Nat → Nat → Int32} {J : Nat → Nat → Int64} {T : Option Nat} {P : Int32 → Int32 → (Nat → Nat → Int32) → (Nat → Nat → Int64) → Option Nat → Prop} (h : RR I J) (hP : ∀ v I2 J2 T2, RR I2 J2 → P v v I2 J2 T2) : wp_X11_rules a b c I J T (fun v I1 J1 T1 => wp_X12_rules a b c I1 J1 T1 (fun w I2 J2 T2 => P v w I2 J2 T2)) := by
  simp only [wp_X11_rules, wp_X12_rules, wp_X11_accepted, wp_X11_outside, wp_X11_refused, wp_X1_setRules, wp_X12_is, lgc_lt, lgc_le, lgc_eq, cmp_s, cmp_t, u2_e]
  try simp only [Int32.lt_iff_toInt_lt, Int32.le_iff_toInt_le]
  simp
  repeat' (first | refine And.intro ?_ ?_ | intro _)
  all_goals try first | rfl | (exfalso; omega) | exact inb_of (by omega) (by omega) | exact hP _ _ _ _ (RR_st h 1)
  refine hP _ _ _ _ (rk_rules h (by repeat (first | exact fr_refl | refine fr_put rfl ?_ | refine fr_putc rfl ?_ | refine fr_putn rfl (by omega) ?_)) (by simp [rl_stat, u2_e]) ?_)
  simp [RL_rule, rl_rule, u2_e]
  omega
theorem rk_rulex {I I2 : Nat → Nat → Int32} {J : Nat → Nat → Int64} (h : RR I J) (o : fr_off [(0, 1, 0, 1), (204, 205, 0, 1), (200, 201, 0, 1), (204, 205, 107, 108), (201, 203, 0, 2147483648), (274, 276, 0, 2147483648)] I I2) (p0 : RL_stat I2) (p1 : RL_case I2) : RR I2 J := ⟨p0, fr_frac (fr_refl (D := [])) rfl h.frac, fr_tray o (fr_refl (D := [])) rfl h.tray, fr_land o rfl h.land, fr_gold o rfl h.gold, fr_road o rfl h.road, fr_carr o rfl h.carr, fr_rate o rfl h.rate, fr_tape o rfl h.tape, fr_falt o rfl h.falt, fr_resv o rfl h.resv, fr_flow o rfl h.flow, fr_draw o rfl h.draw, fr_tell o rfl h.tell, fr_acct o (fr_refl (D := [])) rfl h.acct, fr_rule o rfl h.rule, fr_bags o rfl h.bags, fr_hand o rfl h.hand, fr_book o rfl h.book, fr_figs (fr_refl (D := [])) rfl h.figs, p1, fr_wght o rfl h.wght, fr_trty o (fr_refl (D := [])) rfl h.trty⟩
theorem rp_rule (a : Int32) (b : Int32) {I : Nat → Nat → Int32} {J : Nat → Nat → Int64} {T : Option Nat} {P : Int32 → Int32 → (Nat → Nat → Int32) → (Nat → Nat → Int64) → Option Nat → Prop} (h : RR I J) (hP : ∀ v I2 J2 T2, RR I2 J2 → P v v I2 J2 T2) : wp_X11_rule a b I J T (fun v I1 J1 T1 => wp_X12_rule a b I1 J1 T1 (fun w I2 J2 T2 => P v w I2 J2 T2)) := by
  obtain ⟨n, hn, n1, n2, hc⟩ := h.case
  have n4 : (nI n).toInt = (n : Int) := nI_toInt (by omega)
  have n5 : (nI n).toNatClampNeg = n := nI_clamp (by omega)
  have n6 : nI n = 20 ↔ n = 20 := nI_eq (by omega) (by decide)
  simp only [wp_X11_rule, wp_X12_rule, wp_X11_outside, wp_X11_refuse, wp_X3_add, wp_X3_isFull, wp_X12_gives, wp_X12_refuse, lgc_lt, lgc_le, lgc_eq, cmp_s, cmp_t, u2_e]
  try simp only [Int32.lt_iff_toInt_lt, Int32.le_iff_toInt_le]
  simp [n1, n2, n4, n5, n6, nI_ap1]
  repeat' (first | refine And.intro ?_ ?_ | intro _)
  all_goals try first | rfl | (exfalso; omega) | exact inb_of (by omega) (by omega) | exact hP _ _ _ _ (RR_st h 1) | exact hP _ _ _ _ (RR_st h 4)
  obtain ⟨i, hi, rfl⟩ := ii_at (x := a) (n := 1000000) (by omega) (by omega) (by decide)
  refine hP _ _ _ _ (rk_rulex h (by repeat (first | exact fr_refl | refine fr_put rfl ?_ | refine fr_putc rfl ?_ | refine fr_putn rfl (by omega) ?_)) (by simp [rl_stat, u2_e]) ⟨n + 1, by omega, by simp [u2_e, nI_1], by simp [u2_e, nI_1], fun k hk => ?_⟩)
  by_cases e : k = n
  · simp [u2_e, e]
    exact ⟨⟨i, by omega, rfl⟩, by omega, by omega⟩
  · simp [u2_e, e]
    exact hc k (by omega)
theorem rk_line {I I2 : Nat → Nat → Int32} {J : Nat → Nat → Int64} (h : RR I J) (o : fr_off [(0, 1, 0, 1), (204, 205, 0, 1), (182, 183, 0, 2147483648), (267, 268, 0, 2147483648), (183, 193, 0, 2147483648), (268, 271, 0, 2147483648)] I I2) (p0 : RL_stat I2) (p1 : RL_book I2) : RR I2 J := ⟨p0, fr_frac (fr_refl (D := [])) rfl h.frac, fr_tray o (fr_refl (D := [])) rfl h.tray, fr_land o rfl h.land, fr_gold o rfl h.gold, fr_road o rfl h.road, fr_carr o rfl h.carr, fr_rate o rfl h.rate, fr_tape o rfl h.tape, fr_falt o rfl h.falt, fr_resv o rfl h.resv, fr_flow o rfl h.flow, fr_draw o rfl h.draw, fr_tell o rfl h.tell, fr_acct o (fr_refl (D := [])) rfl h.acct, fr_rule o rfl h.rule, fr_bags o rfl h.bags, fr_hand o rfl h.hand, p1, fr_figs (fr_refl (D := [])) rfl h.figs, fr_case o rfl h.case, fr_wght o rfl h.wght, fr_trty o (fr_refl (D := [])) rfl h.trty⟩
theorem rk_land0 {I I2 : Nat → Nat → Int32} {J : Nat → Nat → Int64} (h : RR I J) (o : fr_off [(0, 1, 0, 1), (204, 205, 0, 1), (8, 9, 0, 1), (204, 205, 6, 7)] I I2) (p0 : RL_stat I2) (p1 : RL_land I2) (p2 : RL_road I2) (p3 : RL_flow I2) (p4 : RL_bags I2) : RR I2 J := ⟨p0, fr_frac (fr_refl (D := [])) rfl h.frac, fr_tray o (fr_refl (D := [])) rfl h.tray, p1, fr_gold o rfl h.gold, p2, fr_carr o rfl h.carr, fr_rate o rfl h.rate, fr_tape o rfl h.tape, fr_falt o rfl h.falt, fr_resv o rfl h.resv, p3, fr_draw o rfl h.draw, fr_tell o rfl h.tell, fr_acct o (fr_refl (D := [])) rfl h.acct, fr_rule o rfl h.rule, p4, fr_hand o rfl h.hand, fr_book o rfl h.book, fr_figs (fr_refl (D := [])) rfl h.figs, fr_case o rfl h.case, fr_wght o rfl h.wght, fr_trty o (fr_refl (D := [])) rfl h.trty⟩
theorem rk_land {I I2 : Nat → Nat → Int32} {J : Nat → Nat → Int64} {n : Nat} (h : RR I J) (o : fr_off [(0, 1, 0, 1), (204, 205, 0, 1), (8, 9, 0, 1), (204, 205, 6, 7)] I I2) (n1 : I 8 0 = nI n) (hn : n < 7) (e0 : I2 0 0 = I2 204 0) (e1 : I2 8 0 = nI (n + 1)) (e2 : I2 204 6 = nI (n + 1)) : RR I2 J := by
  have t0 : (I 8 0).toInt = n := by rw [n1, nI_toInt (by omega)]
  have t1 : (I2 8 0).toInt = n + 1 := by rw [e1, nI_toInt (by omega)]; omega
  refine rk_land0 h o e0 ⟨n + 1, by omega, e1, e2⟩ ?_ ?_ ?_
  · have q := h.road
    unfold RL_road at q ⊢
    rw [fr_bI o 13 7 rfl, fr_bI o 21 7 rfl, fr_rw1 o 211 rfl, fr_rw1 o 212 rfl]
    intro a b ha hb
    obtain ⟨d, f, q1, q2, q3, q4, q5, q6, q7, q8⟩ := q a b ha hb
    exact ⟨d, f, q1, q2, q3, q4, q5, q6, q7, fun hd => ⟨(q8 hd).1, (q8 hd).2.1, by have := (q8 hd).2.2.1; omega, by have := (q8 hd).2.2.2; omega⟩⟩
  · obtain ⟨m, hm, m1, m2, q⟩ := h.flow
    refine ⟨m, hm, by rw [fr_at 106 0 o rfl]; exact m1, by rw [fr_at 204 65 o rfl]; exact m2, ?_⟩
    rw [fr_rw1 o 107 rfl, fr_rw1 o 108 rfl, fr_rw1 o 109 rfl, fr_rw1 o 110 rfl, fr_rw1 o 111 rfl, fr_bI o 113 8 rfl, fr_rw1 o 247 rfl, fr_rw1 o 248 rfl, fr_rw1 o 249 rfl, fr_rw1 o 250 rfl, fr_rw1 o 251 rfl]
    intro k hk
    obtain ⟨q1, q2, q3, q4, ⟨i, j, s9, p9, r1, r2, r3, r4, r5⟩, q6⟩ := q k hk
    exact ⟨q1, q2, q3, q4, ⟨i, j, s9, p9, r1, r2, by omega, by omega, r5⟩, q6⟩
  · obtain ⟨m, hm, m1, m2, q⟩ := h.bags
    refine ⟨m, hm, by rw [fr_at 142 3 o rfl]; exact m1, by rw [fr_at 204 81 o rfl]; exact m2, ?_⟩
    rw [fr_rw1 o 143 rfl, fr_rw1 o 144 rfl, fr_rw1 o 145 rfl, fr_bI o 147 30 rfl, fr_rw1 o 259 rfl, fr_rw1 o 260 rfl, fr_rw1 o 261 rfl, fr_rw1 o 262 rfl]
    intro k hk
    obtain ⟨q1, q2, q3, ⟨m9, q9, r1, r2, r3, r4, r5, r6⟩, q6⟩ := q k hk
    exact ⟨q1, q2, q3, ⟨m9, q9, r1, r2, r3, r4, r5, fun i hi => ⟨(r6 i hi).1, by
      obtain ⟨e, x1, x2, x3⟩ := (r6 i hi).2
      exact ⟨e, x1, x2, by omega⟩⟩⟩, q6⟩
theorem rp_land {I : Nat → Nat → Int32} {J : Nat → Nat → Int64} {T : Option Nat} {P : Int32 → Int32 → (Nat → Nat → Int32) → (Nat → Nat → Int64) → Option Nat → Prop} (h : RR I J) (hP : ∀ v I2 J2 T2, RR I2 J2 → P v v I2 J2 T2) : wp_X11_land I J T (fun v I1 J1 T1 => wp_X12_land I1 J1 T1 (fun w I2 J2 T2 => P v w I2 J2 T2)) := by
  obtain ⟨n, hn, n1, n2⟩ := h.land
  have n4 : (nI n).toInt = (n : Int) := nI_toInt (by omega)
  have n5 : (nI n).toNatClampNeg = n := nI_clamp (by omega)
  have n6 : nI n = 7 ↔ n = 7 := nI_eq (by omega) (by decide)
  simp only [wp_X11_land, wp_X12_land, wp_X11_refuse, wp_X5_add, wp_X5_isFull, wp_X12_gives, wp_X12_refuse, lgc_lt, lgc_le, lgc_eq, cmp_s, cmp_t, u2_e]
  try simp only [Int32.lt_iff_toInt_lt, Int32.le_iff_toInt_le]
  simp [n1, n2, n4, n6, nI_ap1]
  repeat' (first | refine And.intro ?_ ?_ | intro _)
  all_goals try first | rfl | (exfalso; omega) | exact inb_of (by omega) (by omega) | exact hP _ _ _ _ (RR_st h 4)
  exact hP _ _ _ _ (rk_land (n := n) h (by repeat (first | exact fr_refl | refine fr_put rfl ?_ | refine fr_putc rfl ?_ | refine fr_putn rfl (by omega) ?_)) n1 (by omega) (by simp [u2_e]) (by simp [u2_e, nI_1]) (by simp [u2_e, nI_1]))
theorem rk_gold {I I2 : Nat → Nat → Int32} {J : Nat → Nat → Int64} (h : RR I J) (o : fr_off [(0, 1, 0, 1), (204, 205, 0, 1), (8, 9, 1, 2), (204, 205, 7, 8), (9, 12, 0, 2147483648), (208, 211, 0, 2147483648)] I I2) (p0 : RL_stat I2) (p1 : RL_gold I2) : RR I2 J := ⟨p0, fr_frac (fr_refl (D := [])) rfl h.frac, fr_tray o (fr_refl (D := [])) rfl h.tray, fr_land o rfl h.land, p1, fr_road o rfl h.road, fr_carr o rfl h.carr, fr_rate o rfl h.rate, fr_tape o rfl h.tape, fr_falt o rfl h.falt, fr_resv o rfl h.resv, fr_flow o rfl h.flow, fr_draw o rfl h.draw, fr_tell o rfl h.tell, fr_acct o (fr_refl (D := [])) rfl h.acct, fr_rule o rfl h.rule, fr_bags o rfl h.bags, fr_hand o rfl h.hand, fr_book o rfl h.book, fr_figs (fr_refl (D := [])) rfl h.figs, fr_case o rfl h.case, fr_wght o rfl h.wght, fr_trty o (fr_refl (D := [])) rfl h.trty⟩
theorem rp_gold (a : Int32) (b : Int32) (c : Int32) {I : Nat → Nat → Int32} {J : Nat → Nat → Int64} {T : Option Nat} {P : Int32 → Int32 → (Nat → Nat → Int32) → (Nat → Nat → Int64) → Option Nat → Prop} (h : RR I J) (hP : ∀ v I2 J2 T2, RR I2 J2 → P v v I2 J2 T2) : wp_X11_gold a b c I J T (fun v I1 J1 T1 => wp_X12_gold a b c I1 J1 T1 (fun w I2 J2 T2 => P v w I2 J2 T2)) := by
  obtain ⟨n, hn, n1, n2⟩ := h.land
  have n3 : (nI n - 1).toInt = (n : Int) - 1 := nI_pm1 (by omega)
  have n4 : (nI n).toInt = (n : Int) := nI_toInt (by omega)
  obtain ⟨g, hg, g1, g2, hc⟩ := h.gold
  have g4 : (nI g).toInt = (g : Int) := nI_toInt (by omega)
  have g5 : (nI g).toNatClampNeg = g := nI_clamp (by omega)
  have g6 : nI g = 40 ↔ g = 40 := nI_eq (by omega) (by decide)
  simp only [wp_X11_gold, wp_X12_gold, wp_X11_accepted, wp_X11_isDay, wp_X11_isLand, wp_X11_outside, wp_X11_refused, wp_X5_addGold, wp_X5_isGoldFull, wp_X12_is, wp_X12_isDay, wp_X12_isLand, wp_X5_count, lgc_lt, lgc_le, lgc_eq, cmp_s, cmp_t, u2_e]
  try simp only [Int32.lt_iff_toInt_lt, Int32.le_iff_toInt_le]
  simp [n1, n2, n3, n4, g1, g2, g4, g5, g6]
  repeat' (first | refine And.intro ?_ ?_ | intro _)
  all_goals try first | rfl | (exfalso; omega) | exact inb_of (by omega) (by omega) | exact hP _ _ _ _ (RR_st h 1) | exact hP _ _ _ _ (RR_st h 4)
  refine hP _ _ _ _ (rk_gold h (by repeat (first | exact fr_refl | refine fr_put rfl ?_ | refine fr_putc rfl ?_ | refine fr_putn rfl (by omega) ?_)) (by simp [rl_stat, u2_e]) ⟨g + 1, by omega, by simp [u2_e, nI_1], by simp [u2_e, nI_1], fun k hk => ?_⟩)
  by_cases e : k = g
  · simp [u2_e, e]
  · simp [u2_e, e]
    exact hc k (by omega)
theorem rk_close {I I2 : Nat → Nat → Int32} {J : Nat → Nat → Int64} (h : RR I J) (o : fr_off [(0, 1, 0, 1), (204, 205, 0, 1), (182, 183, 0, 2147483648), (267, 268, 0, 2147483648)] I I2) (p0 : RL_stat I2) (p1 : RL_book I2) : RR I2 J := ⟨p0, fr_frac (fr_refl (D := [])) rfl h.frac, fr_tray o (fr_refl (D := [])) rfl h.tray, fr_land o rfl h.land, fr_gold o rfl h.gold, fr_road o rfl h.road, fr_carr o rfl h.carr, fr_rate o rfl h.rate, fr_tape o rfl h.tape, fr_falt o rfl h.falt, fr_resv o rfl h.resv, fr_flow o rfl h.flow, fr_draw o rfl h.draw, fr_tell o rfl h.tell, fr_acct o (fr_refl (D := [])) rfl h.acct, fr_rule o rfl h.rule, fr_bags o rfl h.bags, fr_hand o rfl h.hand, p1, fr_figs (fr_refl (D := [])) rfl h.figs, fr_case o rfl h.case, fr_wght o rfl h.wght, fr_trty o (fr_refl (D := [])) rfl h.trty⟩
theorem rp_close {I : Nat → Nat → Int32} {J : Nat → Nat → Int64} {T : Option Nat} {P : Int32 → Int32 → (Nat → Nat → Int32) → (Nat → Nat → Int64) → Option Nat → Prop} (h : RR I J) (hP : ∀ v I2 J2 T2, RR I2 J2 → P v v I2 J2 T2) : wp_X11_close I J T (fun v I1 J1 T1 => wp_X12_close I1 J1 T1 (fun w I2 J2 T2 => P v w I2 J2 T2)) := by
  simp only [wp_X11_close, wp_X12_close, wp_X11_accepted, wp_X2_clear, wp_X12_is, lgc_lt, lgc_le, lgc_eq, cmp_s, cmp_t, u2_e]
  try simp only [Int32.lt_iff_toInt_lt, Int32.le_iff_toInt_le]
  simp
  repeat' (first | refine And.intro ?_ ?_ | intro _)
  all_goals try first | rfl | (exfalso; omega) | exact inb_of (by omega) (by omega)
  refine hP _ _ _ _ (rk_close h (by repeat (first | exact fr_refl | refine fr_put rfl ?_ | refine fr_putc rfl ?_ | refine fr_putn rfl (by omega) ?_)) (by simp [rl_stat, u2_e]) (fun s hs => ⟨0, by omega, ?_, ?_, fun k hk => by omega⟩))
  · rcases (show s = 0 ∨ s = 1 by omega) with rfl | rfl <;> simp [u2_e, nI_0]
  · rcases (show s = 0 ∨ s = 1 by omega) with rfl | rfl <;> simp [u2_e, nI_0]
