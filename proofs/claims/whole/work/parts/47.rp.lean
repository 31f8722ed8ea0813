theorem RR_st {I : Nat → Nat → Int32} {J : Nat → Nat → Int64} (h : RR I J) (s : Int32) : RR (ix_u2 (ix_u2 I 0 0 s) 204 0 s) J := by
  have o : fr_off [(0, 1, 0, 1), (204, 205, 0, 1)] I (ix_u2 (ix_u2 I 0 0 s) 204 0 s) := fr_put rfl (fr_put rfl fr_refl)
  refine ⟨?_, fr_frac (fr_refl (D := [])) rfl h.frac, fr_tray o (fr_refl (D := [])) rfl h.tray, fr_land o rfl h.land, fr_gold o rfl h.gold, fr_road o rfl h.road, fr_carr o rfl h.carr, fr_rate o rfl h.rate, fr_tape o rfl h.tape, fr_falt o rfl h.falt, fr_resv o rfl h.resv, fr_flow o rfl h.flow, fr_draw o rfl h.draw, fr_tell o rfl h.tell, fr_acct o (fr_refl (D := [])) rfl h.acct, fr_rule o rfl h.rule, fr_bags o rfl h.bags, fr_hand o rfl h.hand, fr_book o rfl h.book, fr_figs (fr_refl (D := [])) rfl h.figs, fr_case o rfl h.case, fr_wght o rfl h.wght, fr_trty o (fr_refl (D := [])) rfl h.trty⟩
  simp [RL_stat, rl_stat, u2_e]
theorem rp_status {I : Nat → Nat → Int32} {J : Nat → Nat → Int64} {T : Option Nat} {P : Int32 → Int32 → (Nat → Nat → Int32) → (Nat → Nat → Int64) → Option Nat → Prop} (h : RR I J) (hP : ∀ v I2 J2 T2, RR I2 J2 → P v v I2 J2 T2) : wp_X11_status I J T (fun v I1 J1 T1 => wp_X12_status I1 J1 T1 (fun w I2 J2 T2 => P v w I2 J2 T2)) := by
  have e : I 0 0 = I 204 0 := h.stat
  simp only [wp_X11_status, wp_X12_status, e]
  exact hP _ _ _ _ h
theorem rp_top {I : Nat → Nat → Int32} {J : Nat → Nat → Int64} {T : Option Nat} {P : Int64 → Int64 → (Nat → Nat → Int32) → (Nat → Nat → Int64) → Option Nat → Prop} (h : RR I J) (hP : ∀ v I2 J2 T2, RR I2 J2 → P v v I2 J2 T2) : wp_X11_top I J T (fun v I1 J1 T1 => wp_X12_top I1 J1 T1 (fun w I2 J2 T2 => P v w I2 J2 T2)) := by
  have e : J 0 1 = J 204 1 := h.frac.1
  simp only [wp_X11_top, wp_X12_top, e]
  exact hP _ _ _ _ h
theorem rp_bottom {I : Nat → Nat → Int32} {J : Nat → Nat → Int64} {T : Option Nat} {P : Int64 → Int64 → (Nat → Nat → Int32) → (Nat → Nat → Int64) → Option Nat → Prop} (h : RR I J) (hP : ∀ v I2 J2 T2, RR I2 J2 → P v v I2 J2 T2) : wp_X11_bottom I J T (fun v I1 J1 T1 => wp_X12_bottom I1 J1 T1 (fun w I2 J2 T2 => P v w I2 J2 T2)) := by
  have e : J 0 2 = J 204 2 := h.frac.2
  simp only [wp_X11_bottom, wp_X12_bottom, e]
  exact hP _ _ _ _ h
theorem up_weigh {I : Nat → Nat → Int32} {J : Nat → Nat → Int64} (h : RR I J) (a b : Int32) (h0 : 0 ≤ a.toInt) (h1 : a.toInt ≤ 5) (h2 : 0 ≤ b.toInt) (h3 : b.toInt ≤ 9) : RR (ix_u2 (ix_u2 (ix_u2 (ix_u2 I 203 a.toNatClampNeg b) 0 0 0) 273 a.toNatClampNeg b) 204 0 0) J := by
  have o : fr_off [(203, 204, 0, 2147483648), (273, 274, 0, 2147483648), (0, 1, 0, 1), (204, 205, 0, 1)] I (ix_u2 (ix_u2 (ix_u2 (ix_u2 I 203 a.toNatClampNeg b) 0 0 0) 273 a.toNatClampNeg b) 204 0 0) := fr_put rfl (fr_putc rfl (fr_put rfl (fr_putc rfl fr_refl)))
  refine ⟨?_, fr_frac (fr_refl (D := [])) rfl h.frac, fr_tray o (fr_refl (D := [])) rfl h.tray, fr_land o rfl h.land, fr_gold o rfl h.gold, fr_road o rfl h.road, fr_carr o rfl h.carr, fr_rate o rfl h.rate, fr_tape o rfl h.tape, fr_falt o rfl h.falt, fr_resv o rfl h.resv, fr_flow o rfl h.flow, fr_draw o rfl h.draw, fr_tell o rfl h.tell, fr_acct o (fr_refl (D := [])) rfl h.acct, fr_rule o rfl h.rule, fr_bags o rfl h.bags, fr_hand o rfl h.hand, fr_book o rfl h.book, fr_figs (fr_refl (D := [])) rfl h.figs, fr_case o rfl h.case, ?_, fr_trty o (fr_refl (D := [])) rfl h.trty⟩
  · simp [RL_stat, rl_stat, u2_e]
  · intro k hk
    have := h.wght k hk
    obtain ⟨q, hq, rfl⟩ := ii_at (n := 10) h2 (by omega) (by decide)
    simp only [u2_e]
    by_cases e : k = a.toNatClampNeg
    · simp only [e, if_true]
      simp
      exact ⟨q, by omega, rfl⟩
    · simp [e]
      exact this
theorem rp_weigh (a : Int32) (b : Int32) {I : Nat → Nat → Int32} {J : Nat → Nat → Int64} {T : Option Nat} {P : Int32 → Int32 → (Nat → Nat → Int32) → (Nat → Nat → Int64) → Option Nat → Prop} (h : RR I J) (hP : ∀ v I2 J2 T2, RR I2 J2 → P v v I2 J2 T2) : wp_X11_weigh a b I J T (fun v I1 J1 T1 => wp_X12_weigh a b I1 J1 T1 (fun w I2 J2 T2 => P v w I2 J2 T2)) := by
  simp only [wp_X11_weigh, wp_X12_weigh, wp_X11_outside, wp_X11_refused, wp_X11_accepted, wp_X3_setWeight, wp_X12_is, lgc_lt, lgc_le, cmp_s, cmp_t]
  simp only [Int32.lt_iff_toInt_lt, Int32.le_iff_toInt_le]
  simp
  repeat' (first | refine And.intro ?_ ?_ | intro _)
  all_goals first | rfl | (exfalso; omega) | exact inb_of (by omega) (by omega) | exact hP _ _ _ _ (RR_st h 1) | exact hP _ _ _ _ (up_weigh h a b (by omega) (by omega) (by omega) (by omega))
