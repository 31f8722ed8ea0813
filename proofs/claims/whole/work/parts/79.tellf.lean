theorem rk_tell {I I2 : Nat → Nat → Int32} {J : Nat → Nat → Int64} (h : RR I J) (o : fr_off [(0, 1, 0, 1), (204, 205, 0, 1), (106, 107, 9, 10), (122, 124, 0, 2147483648), (204, 205, 67, 68), (253, 255, 0, 2147483648)] I I2) (p0 : RL_stat I2) (p1 : RL_tell I2) : RR I2 J := ⟨p0, fr_frac (fr_refl (D := [])) rfl h.frac, fr_tray o (fr_refl (D := [])) rfl h.tray, fr_land o rfl h.land, fr_gold o rfl h.gold, fr_road o rfl h.road, fr_carr o rfl h.carr, fr_rate o rfl h.rate, fr_tape o rfl h.tape, fr_falt o rfl h.falt, fr_resv o rfl h.resv, fr_flow o rfl h.flow, fr_draw o rfl h.draw, p1, fr_acct o (fr_refl (D := [])) rfl h.acct, fr_rule o rfl h.rule, fr_bags o rfl h.bags, fr_hand o rfl h.hand, fr_book o rfl h.book, fr_figs (fr_refl (D := [])) rfl h.figs, fr_case o rfl h.case, fr_wght o rfl h.wght, fr_trty o (fr_refl (D := [])) rfl h.trty⟩
theorem rp_telling (a : Int32) {I : Nat → Nat → Int32} {J : Nat → Nat → Int64} {T : Option Nat} {P : Int32 → Int32 → (Nat → Nat → Int32) → (Nat → Nat → Int64) → Option Nat → Prop} (h : RR I J) (hP : ∀ v I2 J2 T2, RR I2 J2 → P v v I2 J2 T2) : wp_X11_telling a I J T (fun v I1 J1 T1 => wp_X12_telling a I1 J1 T1 (fun w I2 J2 T2 => P v w I2 J2 T2)) := by
  obtain ⟨n, hn, n1, n2, hc⟩ := h.flow
  have n4 : (nI n).toInt = (n : Int) := nI_toInt (by omega)
  have n5 : (nI n).toNatClampNeg = n := nI_clamp (by omega)
  have n6 : nI n = 8 ↔ n = 8 := nI_eq (by omega) (by decide)
  by_cases q : 1 ≤ a.toInt ∧ a.toInt ≤ 3
  · obtain ⟨w, hw3, rfl⟩ := ii_at (n := 4) (show 0 ≤ a.toInt by omega) (by omega) (by omega)
    have w4 : (nI w).toInt = (w : Int) := nI_toInt (by omega)
    have hw : 1 ≤ w := by omega
    have hw3 : w ≤ 3 := by omega
    have w9 : (nI w).toInt64.toInt = (w : Int) := by rw [Int32.toInt_toInt64, w4]
    have kq : ∀ k, k < n → ∀ i, i < 52 → I (113 + k) i = nI (kN_ I k i) ∧ kN_ I k i ≤ 10000 ∧ I 251 (52 * k + i) = nI (kN_ I k i) := fun k hk i hi => by
      obtain ⟨-, -, -, -, -, q1, q2⟩ := hc k hk
      obtain ⟨e, z, hz, ez⟩ := q1 i hi
      rw [bI_lt (show k < 8 by omega)] at e ez
      have ek : kN_ I k i = z := by unfold kN_; rw [ez]; exact nI_clamp (by omega)
      rw [ek]
      exact ⟨ez, hz, e.symm.trans ez⟩
    have tq : ∀ k, k < n → I 111 k = nI (sN_ (kN_ I k) 52) := fun k hk => by
      obtain ⟨-, -, -, -, -, q1, q2⟩ := hc k hk
      rw [q2]
      exact sN_sm (fun i hi => by rw [bI_lt (show k < 8 by omega)]; exact (kq k hk i hi).1)
    generalize hR : bz_ (kN_ I) w n 140608 (fun j => j) 2147483647 (fun _ => 0) = R
    generalize hM : mA_ (kN_ I) w n 52 0 (2147483647, fun _ => 0) = M
    have eR : eS_ w R M := by
      have := bz_M (K := kN_ I) (n := n) hw hw3 (2147483647, fun _ => 0)
      rw [hM] at this
      rw [← hR]; exact this
    have lR : R.1 ≤ 4160000 := by
      have := bz_lf (K := kN_ I) (w := w) (n := n) (f := 140607) (d := fun j => j) (s := (2147483647, fun _ => 0)) (by omega) (fun j hj => by show j < 52; omega) (fun _ _ => by show 0 < 52; omega)
      have l2 : ft_ (kN_ I) (fun j => j) w n ≤ 520000 * n := sN_le (fun k hk => (tl_bd (K := kN_ I) (d := fun j => j) hw (fun i hi => (kq k hk i hi).2.1) (fun j hj => by show j < 52; omega)).2.2.2)
      have e : bz_ (kN_ I) w n (140607 + 1) (fun j => j) 2147483647 (fun _ => 0) = R := hR
      have t2 : (bz_ (kN_ I) w n (140607 + 1) (fun j => j) 2147483647 (fun _ => 0)).1 ≤ ft_ (kN_ I) (fun j => j) w n := this
      rw [e] at t2
      omega
    have jR : ∀ j, j < w → R.2 j < 52 := by
      have := (bz_le (K := kN_ I) (w := w) (n := n) (f := 140608) (d := fun j => j) (s := (2147483647, fun _ => 0)) (by omega) (fun j hj => by show j < 52; omega) (fun _ _ => by show 0 < 52; omega)).2
      have e : ∀ j, j < w → (bz_ (kN_ I) w n 140608 (fun j => j) 2147483647 (fun _ => 0)).2 j < 52 := this
      rw [hR] at e
      exact e
    have oC : fr_off [(0, 1, 0, 1), (106, 107, 9, 10)] I (ix_u2 (ix_u2 I 0 0 0) 106 9 (nI w)) := fr_put rfl (fr_put rfl fr_refl)
    have fin : wl_X4_findTelling_10 (nI w) 2147483647 0 (ix_u2 (ix_u2 I 0 0 0) 106 9 (nI w)) J T (fun v4 I4 J4 T4 => wp_X12_telling (nI w) I4 J4 T4 (fun w I3 J3 T3 => P v4 w I3 J3 T3)) := by
      refine lp_ft10 (K := kN_ I) (n := n) hw hw3 hn (by simp [u2_e]; exact n1) (fun k hk => ?_) (fun I2 o2 c1 => ?_) hR
      · rw [fr_row oC (a := 113) (b := 121) rfl (show 113 ≤ 113 + k by omega) (by omega), fr_rw1 oC 111 rfl]
        exact ⟨fun i hi => ⟨(kq k hk i hi).1, (kq k hk i hi).2.1⟩, tq k hk⟩
      · have o3 : fr_off [(0, 1, 0, 1), (106, 107, 9, 10), (122, 124, 0, 2147483648)] I I2 := fr_trans (fr_mono (by decide) oC) (fr_mono (by decide) o2)
        have c2 : I2 0 0 = 0 := by rw [fr_at 0 0 o2 rfl]; simp [u2_e]
        have c3 : I2 106 9 = nI w := by rw [fr_at 106 9 o2 rfl]; simp [u2_e]
        have c1 : ∀ j, j < w → I2 122 j = nI (R.2 j) := c1.resolve_left (by omega)
        have fM : wl_X12_telling_20 (nI w) (-1) 0 I2 J T (fun w I3 J3 T3 => P (nI R.1) w I3 J3 T3) := by
          refine lp_t20 (K := kN_ I) (n := n) hw hw3 hn (by rw [fr_at 204 65 o3 rfl]; exact n2) (fun k hk i hi => by rw [fr_rw1 o3 251 rfl]; exact ⟨(kq k hk i hi).2.2, (kq k hk i hi).2.1⟩) hM (fun I4 o4 s4 => ?_)
          have e1 : M.1 = R.1 := eR.1.symm
          have e2 : ms_ M.1 = nI R.1 := by rw [e1]; exact if_neg (by omega)
          rw [e2]
          unfold wp_X12_gives
          have m1 : ∀ j, j < 3 → I4 253 j = nI (M.2 j) := s4.2.resolve_left (by omega)
          refine hP _ _ _ _ (rk_tell h (I2 := ix_u2 (ix_u2 I4 204 67 (nI w)) 204 0 0) (fr_put rfl (fr_put rfl (fr_trans (fr_mono (by decide) o3) (fr_mono (by decide) o4)))) ?_ ?_)
          · show ix_u2 (ix_u2 I4 204 67 (nI w)) 204 0 0 0 0 = ix_u2 (ix_u2 I4 204 67 (nI w)) 204 0 0 204 0
            simp [u2_e]
            rw [fr_at 0 0 o4 rfl]; exact c2
          · refine ⟨w, hw3, ?_, ?_, fun k hk => ⟨?_, R.2 k, jR k hk, ?_⟩⟩
            · simp [u2_e]; rw [fr_at 106 9 o4 rfl]; exact c3
            · simp [u2_e]
            · simp [u2_e]; rw [m1 k (by omega), fr_rw1 o4 122 rfl, c1 k hk, eR.2 k hk]
            · simp [u2_e]; rw [fr_rw1 o4 122 rfl, c1 k hk]
        simp only [wp_X12_telling, wp_X12_refuse, lgc_lt, lgc_le, lgc_eq, cmp_s, cmp_t, u2_e]
        try simp only [Int32.lt_iff_toInt_lt, Int32.le_iff_toInt_le]
        simp [w4]
        repeat' (first | with_reducible exact fM | with_reducible refine And.intro ?_ ?_ | with_reducible intro _)
        all_goals try first | rfl | (exfalso; omega) | exact inb_of (by omega) (by omega) | with_reducible exact nI_in2 (by omega) (by omega)
    simp only [wp_X11_telling, wp_X11_outside, wp_X11_refuse, wp_X4_findTelling, lgc_lt, lgc_le, lgc_eq, cmp_s, cmp_t, u2_e]
    try simp only [Int32.lt_iff_toInt_lt, Int32.le_iff_toInt_le]
    simp [w4, w9]
    repeat' (first | with_reducible exact fin | with_reducible refine And.intro ?_ ?_ | with_reducible intro _)
    all_goals try first | rfl | (exfalso; omega) | exact inb_of (by omega) (by omega) | with_reducible exact nI_in2 (by omega) (by omega)
  · skip
    simp only [wp_X11_telling, wp_X12_telling, wp_X11_outside, wp_X11_refuse, wp_X4_findTelling, wp_X12_refuse, lgc_lt, lgc_le, lgc_eq, cmp_s, cmp_t, u2_e]
    try simp only [Int32.lt_iff_toInt_lt, Int32.le_iff_toInt_le]
    simp
    repeat' (first | with_reducible refine And.intro ?_ ?_ | with_reducible intro _)
    all_goals try first | rfl | (exfalso; omega) | exact inb_of (by omega) (by omega) | exact hP _ _ _ _ (RR_st h 1) | with_reducible exact nI_in2 (by omega) (by omega)

