theorem rk_flow {I I2 : Nat → Nat → Int32} {J : Nat → Nat → Int64} (h : RR I J) (o : fr_off [(0, 1, 0, 1), (204, 205, 0, 1), (106, 107, 0, 1), (107, 112, 0, 2147483648), (113, 121, 0, 2147483648), (204, 205, 65, 66), (247, 252, 0, 2147483648)] I I2) (p0 : RL_stat I2) (p1 : RL_flow I2) : RR I2 J := ⟨p0, fr_frac (fr_refl (D := [])) rfl h.frac, fr_tray o (fr_refl (D := [])) rfl h.tray, fr_land o rfl h.land, fr_gold o rfl h.gold, fr_road o rfl h.road, fr_carr o rfl h.carr, fr_rate o rfl h.rate, fr_tape o rfl h.tape, fr_falt o rfl h.falt, fr_resv o rfl h.resv, p1, fr_draw o rfl h.draw, fr_tell o rfl h.tell, fr_acct o (fr_refl (D := [])) rfl h.acct, fr_rule o rfl h.rule, fr_bags o rfl h.bags, fr_hand o rfl h.hand, fr_book o rfl h.book, fr_figs (fr_refl (D := [])) rfl h.figs, fr_case o rfl h.case, fr_wght o rfl h.wght, fr_trty o (fr_refl (D := [])) rfl h.trty⟩
theorem rp_flow (a : Int32) (b : Int32) (c : Int32) (d : Int32) (e : Int32) {I : Nat → Nat → Int32} {J : Nat → Nat → Int64} {T : Option Nat} {P : Int32 → Int32 → (Nat → Nat → Int32) → (Nat → Nat → Int64) → Option Nat → Prop} (h : RR I J) (hP : ∀ v I2 J2 T2, RR I2 J2 → P v v I2 J2 T2) : wp_X11_flow a b c d e I J T (fun v I1 J1 T1 => wp_X12_flow a b c d e I1 J1 T1 (fun w I2 J2 T2 => P v w I2 J2 T2)) := by
  obtain ⟨n, hn, n1, n2⟩ := h.land
  have n3 : (nI n - 1).toInt = (n : Int) - 1 := nI_pm1 (by omega)
  have n4 : (nI n).toInt = (n : Int) := nI_toInt (by omega)
  obtain ⟨g, hg, g1, g2, gc⟩ := h.flow
  have g4 : (nI g).toInt = (g : Int) := nI_toInt (by omega)
  have g6 : nI g = 8 ↔ g = 8 := nI_eq (by omega) (by decide)
  by_cases qab : a = b
  · subst qab
    simp only [wp_X11_flow, wp_X12_flow, wj_X11_flow_j48, wp_X11_isPair, wp_X11_outside, wp_X11_trayStatus, wp_X12_areTwo, wp_X12_isTray, wp_X12_refuse, wj_X11_flow_j70, wp_X11_isLand, wp_X12_isLand, wj_X11_flow_j88, wp_X4_isFull, wp_X5_count, wp_X11_refuse, lgc_lt, lgc_le, lgc_eq, cmp_s, cmp_t, u2_e]
    try simp only [Int32.lt_iff_toInt_lt, Int32.le_iff_toInt_le]
    simp [n1, n2, n3, n4]
    repeat' (first | with_reducible refine And.intro ?_ ?_ | with_reducible intro _)
    all_goals try first | rfl | (exfalso; omega) | exact inb_of (by omega) (by omega) | exact hP _ _ _ _ (RR_st h 1) | with_reducible exact nI_in2 (by omega) (by omega)
  by_cases q : (0 ≤ a.toInt ∧ a.toInt < n) ∧ (0 ≤ b.toInt ∧ b.toInt < n) ∧ (0 ≤ c.toInt ∧ c.toInt ≤ 3) ∧ (1 ≤ d.toInt ∧ d.toInt ≤ 100) ∧ (0 ≤ e.toInt ∧ e.toInt < 4)
  · obtain ⟨⟨qa, qa2⟩, ⟨qb, qb2⟩, ⟨qc, qc2⟩, ⟨qd, qd2⟩, ⟨qe, qe2⟩⟩ := q
    obtain ⟨t, ht, rfl⟩ := ii_at (n := 4) qe qe2 (by omega)
    have t4 : (nI t).toInt = (t : Int) := nI_toInt (by omega)
    have t5 : (nI t).toNatClampNeg = t := nI_clamp (by omega)
    rcases h.tray t ht with ⟨r1, r2⟩ | ⟨s, m, hs, hm, r1, r2, r3, r4, r5⟩
    · skip
      simp only [wp_X11_flow, wp_X12_flow, wj_X11_flow_j48, wp_X11_isPair, wp_X11_outside, wp_X11_trayStatus, wp_X12_areTwo, wp_X12_isTray, wp_X12_refuse, wj_X11_flow_j70, wp_X11_isLand, wp_X12_isLand, wj_X11_flow_j88, wp_X4_isFull, wp_X5_count, wp_X11_refuse, lgc_lt, lgc_le, lgc_eq, cmp_s, cmp_t, u2_e]
      try simp only [Int32.lt_iff_toInt_lt, Int32.le_iff_toInt_le]
      simp [n1, n2, n3, n4, t4, t5, r1, r2, qab]
      repeat' (first | with_reducible refine And.intro ?_ ?_ | with_reducible intro _)
      all_goals try first | rfl | (exfalso; omega) | exact inb_of (by omega) (by omega) | exact hP _ _ _ _ (RR_st h 2) | with_reducible exact nI_in2 (by omega) (by omega)
    · have m3 : (nI m - 52).toInt = (m : Int) - 52 := nI_subx (x := 52) hm (by decide)
      have m4 : (nI m).toInt = (m : Int) := nI_toInt (by omega)
      have s9 : ¬ nI s = -1 := nI_nm1 (by omega)
      have m9 : ¬ nI m = -1 := nI_nm1 (by omega)
      by_cases qm : 52 ≤ m
      · skip
        have tv : ∀ k, k < 52 → J (2 + t) k = J 207 (60 * t + k) := fun k hk => by
          have := r5 k (by omega)
          rw [bJ_lt ht] at this
          exact this
        have okk : ok_ (J (2 + t)) 52 10000 ↔ ok_ (fun k => J 207 (60 * t + k)) 52 10000 := ⟨fun z k hk => by have := z k hk; rw [tv k hk] at this; exact this, fun z k hk => by rw [tv k hk]; exact z k hk⟩
        have fm : ∀ {I9 : Nat → Nat → Int32} {Q : Int32 → (Nat → Nat → Int32) → (Nat → Nat → Int64) → Option Nat → Prop}, I9 204 6 = I 204 6 → I9 206 = I 206 → wl_X12_flow_83 a b c d (nI t) 0 I9 J T Q → wp_X12_flow a b c d (nI t) I9 J T Q := by
          intro I9 Q e1 e2 fin
          have n2 : I9 204 6 = nI n := e1.trans n2
          have r4 : I9 206 t = nI m := by rw [e2]; exact r4
          simp only [wp_X12_flow, wp_X12_areTwo, wp_X12_isTray, wp_X12_refuse, wp_X12_isLand, lgc_lt, lgc_le, lgc_eq, cmp_s, cmp_t, u2_e]
          try simp only [Int32.lt_iff_toInt_lt, Int32.le_iff_toInt_le]
          simp [n2, n4, t4, t5, r4, m4, m9, qab]
          repeat' (first | with_reducible exact fin | with_reducible refine And.intro ?_ ?_ | with_reducible intro _)
          all_goals try first | rfl | (exfalso; omega) | exact inb_of (by omega) (by omega) | with_reducible exact nI_in2 (by omega) (by omega)
        have fC : wj_X11_flow_j48 a b c d (nI t) 0 I J T (fun v I1 J1 T1 => wp_X12_flow a b c d (nI t) I1 J1 T1 (fun w I2 J2 T2 => P v w I2 J2 T2)) := by
          unfold wj_X11_flow_j48
          refine ⟨fun _ => fn_only (c := 52) ht (by omega) (fun ok => ⟨fun z => absurd z (by decide), fun _ => ?_⟩) (fun ok => ⟨fun _ => ?_, fun z => absurd rfl z⟩), fun z => absurd rfl z⟩
          · have ok : ok_ (J (2 + t)) 52 10000 := ok
            have ok2 := okk.mp ok
            unfold wj_X11_flow_j70 wp_X4_isFull
            rw [g1]
            by_cases q8 : g = 8
            · refine ⟨fun _ => ⟨fun z => absurd z (nI_nlt (a := g) (b := 8) (by omega) (by omega)), fun _ => ⟨fun z => absurd z (by decide), fun _ => ?_⟩⟩, fun z => absurd rfl z⟩
              unfold wj_X11_flow_j88 wp_X11_refuse
              refine ⟨fun z => absurd z (by decide), fun _ => fm rfl rfl (lp_flow1 ht (fun z => absurd ok2 z) (fun _ _ => hP _ _ _ _ (RR_st h 4)) (fun _ z => absurd ?_ z))⟩
              show I 204 65 = 8
              rw [g2, q8]
              rfl
            · refine ⟨fun _ => ⟨fun _ => ⟨fun _ => ?_, fun z => absurd rfl z⟩, fun z => absurd (nI_lt (a := g) (b := 8) (by omega) (by omega)) z⟩, fun z => absurd rfl z⟩
              unfold wj_X11_flow_j88
              refine ⟨fun _ => ⟨nI_in2 ht (by decide), fn_add (n := g) ht (by omega) (by simpa [u2_e] using g1) (fun I2 o2 c1 c2 c3 c4 => ?_)⟩, fun z => absurd rfl z⟩
              have o2' : fr_off [(0, 1, 0, 1), (106, 107, 0, 1), (107, 112, 0, 2147483648), (113, 121, 0, 2147483648)] I I2 := fr_trans (fr_put rfl fr_refl) (fr_mono (by decide) o2)
              have g2' : I2 204 65 = nI g := by rw [fr_at 204 65 o2' rfl]; exact g2
              refine fm (fr_at 204 6 o2' rfl) (fr_rw1 o2' 206 rfl) (lp_flow1 ht (fun z => absurd ok2 z) (fun _ z => absurd (g6.mp (g2'.symm.trans z)) q8) (fun _ _ V9 => lp_flow2 ht (by omega) g2' (fun I3 o3 s0 d1 d2 d3 d4 d5 => ?_)))
              have s3 : I2 0 0 = 0 := by rw [fr_at 0 0 o2 rfl]; simp [u2_e]
              refine hP _ _ _ _ (rk_flow h (fr_trans (fr_mono (by decide) o2') (fr_mono (by decide) o3)) (by show I3 0 0 = I3 204 0; rw [s0, fr_at 0 0 o3 rfl]; exact s3) ⟨g + 1, by omega, by rw [fr_at 106 0 o3 rfl]; exact c1, d1, fun k hk => ?_⟩)
              rw [fr_rw1 o3 107 rfl, fr_rw1 o3 108 rfl, fr_rw1 o3 109 rfl, fr_rw1 o3 110 rfl, fr_rw1 o3 111 rfl, fr_bI o3 113 8 rfl, fr_at 8 0 o3 rfl, fr_at 8 0 o2' rfl, n1, n4]
              have bk : bI I2 113 8 k = I2 (113 + k) := funext fun w => bI_lt (by omega)
              have bk0 : bI I 113 8 k = I (113 + k) := funext fun w => bI_lt (by omega)
              rw [bk]
              by_cases e9 : k = g
              · subst e9
                obtain ⟨i, hi, rfl⟩ := ii_at qa qa2 (by omega)
                obtain ⟨j, hj, rfl⟩ := ii_at qb qb2 (by omega)
                obtain ⟨x, hx, rfl⟩ := ii_at (n := 4) qc (by omega) (by omega)
                obtain ⟨y, hy, rfl⟩ := ii_at (n := 101) (x := d) (by omega) (by omega) (by omega)
                have y4 : (nI y).toInt = (y : Int) := nI_toInt (by omega)
                obtain ⟨c2a, c2b, c2c, c2d, c2e⟩ := c2
                obtain ⟨d2a, d2b, d2c, d2d⟩ := d2
                refine ⟨c2a.trans d2a.symm, c2b.trans d2b.symm, c2c.trans d2c.symm, c2d.trans d2d.symm, ⟨i, j, x, y, c2a, c2b, by omega, by omega, fun z => qab (by rw [z]), c2c, by omega, c2d, by omega, by omega⟩, fun w hw => ⟨?_, ?_⟩, ?_⟩
                · rw [c3 w hw, d3 w hw, tv w hw]
                · have := ok w hw
                  obtain ⟨z1, z2⟩ := this
                  refine ⟨(J (2 + t) w).toInt.toNat, by omega, ?_⟩
                  rw [c3 w hw]
                  exact l32 (by omega)
                · rw [c2e]
                  exact sm_congr (fun w hw => (c3 w hw).symm)
              · have hk : k < g := by omega
                have := gc k hk
                rw [n1, n4, bk0] at this
                obtain ⟨f1, f2, f3, f4, f5, f6⟩ := c4 k hk
                obtain ⟨h1, h2, h3, h4⟩ := d4 k hk
                have f6 : I2 (113 + k) = I (113 + k) := funext fun w => by rw [f6 w, u2_c (by omega)]
                have zz : ∀ w, w < 52 → I3 251 (52 * k + w) = I 251 (52 * k + w) := fun w hw => by
                  rw [d5 (52 * k + w) (by omega), fr_rw1 o2' 251 rfl]
                have f1 : I2 107 k = I 107 k := f1
                have f2 : I2 108 k = I 108 k := f2
                have f3 : I2 109 k = I 109 k := f3
                have f4 : I2 110 k = I 110 k := f4
                have f5 : I2 111 k = I 111 k := f5
                rw [f1, f2, f3, f4, f5, f6, h1, h2, h3, h4, fr_rw1 o2' 247 rfl, fr_rw1 o2' 248 rfl, fr_rw1 o2' 249 rfl, fr_rw1 o2' 250 rfl]
                refine ⟨this.1, this.2.1, this.2.2.1, this.2.2.2.1, this.2.2.2.2.1, fun w hw => ?_, this.2.2.2.2.2.2⟩
                rw [zz w hw]
                exact this.2.2.2.2.2.1 w hw
          · have ok : ¬ ok_ (J (2 + t)) 52 10000 := ok
            have ok2 : ¬ ok_ (fun k => J 207 (60 * t + k)) 52 10000 := fun z => ok (okk.mpr z)
            unfold wj_X11_flow_j70
            refine ⟨fun z => absurd z (by decide), fun _ => ?_⟩
            unfold wj_X11_flow_j88 wp_X11_refuse
            exact ⟨fun z => absurd z (by decide), fun _ => fm rfl rfl (lp_flow1 ht (fun _ => hP _ _ _ _ (RR_st h 1)) (fun z => absurd z ok2) (fun z => absurd z ok2))⟩
        simp only [wp_X11_flow, wp_X11_isPair, wp_X11_outside, wp_X11_trayStatus, wp_X11_isLand, wp_X5_count, lgc_lt, lgc_le, lgc_eq, cmp_s, cmp_t, u2_e]
        try simp only [Int32.lt_iff_toInt_lt, Int32.le_iff_toInt_le]
        simp [n1, n3, n4, t4, t5, r1, r3, m3, m4, s9, qab]
        repeat' (first | with_reducible exact fC | with_reducible refine And.intro ?_ ?_ | with_reducible intro _)
        all_goals try first | rfl | (exfalso; omega) | exact inb_of (by omega) (by omega) | with_reducible exact nI_in2 (by omega) (by omega)
      · skip
        simp only [wp_X11_flow, wp_X12_flow, wj_X11_flow_j48, wp_X11_isPair, wp_X11_outside, wp_X11_trayStatus, wp_X12_areTwo, wp_X12_isTray, wp_X12_refuse, wj_X11_flow_j70, wp_X11_isLand, wp_X12_isLand, wj_X11_flow_j88, wp_X4_isFull, wp_X5_count, wp_X11_refuse, lgc_lt, lgc_le, lgc_eq, cmp_s, cmp_t, u2_e]
        try simp only [Int32.lt_iff_toInt_lt, Int32.le_iff_toInt_le]
        simp [n1, n2, n3, n4, t4, t5, r1, r2, r3, r4, m3, m4, s9, m9, qab]
        repeat' (first | with_reducible refine And.intro ?_ ?_ | with_reducible intro _)
        all_goals try first | rfl | (exfalso; omega) | exact inb_of (by omega) (by omega) | exact hP _ _ _ _ (RR_st h 3) | with_reducible exact nI_in2 (by omega) (by omega)
  · skip
    simp only [wp_X11_flow, wp_X12_flow, wj_X11_flow_j48, wp_X11_isPair, wp_X11_outside, wp_X11_trayStatus, wp_X12_areTwo, wp_X12_isTray, wp_X12_refuse, wj_X11_flow_j70, wp_X11_isLand, wp_X12_isLand, wj_X11_flow_j88, wp_X4_isFull, wp_X5_count, wp_X11_refuse, lgc_lt, lgc_le, lgc_eq, cmp_s, cmp_t, u2_e]
    try simp only [Int32.lt_iff_toInt_lt, Int32.le_iff_toInt_le]
    simp [n1, n2, n3, n4, qab]
    repeat' (first | with_reducible refine And.intro ?_ ?_ | with_reducible intro _)
    all_goals try first | rfl | (exfalso; omega) | exact inb_of (by omega) (by omega) | exact hP _ _ _ _ (RR_st h 1) | with_reducible exact nI_in2 (by omega) (by omega)

