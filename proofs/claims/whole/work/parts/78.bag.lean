theorem rk_bag {I I2 : Nat → Nat → Int32} {J : Nat → Nat → Int64} (h : RR I J) (o : fr_off [(0, 1, 0, 1), (204, 205, 0, 1), (142, 143, 3, 4), (143, 146, 0, 2147483648), (147, 177, 0, 2147483648), (204, 205, 81, 82), (259, 263, 0, 2147483648)] I I2) (p0 : RL_stat I2) (p1 : RL_bags I2) (p2 : RL_hand I2) : RR I2 J := ⟨p0, fr_frac (fr_refl (D := [])) rfl h.frac, fr_tray o (fr_refl (D := [])) rfl h.tray, fr_land o rfl h.land, fr_gold o rfl h.gold, fr_road o rfl h.road, fr_carr o rfl h.carr, fr_rate o rfl h.rate, fr_tape o rfl h.tape, fr_falt o rfl h.falt, fr_resv o rfl h.resv, fr_flow o rfl h.flow, fr_draw o rfl h.draw, fr_tell o rfl h.tell, fr_acct o (fr_refl (D := [])) rfl h.acct, fr_rule o rfl h.rule, p1, p2, fr_book o rfl h.book, fr_figs (fr_refl (D := [])) rfl h.figs, fr_case o rfl h.case, fr_wght o rfl h.wght, fr_trty o (fr_refl (D := [])) rfl h.trty⟩
theorem rp_bag (a : Int32) (b : Int32) (c : Int32) (d : Int32) {I : Nat → Nat → Int32} {J : Nat → Nat → Int64} {T : Option Nat} {P : Int32 → Int32 → (Nat → Nat → Int32) → (Nat → Nat → Int64) → Option Nat → Prop} (h : RR I J) (hP : ∀ v I2 J2 T2, RR I2 J2 → P v v I2 J2 T2) : wp_X11_bag a b c d I J T (fun v I1 J1 T1 => wp_X12_bag a b c d I1 J1 T1 (fun w I2 J2 T2 => P v w I2 J2 T2)) := by
  obtain ⟨n, hn, n1, n2⟩ := h.land
  have n3 : (nI n - 1).toInt = (n : Int) - 1 := nI_pm1 (by omega)
  have n4 : (nI n).toInt = (n : Int) := nI_toInt (by omega)
  obtain ⟨g, hg, g1, g2, gc⟩ := h.bags
  have g4 : (nI g).toInt = (g : Int) := nI_toInt (by omega)
  have g6 : nI g = 30 ↔ g = 30 := nI_eq (by omega) (by decide)
  by_cases q : (1 ≤ a.toInt ∧ a.toInt ≤ 1000000) ∧ (0 ≤ b.toInt ∧ b.toInt < 4) ∧ (2 ≤ c.toInt ∧ c.toInt ≤ 5) ∧ (0 ≤ d.toInt ∧ d.toInt ≤ 9999)
  · obtain ⟨⟨qa, qa2⟩, ⟨qb, qb2⟩, ⟨qc, qc2⟩, ⟨qd, qd2⟩⟩ := q
    obtain ⟨t, ht, rfl⟩ := ii_at (n := 4) qb qb2 (by omega)
    obtain ⟨m, hm6, rfl⟩ := ii_at (n := 6) (x := c) (by omega) (by omega) (by omega)
    have t4 : (nI t).toInt = (t : Int) := nI_toInt (by omega)
    have t5 : (nI t).toNatClampNeg = t := nI_clamp (by omega)
    have c4 : (nI m).toInt = (m : Int) := nI_toInt (by omega)
    rcases h.tray t ht with ⟨r1, r2⟩ | ⟨s, M, hs, hM, r1, r2, r3, r4, r5⟩
    · skip
      simp only [wp_X11_bag, wp_X12_bag, wj_X11_bag_j46, wp_X11_isDay, wp_X11_outside, wp_X11_trayStatus, wp_X12_isDay, wp_X12_isTray, wp_X12_refuse, wj_X11_bag_j72, wp_X5_count, wj_X11_bag_j98, wj_X11_bag_j116, wp_X1_isFull, wp_X11_refuse, lgc_lt, lgc_le, lgc_eq, cmp_s, cmp_t, u2_e]
      try simp only [Int32.lt_iff_toInt_lt, Int32.le_iff_toInt_le]
      simp [n1, n2, n3, n4, t4, t5, r1, r2, c4]
      repeat' (first | with_reducible refine And.intro ?_ ?_ | with_reducible intro _)
      all_goals try first | rfl | (exfalso; omega) | exact inb_of (by omega) (by omega) | exact hP _ _ _ _ (RR_st h 2) | with_reducible exact nI_in2 (by omega) (by omega)
    · have m3 : (nI M - nI m).toInt = (M : Int) - m := by rw [nI_subx (x := nI m) hM (by omega), c4]
      have m4 : (nI M).toInt = (M : Int) := nI_toInt (by omega)
      have s9 : ¬ nI s = -1 := nI_nm1 (by omega)
      have m9 : ¬ nI M = -1 := nI_nm1 (by omega)
      by_cases qm : m ≤ M
      · skip
        have tv : ∀ k, k < m → J (2 + t) k = J 207 (60 * t + k) := fun k hk => by
          have := r5 k (by omega)
          rw [bJ_lt ht] at this
          exact this
        have okk : ok_ (J (2 + t)) m ((n : Int) - 1) ↔ ok_ (fun k => J 207 (60 * t + k)) m ((n : Int) - 1) := ⟨fun z k hk => by have := z k hk; rw [tv k hk] at this; exact this, fun z k hk => by rw [tv k hk]; exact z k hk⟩
        have fm : ∀ {I9 : Nat → Nat → Int32} {Q : Int32 → (Nat → Nat → Int32) → (Nat → Nat → Int64) → Option Nat → Prop}, I9 206 = I 206 → wl_X12_bag_78 a (nI t) (nI m) d 0 I9 J T Q → wp_X12_bag a (nI t) (nI m) d I9 J T Q := by
          intro I9 Q e2 fin
          have r4 : I9 206 t = nI M := by rw [e2]; exact r4
          simp only [wp_X12_bag, wp_X12_isDay, wp_X12_isTray, wp_X12_refuse, lgc_lt, lgc_le, lgc_eq, cmp_s, cmp_t, u2_e]
          try simp only [Int32.lt_iff_toInt_lt, Int32.le_iff_toInt_le]
          simp [t4, t5, r4, m4, m9, c4]
          repeat' (first | with_reducible exact fin | with_reducible refine And.intro ?_ ?_ | with_reducible intro _)
          all_goals try first | rfl | (exfalso; omega) | exact inb_of (by omega) (by omega) | with_reducible exact nI_in2 (by omega) (by omega)
        obtain ⟨e, he⟩ : ∃ e : Nat → Nat, ∀ k, e k = (J (2 + t) k).toInt.toNat := ⟨fun k => (J (2 + t) k).toInt.toNat, fun _ => rfl⟩
        have heC : ok_ (J (2 + t)) m ((n : Int) - 1) → ∀ k, k < m → (J (2 + t) k).toInt32 = nI (e k) ∧ e k < 7 := fun ok k hk => by
          have := ok k hk
          have h9 := he k
          exact ⟨l32 (by omega), by omega⟩
        have heM : ok_ (J (2 + t)) m ((n : Int) - 1) → ∀ k, k < m → (J 207 (60 * t + k)).toInt = (e k : Int) ∧ e k < 7 := fun ok k hk => by
          have := ok k hk
          have h9 := he k
          rw [← tv k hk]
          exact ⟨by omega, by omega⟩
        have hgC : ∀ a b, a < 7 → b < 7 → I (13 + a) b = bI I 13 7 a b ∧ ∃ d : Nat, d ≤ 60 ∧ bI I 13 7 a b = nI d := fun a b ha hb => by
          obtain ⟨d, f, hd, hf, e1, -⟩ := rd_ok h n1 hn ha hb
          rw [bI_lt ha]
          exact ⟨rfl, d, hd, e1⟩
        have hgM : ∀ a b, a < 7 → b < 7 → I 211 (7 * a + b) = bI I 13 7 a b ∧ ∃ d : Nat, d ≤ 60 ∧ bI I 13 7 a b = nI d := fun a b ha hb => by
          obtain ⟨d, f, hd, hf, e1, -, e3, -⟩ := rd_ok h n1 hn ha hb
          rw [bI_lt ha]
          exact ⟨e3.trans e1.symm, d, hd, e1⟩
        have fC : wj_X11_bag_j46 a (nI t) (nI m) d 0 I J T (fun v I1 J1 T1 => wp_X12_bag a (nI t) (nI m) d I1 J1 T1 (fun w I2 J2 T2 => P v w I2 J2 T2)) := by
          unfold wj_X11_bag_j46 wp_X5_count
          rw [n1]
          refine ⟨fun _ => fn_only (c := m) ht (by omega) (fun ok => ⟨fun z => absurd z (by decide), fun _ => ?_⟩) (fun ok => ⟨fun _ => ?_, fun z => absurd rfl z⟩), fun z => absurd rfl z⟩
          · rw [n3] at ok
            have ok2 := okk.mp ok
            unfold wj_X11_bag_j72
            refine ⟨fun _ => ⟨nI_in2 ht (by decide), fn_way (g := bI I 13 7) ht (by omega) (heC ok) hgC (fun wy => ⟨fun z => absurd z (by decide), fun _ => ?_⟩) (fun wy => ⟨fun _ => ?_, fun z => absurd rfl z⟩)⟩, fun z => absurd rfl z⟩
            · unfold wj_X11_bag_j98 wp_X1_isFull
              rw [g1]
              by_cases q8 : g = 30
              · refine ⟨fun _ => ⟨fun z => absurd z (nI_nlt (a := g) (b := 30) (by omega) (by omega)), fun _ => ⟨fun z => absurd z (by decide), fun _ => ?_⟩⟩, fun z => absurd rfl z⟩
                unfold wj_X11_bag_j116 wp_X11_refuse
                refine ⟨fun z => absurd z (by decide), fun _ => fm rfl (lp_b78 ht (by omega) hn n2 (fun z => absurd ok2 z) (fun _ V1 => lp_b137 (g := bI I 13 7) ht (by omega) (heM ok) hgM g2 (fun z => absurd wy z) (fun _ _ => hP _ _ _ _ (RR_st h 4)) (fun _ z => absurd (g6.mpr q8) z)))⟩
              · refine ⟨fun _ => ⟨fun _ => ⟨fun _ => ?_, fun z => absurd rfl z⟩, fun z => absurd (nI_lt (a := g) (b := 30) (by omega) (by omega)) z⟩, fun z => absurd rfl z⟩
                unfold wj_X11_bag_j116
                refine ⟨fun _ => ⟨nI_in2 ht (by decide), fn_badd (n := g) ht (by omega) (by omega) (by simpa [u2_e] using g1) (fun I2 o2 c1 c2 c3 c9 => ?_)⟩, fun z => absurd rfl z⟩
                have o2' : fr_off [(0, 1, 0, 1), (142, 143, 3, 4), (143, 146, 0, 2147483648), (147, 177, 0, 2147483648)] I I2 := fr_trans (fr_put rfl fr_refl) (fr_mono (by decide) o2)
                have g2' : I2 204 81 = nI g := by rw [fr_at 204 81 o2' rfl]; exact g2
                refine fm (fr_rw1 o2' 206 rfl) (lp_b78 ht (by omega) hn (by rw [fr_at 204 6 o2' rfl]; exact n2) (fun z => absurd ok2 z) (fun _ V1 => lp_b137 (g := bI I 13 7) ht (by omega) (heM ok) (by rw [fr_rw1 o2' 211 rfl]; exact hgM) g2' (fun z => absurd wy z) (fun _ z => absurd (g6.mp z) q8) (fun _ _ V2 => lp_b260 ht (by omega) (by omega) g2' (fun I3 o3 s0 d1 d2 d3 d4 d5 => ?_))))
                have s3 : I2 0 0 = 0 := by rw [fr_at 0 0 o2 rfl]; simp [u2_e]
                have c2' : I2 143 g = a ∧ I2 144 g = d ∧ I2 145 g = nI m := c2
                refine hP _ _ _ _ (rk_bag h (fr_trans (fr_mono (by decide) o2') (fr_mono (by decide) o3)) (by show I3 0 0 = I3 204 0; rw [s0, fr_at 0 0 o3 rfl]; exact s3) ⟨g + 1, by omega, by rw [fr_at 142 3 o3 rfl]; exact c1, d1, fun k hk => ?_⟩ ?_)
                · rw [fr_rw1 o3 143 rfl, fr_rw1 o3 144 rfl, fr_rw1 o3 145 rfl, fr_bI o3 147 30 rfl, fr_at 8 0 o3 rfl, fr_at 8 0 o2' rfl, n1, n4]
                  have bk : bI I2 147 30 k = I2 (147 + k) := funext fun w => bI_lt (by omega)
                  have bk0 : bI I 147 30 k = I (147 + k) := funext fun w => bI_lt (by omega)
                  rw [bk]
                  by_cases e9 : k = g
                  · subst e9
                    obtain ⟨y, hy, rfl⟩ := ii_at (n := 10000) qd (by omega) (by omega)
                    obtain ⟨c2a, c2b, c2c⟩ := c2'
                    obtain ⟨d2a, d2b, d2c⟩ := d2
                    refine ⟨c2a.trans d2a.symm, c2b.trans d2c.symm, c2c.trans d2b.symm, ⟨m, y, by omega, by omega, c2c, c2b, by omega, fun i hi => ⟨?_, ?_⟩⟩, ?_, ?_⟩
                    · rw [c3 i hi, d3 i hi, tv i hi]
                    · have hq := ok i hi
                      have h9 := he i
                      refine ⟨e i, ?_, (heC ok i hi).2, by omega⟩
                      rw [c3 i hi]
                      exact (heC ok i hi).1
                    · rw [c2a]; exact qa
                    · rw [c2a]; exact qa2
                  · have hk : k < g := by omega
                    have := gc k hk
                    rw [n1, n4, bk0] at this
                    obtain ⟨f1, f2, f3, f6⟩ := c9 k hk
                    obtain ⟨h1, h2, h3⟩ := d4 k hk
                    have f6 : I2 (147 + k) = I (147 + k) := funext fun w => by rw [f6 w, u2_c (by omega)]
                    have f1 : I2 143 k = I 143 k := f1
                    have f2 : I2 144 k = I 144 k := f2
                    have f3 : I2 145 k = I 145 k := f3
                    rw [f1, f2, f3, f6, h1, h2, h3, fr_rw1 o2' 259 rfl, fr_rw1 o2' 260 rfl, fr_rw1 o2' 261 rfl]
                    obtain ⟨u1, u2, u3, ⟨m8, y8, v1, v2, v3, v4, v5, v6⟩, u5, u6⟩ := this
                    refine ⟨u1, u2, u3, ⟨m8, y8, v1, v2, v3, v4, v5, fun i hi => ?_⟩, u5, u6⟩
                    rw [d5 (5 * k + i) (by omega), fr_rw1 o2' 262 rfl]
                    exact v6 i hi
                · obtain ⟨l, hl, w1, w2, w3, w4, w5⟩ := h.hand
                  have oo : fr_off [(0, 1, 0, 1), (204, 205, 0, 1), (142, 143, 3, 4), (143, 146, 0, 2147483648), (147, 177, 0, 2147483648), (204, 205, 81, 82), (259, 263, 0, 2147483648)] I I3 := fr_trans (fr_mono (by decide) o2') (fr_mono (by decide) o3)
                  unfold RL_hand
                  rw [fr_at 142 8 oo rfl, fr_at 204 82 oo rfl, fr_at 204 83 oo rfl, fr_rw1 oo 177 rfl, fr_rw1 oo 178 rfl, fr_rw1 oo 179 rfl, fr_rw1 oo 180 rfl, fr_rw1 oo 263 rfl, fr_rw1 oo 264 rfl, fr_rw1 oo 265 rfl, fr_rw1 oo 266 rfl, fr_at 142 3 o3 rfl, c1, fr_rw1 o3 145 rfl]
                  refine ⟨l, hl, w1, w2, w3, w4, fun i hi => ?_⟩
                  obtain ⟨v1, v2, v3, v4, x1, x2, x3, x4, z1, z2, z3, z4, z5, z6⟩ := w5 i hi
                  rw [g1, g4] at z2
                  obtain ⟨-, -, f3, -⟩ := c9 x1 (by omega)
                  have f3 : I2 145 x1 = I 145 x1 := f3
                  exact ⟨v1, v2, v3, v4, x1, x2, x3, x4, z1, by rw [nI_toInt (by omega)]; omega, z3, z4, f3.trans z5, z6⟩
            · unfold wj_X11_bag_j98
              refine ⟨fun z => absurd z (by decide), fun _ => ?_⟩
              unfold wj_X11_bag_j116 wp_X11_refuse
              exact ⟨fun z => absurd z (by decide), fun _ => fm rfl (lp_b78 ht (by omega) hn n2 (fun z => absurd ok2 z) (fun _ V1 => lp_b137 (g := bI I 13 7) ht (by omega) (heM ok) hgM g2 (fun _ => hP _ _ _ _ (RR_st h 6)) (fun z => absurd z wy) (fun z => absurd z wy)))⟩
          · rw [n3] at ok
            have ok2 : ¬ ok_ (fun k => J 207 (60 * t + k)) m ((n : Int) - 1) := fun z => ok (okk.mpr z)
            unfold wj_X11_bag_j72
            refine ⟨fun z => absurd z (by decide), fun _ => ?_⟩
            unfold wj_X11_bag_j98
            refine ⟨fun z => absurd z (by decide), fun _ => ?_⟩
            unfold wj_X11_bag_j116 wp_X11_refuse
            exact ⟨fun z => absurd z (by decide), fun _ => fm rfl (lp_b78 ht (by omega) hn n2 (fun _ => hP _ _ _ _ (RR_st h 1)) (fun z => absurd z ok2))⟩
        simp only [wp_X11_bag, wp_X11_isDay, wp_X11_outside, wp_X11_trayStatus, lgc_lt, lgc_le, lgc_eq, cmp_s, cmp_t, u2_e]
        try simp only [Int32.lt_iff_toInt_lt, Int32.le_iff_toInt_le]
        simp [t4, t5, r1, r3, m3, m4, s9, c4, -Int32.toInt_sub]
        repeat' (first | with_reducible exact fC | with_reducible refine And.intro ?_ ?_ | with_reducible intro _)
        all_goals try first | rfl | (exfalso; omega) | exact inb_of (by omega) (by omega) | with_reducible exact nI_in2 (by omega) (by omega)
      · skip
        simp only [wp_X11_bag, wp_X12_bag, wj_X11_bag_j46, wp_X11_isDay, wp_X11_outside, wp_X11_trayStatus, wp_X12_isDay, wp_X12_isTray, wp_X12_refuse, wj_X11_bag_j72, wp_X5_count, wj_X11_bag_j98, wj_X11_bag_j116, wp_X1_isFull, wp_X11_refuse, lgc_lt, lgc_le, lgc_eq, cmp_s, cmp_t, u2_e]
        try simp only [Int32.lt_iff_toInt_lt, Int32.le_iff_toInt_le]
        simp [n1, n2, n3, n4, t4, t5, r1, r2, r3, r4, m3, m4, s9, m9, c4, -Int32.toInt_sub]
        repeat' (first | with_reducible refine And.intro ?_ ?_ | with_reducible intro _)
        all_goals try first | rfl | (exfalso; omega) | exact inb_of (by omega) (by omega) | exact hP _ _ _ _ (RR_st h 3) | with_reducible exact nI_in2 (by omega) (by omega)
  · skip
    simp only [wp_X11_bag, wp_X12_bag, wj_X11_bag_j46, wp_X11_isDay, wp_X11_outside, wp_X11_trayStatus, wp_X12_isDay, wp_X12_isTray, wp_X12_refuse, wj_X11_bag_j72, wp_X5_count, wj_X11_bag_j98, wj_X11_bag_j116, wp_X1_isFull, wp_X11_refuse, lgc_lt, lgc_le, lgc_eq, cmp_s, cmp_t, u2_e]
    try simp only [Int32.lt_iff_toInt_lt, Int32.le_iff_toInt_le]
    simp [n1, n2, n3, n4]
    repeat' (first | with_reducible refine And.intro ?_ ?_ | with_reducible intro _)
    all_goals try first | rfl | (exfalso; omega) | exact inb_of (by omega) (by omega) | exact hP _ _ _ _ (RR_st h 1) | with_reducible exact nI_in2 (by omega) (by omega)

