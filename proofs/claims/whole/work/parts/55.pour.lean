theorem nI_subx {m : Nat} {x : Int32} (hm : m ≤ 60) (hx : 0 ≤ x.toInt) : (nI m - x).toInt = (m : Int) - x.toInt := by
  have := Int32.toInt_lt x
  rw [nI_iZ, iZ_of x, iZ_sub, iZ_toInt (by omega) (by omega), ← iZ_of x]
theorem nI_m1 {m : Nat} (hm : m ≤ 60) : ¬ nI m = -1 := fun e => by
  have := congrArg Int32.toInt e
  rw [nI_toInt (by omega)] at this
  simp at this
theorem rp_pour (a : Int32) (b : Int32) (c : Int32) (d : Int32) (e : Int32) {I : Nat → Nat → Int32} {J : Nat → Nat → Int64} {T : Option Nat} {P : Int32 → Int32 → (Nat → Nat → Int32) → (Nat → Nat → Int64) → Option Nat → Prop} (h : RR I J) (hP : ∀ v I2 J2 T2, RR I2 J2 → P v v I2 J2 T2) : wp_X11_pour a b c d e I J T (fun v I1 J1 T1 => wp_X12_pour a b c d e I1 J1 T1 (fun w I2 J2 T2 => P v w I2 J2 T2)) := by
  by_cases g : (0 ≤ a.toInt ∧ a.toInt ≤ 3) ∧ 0 ≤ c.toInt ∧ c.toInt ≤ 3
  · obtain ⟨f, hf, rfl⟩ := ii_at (x := a) (n := 4) (by omega) (by omega) (by decide)
    obtain ⟨t, ht, rfl⟩ := ii_at (x := c) (n := 4) (by omega) (by omega) (by decide)
    have f4 : (nI f).toInt = (f : Int) := nI_toInt (by omega)
    have f5 : (nI f).toNatClampNeg = f := nI_clamp (by omega)
    have t4 : (nI t).toInt = (t : Int) := nI_toInt (by omega)
    have t5 : (nI t).toNatClampNeg = t := nI_clamp (by omega)
    by_cases neg : 0 ≤ b.toInt ∧ 0 ≤ d.toInt ∧ 0 ≤ e.toInt
    · obtain ⟨b0, d0, e0⟩ := neg
      rcases h.tray f hf with ⟨q1, q2⟩ | ⟨s, m, hs, hm, q1, q2, q3, q4, q5⟩
      · skip
        simp only [wp_X11_pour, wp_X12_pour, wp_X11_accepted, wp_X11_pourStatus, wp_X11_refused, wp_X12_is, wp_X12_isTray, wp_X11_outside, lgc_lt, lgc_le, lgc_eq, cmp_s, cmp_t, u2_e]
        try simp only [Int32.lt_iff_toInt_lt, Int32.le_iff_toInt_le]
        simp [f4, f5, t4, t5, q1, q2]
        repeat' (first | refine And.intro ?_ ?_ | intro _)
        all_goals try first | rfl | (exfalso; omega) | exact inb_of (by omega) (by omega) | exact hP _ _ _ _ (RR_st h 1) | exact hP _ _ _ _ (RR_st h 2) | exact nI_in2 (by omega) (by omega)
      · have s6 := nI_m1 (m := s) (by omega)
        have m6 := nI_m1 hm
        have m4 : (nI m).toInt = (m : Int) := nI_toInt (by omega)
        rcases h.tray t ht with ⟨r1, r2⟩ | ⟨s', l, hs', hl, r1, r2, r3, r4, r5⟩
        · skip
          simp only [wp_X11_pour, wp_X12_pour, wp_X11_accepted, wp_X11_pourStatus, wp_X11_refused, wp_X12_is, wp_X12_isTray, wp_X11_outside, lgc_lt, lgc_le, lgc_eq, cmp_s, cmp_t, u2_e]
          try simp only [Int32.lt_iff_toInt_lt, Int32.le_iff_toInt_le]
          simp [f4, f5, t4, t5, q1, q2, q3, q4, r1, r2, s6, m6]
          repeat' (first | refine And.intro ?_ ?_ | intro _)
          all_goals try first | rfl | (exfalso; omega) | exact inb_of (by omega) (by omega) | exact hP _ _ _ _ (RR_st h 1) | exact hP _ _ _ _ (RR_st h 2) | exact nI_in2 (by omega) (by omega)
        · have s7 := nI_m1 (m := s') (by omega)
          have l6 := nI_m1 hl
          have l4 : (nI l).toInt = (l : Int) := nI_toInt (by omega)
          by_cases es : s = s'
          · subst es
            have e1 := nI_subx hm e0
            have e2 := nI_subx hl e0
            have e3 := nI_subx hm b0
            have e4 := nI_subx hl d0
            by_cases gp : b.toInt + e.toInt ≤ m ∧ d.toInt + e.toInt ≤ l
            · obtain ⟨p, hp, rfl⟩ := ii_at (x := b) (n := 61) (by omega) (by omega) (by omega)
              obtain ⟨q, hq, rfl⟩ := ii_at (x := d) (n := 61) (by omega) (by omega) (by omega)
              obtain ⟨k, hk, rfl⟩ := ii_at (x := e) (n := 61) (by omega) (by omega) (by omega)
              rw [nI_toInt (show p < 2147483648 by omega), nI_toInt (show q < 2147483648 by omega), nI_toInt (show k < 2147483648 by omega)] at gp
              refine fs_pour hf ht hs hm hl (by omega) (by omega) q1 r1 q3 r3 (fm_pour hf ht hs hm hl (by omega) (by omega) (by simpa [u2_e] using q2) (by simpa [u2_e] using r2) (by simpa [u2_e] using q4) (by simpa [u2_e] using r4) (fun J3 g0 g1 => hP _ _ _ _ ?_))
              have jc : ∀ z y, ix_cpj J (2 + f) (2 + t) p q k z y = if z = 2 + t ∧ q ≤ y ∧ y < q + k then J (2 + f) (p + (y - q)) else J z y := fun z y => by
                unfold ix_cpj va_cpy
                by_cases e : z = 2 + t
                · subst e
                  simp
                · simp [e]
              have oj : fr_off [(2, 6, 0, 2147483648)] J (ix_cpj J (2 + f) (2 + t) p q k) := fun z y hh => by
                rw [jc, if_neg]
                intro ⟨z1, z2, z3⟩
                rw [z1, fr_in_row (a := 2) (b := 6) (by decide) (by omega) (by omega) (by omega)] at hh
                cases hh
              refine rk_write h (by repeat (first | exact fr_refl | refine fr_put rfl ?_ | refine fr_putc rfl ?_ | refine fr_putn rfl (by omega) ?_)) (fr_trans (fr_mono (by decide) oj) (fr_mono (by decide) g0)) (by simp [rl_stat, u2_e]) (fun z hz => ?_)
              simp only [show ix_u2 (ix_u2 I 0 0 0) 204 0 0 6 = I 6 from by funext y; simp [u2_e], show ix_u2 (ix_u2 I 0 0 0) 204 0 0 7 = I 7 from by funext y; simp [u2_e], show ix_u2 (ix_u2 I 0 0 0) 204 0 0 205 = I 205 from by funext y; simp [u2_e], show ix_u2 (ix_u2 I 0 0 0) 204 0 0 206 = I 206 from by funext y; simp [u2_e]]
              rcases h.tray z hz with x | ⟨s9, m9, x1, x2, x3, x4, x5, x6, x7⟩
              · exact Or.inl x
              · refine Or.inr ⟨s9, m9, x1, x2, x3, x4, x5, x6, fun y hy => ?_⟩
                have e7 : J3 (2 + z) y = ix_cpj J (2 + f) (2 + t) p q k (2 + z) y := by
                  rcases (show z = 0 ∨ z = 1 ∨ z = 2 ∨ z = 3 by omega) with rfl | rfl | rfl | rfl <;> exact g0 _ y (by simp [fr_in, fr_1])
                have e8 : ∀ y, ix_cpj J (2 + f) (2 + t) p q k 207 y = J 207 y := fun y => oj 207 y (by simp [fr_in, fr_1])
                have x8 := x7 y hy
                rw [bJ_lt hz] at x8 ⊢
                rw [e7, g1, jc, e8, e8]
                by_cases ez : z = t
                · subst ez
                  by_cases ey : q ≤ y ∧ y < q + k
                  · rw [if_pos ⟨rfl, ey⟩, if_pos (by omega)]
                    have y1 := q5 (p + (y - q)) (by omega)
                    rw [bJ_lt hf] at y1
                    rw [y1]
                    congr 1
                    omega
                  · rw [if_neg (fun w => ey w.2), if_neg (by omega)]; exact x8
                · rw [if_neg (by omega), if_neg (by omega)]; exact x8
            · skip
              simp only [wp_X11_pour, wp_X12_pour, wp_X11_accepted, wp_X11_pourStatus, wp_X11_refused, wp_X12_is, wp_X12_isTray, wp_X11_outside, lgc_lt, lgc_le, lgc_eq, cmp_s, cmp_t, u2_e]
              try simp only [Int32.lt_iff_toInt_lt, Int32.le_iff_toInt_le]
              simp [f4, f5, t4, t5, q1, q2, q3, q4, r1, r2, r3, r4, s6, s7, m6, l6, m4, l4, e1, e2, e3, e4]
              repeat' (first | refine And.intro ?_ ?_ | intro _)
              all_goals try first | rfl | (exfalso; omega) | exact inb_of (by omega) (by omega) | exact hP _ _ _ _ (RR_st h 1) | exact hP _ _ _ _ (RR_st h 2) | exact hP _ _ _ _ (RR_st h 3) | exact hP _ _ _ _ (RR_st h 8) | exact nI_in2 (by omega) (by omega)
          · have ns : ¬ nI s = nI s' := fun e => es ((nI_eq (by omega) (by omega)).mp e)
            simp only [wp_X11_pour, wp_X12_pour, wp_X11_accepted, wp_X11_pourStatus, wp_X11_refused, wp_X12_is, wp_X12_isTray, wp_X11_outside, lgc_lt, lgc_le, lgc_eq, cmp_s, cmp_t, u2_e]
            try simp only [Int32.lt_iff_toInt_lt, Int32.le_iff_toInt_le]
            simp [f4, f5, t4, t5, q1, q2, q3, q4, r1, r2, r3, r4, s6, s7, m6, l6, ns]
            repeat' (first | refine And.intro ?_ ?_ | intro _)
            all_goals try first | rfl | (exfalso; omega) | exact inb_of (by omega) (by omega) | exact hP _ _ _ _ (RR_st h 1) | exact hP _ _ _ _ (RR_st h 2) | exact hP _ _ _ _ (RR_st h 8) | exact nI_in2 (by omega) (by omega)
    · skip
      simp only [wp_X11_pour, wp_X12_pour, wp_X11_accepted, wp_X11_pourStatus, wp_X11_refused, wp_X12_is, wp_X12_isTray, wp_X11_outside, lgc_lt, lgc_le, lgc_eq, cmp_s, cmp_t, u2_e]
      try simp only [Int32.lt_iff_toInt_lt, Int32.le_iff_toInt_le]
      simp [f4, f5, t4, t5]
      repeat' (first | refine And.intro ?_ ?_ | intro _)
      all_goals try first | rfl | (exfalso; omega) | exact inb_of (by omega) (by omega) | exact hP _ _ _ _ (RR_st h 1) | exact nI_in2 (by omega) (by omega)
  · skip
    simp only [wp_X11_pour, wp_X12_pour, wp_X11_accepted, wp_X11_pourStatus, wp_X11_refused, wp_X12_is, wp_X12_isTray, wp_X11_outside, lgc_lt, lgc_le, lgc_eq, cmp_s, cmp_t, u2_e]
    try simp only [Int32.lt_iff_toInt_lt, Int32.le_iff_toInt_le]
    simp
    repeat' (first | refine And.intro ?_ ?_ | intro _)
    all_goals try first | rfl | (exfalso; omega) | exact inb_of (by omega) (by omega) | exact hP _ _ _ _ (RR_st h 1) | exact nI_in2 (by omega) (by omega)

