theorem rl_tray_put {I I2 : Nat → Nat → Int32} {J J2 : Nat → Nat → Int64} {t p : Nat} {x : Int64} (h : RL_tray I J) (e6 : I2 6 = I 6) (e7 : I2 7 = I 7) (e5 : I2 205 = I 205) (e8 : I2 206 = I 206) (ht : t < 4) (hp : p < 60) (j1 : ∀ z k, z < 4 → J2 (2 + z) k = if z = t ∧ k = p then x else J (2 + z) k) (j2 : ∀ k, J2 207 k = if k = 60 * t + p then x else J 207 k) : RL_tray I2 J2 := by
  intro z hz
  rw [e6, e7, e5, e8]
  rcases h z hz with q | ⟨s, n, q1, q2, q3, q4, q5, q6, q7⟩
  · exact Or.inl q
  · refine Or.inr ⟨s, n, q1, q2, q3, q4, q5, q6, fun k hk => ?_⟩
    have q8 := q7 k hk
    rw [bJ_lt hz] at q8 ⊢
    rw [j1 z k hz, j2]
    by_cases e : z = t ∧ k = p
    · rw [if_pos e, if_pos (by omega)]
    · rw [if_neg e, if_neg (by omega)]
      exact q8
theorem rk_write {I I2 : Nat → Nat → Int32} {J : Nat → Nat → Int64} {J2 : Nat → Nat → Int64} (h : RR I J) (o : fr_off [(0, 1, 0, 1), (204, 205, 0, 1)] I I2) (oj : fr_off [(2, 6, 0, 2147483648), (207, 208, 0, 2147483648)] J J2) (p0 : RL_stat I2) (p1 : RL_tray I2 J2) : RR I2 J2 := ⟨p0, fr_frac oj rfl h.frac, p1, fr_land o rfl h.land, fr_gold o rfl h.gold, fr_road o rfl h.road, fr_carr o rfl h.carr, fr_rate o rfl h.rate, fr_tape o rfl h.tape, fr_falt o rfl h.falt, fr_resv o rfl h.resv, fr_flow o rfl h.flow, fr_draw o rfl h.draw, fr_tell o rfl h.tell, fr_acct o oj rfl h.acct, fr_rule o rfl h.rule, fr_bags o rfl h.bags, fr_hand o rfl h.hand, fr_book o rfl h.book, fr_figs oj rfl h.figs, fr_case o rfl h.case, fr_wght o rfl h.wght, fr_trty o oj rfl h.trty⟩
theorem rp_read (a : Int32) (b : Int32) {I : Nat → Nat → Int32} {J : Nat → Nat → Int64} {T : Option Nat} {P : Int64 → Int64 → (Nat → Nat → Int32) → (Nat → Nat → Int64) → Option Nat → Prop} (h : RR I J) (hP : ∀ v I2 J2 T2, RR I2 J2 → P v v I2 J2 T2) : wp_X11_read a b I J T (fun v I1 J1 T1 => wp_X12_read a b I1 J1 T1 (fun w I2 J2 T2 => P v w I2 J2 T2)) := by
  by_cases g : 0 ≤ a.toInt ∧ a.toInt ≤ 3
  · skip
    obtain ⟨t, ht, rfl⟩ := ii_at (x := a) (n := 4) (by omega) (by omega) (by decide)
    have t4 : (nI t).toInt = (t : Int) := nI_toInt (by omega)
    have t5 : (nI t).toNatClampNeg = t := nI_clamp (by omega)
    rcases h.tray t ht with ⟨q1, q2⟩ | ⟨s, m, hs, hm, q1, q2, q3, q4, q5⟩
    · skip
      simp only [wp_X11_read, wp_X12_read, wp_X11_refuse, wp_X11_trayStatus, wp_X12_wrongPlace, wp_X11_outside, wp_X12_isTray, lgc_lt, lgc_le, lgc_eq, cmp_s, cmp_t, u2_e]
      try simp only [Int32.lt_iff_toInt_lt, Int32.le_iff_toInt_le]
      simp [t4, t5, q1, q2]
      repeat' (first | refine And.intro ?_ ?_ | intro _)
      all_goals try first | rfl | (exfalso; omega) | exact inb_of (by omega) (by omega) | exact hP _ _ _ _ (RR_st h 1) | exact hP _ _ _ _ (RR_st h 2) | exact hP _ _ _ _ (RR_st h 3) | exact nI_in2 (by omega) (by omega)
    · skip
      have m4 : (nI m).toInt = (m : Int) := nI_toInt (by omega)
      have s4 : (nI s).toInt = (s : Int) := nI_toInt (by omega)
      have s6 : ¬ nI s = -1 := fun e => by have := congrArg Int32.toInt e; rw [s4] at this; simp at this
      have m6 : ¬ nI m = -1 := fun e => by have := congrArg Int32.toInt e; rw [m4] at this; simp at this
      have mk : ∀ x : Int32, 1 ≤ x.toInt → x.toInt ≤ 60 → (nI m - x).toInt = (m : Int) - x.toInt := fun x h1 h2 => by
        rw [nI_iZ, iZ_of x, iZ_sub, iZ_toInt (by omega) (by omega), ← iZ_of x]
      have mk1 := mk 1 (by decide) (by decide)
      by_cases gb : 0 ≤ b.toInt ∧ b.toInt < m
      · obtain ⟨k, hk, rfl⟩ := ii_at (x := b) (n := m) (by omega) (by omega) (by omega)
        have k4 : (nI k).toInt = (k : Int) := nI_toInt (by omega)
        have k5 : (nI k).toNatClampNeg = k := nI_clamp (by omega)
        have x5 : (nI (60 * t + k)).toNatClampNeg = 60 * t + k := nI_clamp (by omega)
        have q6 := q5 k hk
        rw [bJ_lt ht] at q6
        simp only [wp_X11_read, wp_X12_read, wp_X11_refuse, wp_X11_trayStatus, wp_X12_wrongPlace, wp_X11_outside, wp_X12_isTray, lgc_lt, lgc_le, lgc_eq, cmp_s, cmp_t, u2_e]
        try simp only [Int32.lt_iff_toInt_lt, Int32.le_iff_toInt_le]
        simp [t4, t5, q1, q2, q3, q4, m4, s6, m6, mk1, k4, k5, x5, pr_60, re_1 ht, q6]
        repeat' (first | refine And.intro ?_ ?_ | intro _)
        all_goals try first | rfl | (exfalso; omega) | exact inb_of (by omega) (by omega) | exact hP _ _ _ _ (RR_st h 0) | exact nI_in2 (by omega) (by omega)
      · skip
        simp only [wp_X11_read, wp_X12_read, wp_X11_refuse, wp_X11_trayStatus, wp_X12_wrongPlace, wp_X11_outside, wp_X12_isTray, lgc_lt, lgc_le, lgc_eq, cmp_s, cmp_t, u2_e]
        try simp only [Int32.lt_iff_toInt_lt, Int32.le_iff_toInt_le]
        simp [t4, t5, q1, q2, q3, q4, m4, s6, m6, mk1]
        repeat' (first | refine And.intro ?_ ?_ | intro _)
        all_goals try first | rfl | (exfalso; omega) | exact inb_of (by omega) (by omega) | exact hP _ _ _ _ (RR_st h 1) | exact hP _ _ _ _ (RR_st h 2) | exact hP _ _ _ _ (RR_st h 3) | exact nI_in2 (by omega) (by omega)
  · skip
    simp only [wp_X11_read, wp_X12_read, wp_X11_refuse, wp_X11_trayStatus, wp_X12_wrongPlace, wp_X11_outside, wp_X12_isTray, lgc_lt, lgc_le, lgc_eq, cmp_s, cmp_t, u2_e]
    try simp only [Int32.lt_iff_toInt_lt, Int32.le_iff_toInt_le]
    simp
    repeat' (first | refine And.intro ?_ ?_ | intro _)
    all_goals try first | rfl | (exfalso; omega) | exact inb_of (by omega) (by omega) | exact hP _ _ _ _ (RR_st h 1)

theorem rp_write (a : Int32) (b : Int32) (c : Int64) {I : Nat → Nat → Int32} {J : Nat → Nat → Int64} {T : Option Nat} {P : Int32 → Int32 → (Nat → Nat → Int32) → (Nat → Nat → Int64) → Option Nat → Prop} (h : RR I J) (hP : ∀ v I2 J2 T2, RR I2 J2 → P v v I2 J2 T2) : wp_X11_write a b c I J T (fun v I1 J1 T1 => wp_X12_write a b c I1 J1 T1 (fun w I2 J2 T2 => P v w I2 J2 T2)) := by
  by_cases g : 0 ≤ a.toInt ∧ a.toInt ≤ 3
  · skip
    obtain ⟨t, ht, rfl⟩ := ii_at (x := a) (n := 4) (by omega) (by omega) (by decide)
    have t4 : (nI t).toInt = (t : Int) := nI_toInt (by omega)
    have t5 : (nI t).toNatClampNeg = t := nI_clamp (by omega)
    rcases h.tray t ht with ⟨q1, q2⟩ | ⟨s, m, hs, hm, q1, q2, q3, q4, q5⟩
    · skip
      simp only [wp_X11_write, wp_X12_write, wp_X11_accepted, wp_X11_cutTo, wp_X11_refused, wp_X11_trayStatus, wp_X12_cut, wp_X12_is, wp_X12_wrongPlace, wp_X11_outside, wp_X12_isTray, lgc_lt, lgc_le, lgc_eq, cmp_s, cmp_t, u2_e]
      try simp only [Int32.lt_iff_toInt_lt, Int32.le_iff_toInt_le]
      simp [t4, t5, q1, q2]
      repeat' (first | refine And.intro ?_ ?_ | intro _)
      all_goals try first | rfl | (exfalso; omega) | exact inb_of (by omega) (by omega) | exact hP _ _ _ _ (RR_st h 1) | exact hP _ _ _ _ (RR_st h 2) | exact hP _ _ _ _ (RR_st h 3) | exact nI_in2 (by omega) (by omega)
    · skip
      have m4 : (nI m).toInt = (m : Int) := nI_toInt (by omega)
      have s4 : (nI s).toInt = (s : Int) := nI_toInt (by omega)
      have s6 : ¬ nI s = -1 := fun e => by have := congrArg Int32.toInt e; rw [s4] at this; simp at this
      have m6 : ¬ nI m = -1 := fun e => by have := congrArg Int32.toInt e; rw [m4] at this; simp at this
      have mk : ∀ x : Int32, 1 ≤ x.toInt → x.toInt ≤ 60 → (nI m - x).toInt = (m : Int) - x.toInt := fun x h1 h2 => by
        rw [nI_iZ, iZ_of x, iZ_sub, iZ_toInt (by omega) (by omega), ← iZ_of x]
      have mk1 := mk 1 (by decide) (by decide)
      by_cases gb : 0 ≤ b.toInt ∧ b.toInt < m
      · obtain ⟨k, hk, rfl⟩ := ii_at (x := b) (n := m) (by omega) (by omega) (by omega)
        have k4 : (nI k).toInt = (k : Int) := nI_toInt (by omega)
        have k5 : (nI k).toNatClampNeg = k := nI_clamp (by omega)
        have x5 : (nI (60 * t + k)).toNatClampNeg = 60 * t + k := nI_clamp (by omega)
        have fin : ∀ x : Int64, P 1 1 (ix_u2 (ix_u2 I 0 0 0) 204 0 0) (ix_u2 (ix_u2 J (2 + t) k x) 207 (60 * t + k) x) T := fun x => hP _ _ _ _ (rk_write h (by repeat (first | exact fr_refl | refine fr_put rfl ?_ | refine fr_putc rfl ?_ | refine fr_putn rfl (by omega) ?_)) (fr_put (fr_in_row (a := 207) (b := 208) (by decide) (by omega) (by omega) (by omega)) (fr_put (fr_in_row (a := 2) (b := 6) (by decide) (by omega) (by omega) (by omega)) fr_refl)) (by simp [rl_stat, u2_e]) (rl_tray_put (t := t) (p := k) (x := x) h.tray (by funext z; simp [u2_e]) (by funext z; simp [u2_e]) (by funext z; simp [u2_e]) (by funext z; simp [u2_e]) ht (by omega) (fun z y hz => by
            simp only [u2_e, show ¬ 2 + z = 207 by omega, if_false]
            by_cases e1 : z = t
            · by_cases e2 : y = k <;> simp [e1, e2]
            · simp [e1]) (fun y => by simp [u2_e, show ¬ 207 = 2 + t by omega])))
        simp only [wp_X11_write, wp_X12_write, wp_X11_accepted, wp_X11_cutTo, wp_X11_refused, wp_X11_trayStatus, wp_X12_cut, wp_X12_is, wp_X12_wrongPlace, wp_X11_outside, wp_X12_isTray, lgc_lt, lgc_le, lgc_eq, cmp_s, cmp_t, u2_e]
        try simp only [Int32.lt_iff_toInt_lt, Int32.le_iff_toInt_le]
        simp [t4, t5, q1, q2, q3, q4, m4, s6, m6, mk1, k4, k5, x5, pr_60, re_1 ht]
        repeat' (first | refine And.intro ?_ ?_ | intro _)
        all_goals try first | rfl | (exfalso; omega) | exact inb_of (by omega) (by omega) | exact hP _ _ _ _ (RR_st h 0) | exact nI_in2 (by omega) (by omega) | contradiction | exact fin _
      · skip
        simp only [wp_X11_write, wp_X12_write, wp_X11_accepted, wp_X11_cutTo, wp_X11_refused, wp_X11_trayStatus, wp_X12_cut, wp_X12_is, wp_X12_wrongPlace, wp_X11_outside, wp_X12_isTray, lgc_lt, lgc_le, lgc_eq, cmp_s, cmp_t, u2_e]
        try simp only [Int32.lt_iff_toInt_lt, Int32.le_iff_toInt_le]
        simp [t4, t5, q1, q2, q3, q4, m4, s6, m6, mk1]
        repeat' (first | refine And.intro ?_ ?_ | intro _)
        all_goals try first | rfl | (exfalso; omega) | exact inb_of (by omega) (by omega) | exact hP _ _ _ _ (RR_st h 1) | exact hP _ _ _ _ (RR_st h 2) | exact hP _ _ _ _ (RR_st h 3) | exact nI_in2 (by omega) (by omega)
  · skip
    simp only [wp_X11_write, wp_X12_write, wp_X11_accepted, wp_X11_cutTo, wp_X11_refused, wp_X11_trayStatus, wp_X12_cut, wp_X12_is, wp_X12_wrongPlace, wp_X11_outside, wp_X12_isTray, lgc_lt, lgc_le, lgc_eq, cmp_s, cmp_t, u2_e]
    try simp only [Int32.lt_iff_toInt_lt, Int32.le_iff_toInt_le]
    simp
    repeat' (first | refine And.intro ?_ ?_ | intro _)
    all_goals try first | rfl | (exfalso; omega) | exact inb_of (by omega) (by omega) | exact hP _ _ _ _ (RR_st h 1)

