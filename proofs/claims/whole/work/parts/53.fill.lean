def cut_ (s : Int32) (x : Int64) : Int64 := if s = 0 then x.toInt32.toInt8.toInt32.toInt64 else if s = 1 then x.toInt32.toInt16.toInt32.toInt64 else if s = 2 then x.toInt32.toInt64 else x
theorem fn_cutTo {s : Int32} {x : Int64} {I : Nat → Nat → Int32} {J : Nat → Nat → Int64} {T : Option Nat} {P : Int64 → (Nat → Nat → Int32) → (Nat → Nat → Int64) → Option Nat → Prop} (h : P (cut_ s x) I J T) : wp_X11_cutTo s x I J T P := by
  unfold wp_X11_cutTo
  unfold cut_ at h
  refine ⟨fun e => ?_, fun e => ⟨fun e2 => ?_, fun e2 => ⟨fun e3 => ?_, fun e3 => ?_⟩⟩⟩
  · rw [if_pos e] at h; exact h
  · rw [if_neg e, if_pos e2] at h; exact h
  · rw [if_neg e, if_neg e2, if_pos e3] at h; exact h
  · rw [if_neg e, if_neg e2, if_neg e3] at h; exact h
theorem fn_cut {s : Int32} {x : Int64} {I : Nat → Nat → Int32} {J : Nat → Nat → Int64} {T : Option Nat} {P : Int64 → (Nat → Nat → Int32) → (Nat → Nat → Int64) → Option Nat → Prop} (h : P (cut_ s x) I J T) : wp_X12_cut x s I J T P := by
  unfold wp_X12_cut
  unfold cut_ at h
  refine ⟨fun e => ?_, fun e => ⟨fun e2 => ?_, fun e2 => ⟨fun e3 => ?_, fun e3 => ?_⟩⟩⟩
  · rw [if_pos e] at h; exact h
  · rw [if_neg e, if_pos e2] at h; exact h
  · rw [if_neg e, if_neg e2, if_pos e3] at h; exact h
  · rw [if_neg e, if_neg e2, if_neg e3] at h; exact h
theorem lp_fillC {t p m : Nat} (ht : t < 4) (hm : p + m ≤ 60) {v by' : Int64} {I : Nat → Nat → Int32} {J : Nat → Nat → Int64} {T : Option Nat} {P : Int32 → (Nat → Nat → Int32) → (Nat → Nat → Int64) → Option Nat → Prop} (hP : ∀ J2, fr_off [(2, 6, 0, 2147483648)] J J2 → (∀ z k, ¬ z = t → J2 (2 + z) k = J (2 + z) k) → (∀ k, J2 (2 + t) k = if p ≤ k ∧ k < p + m then cut_ (I 6 t) (v + (nI (k - p)).toInt64 * by') else J (2 + t) k) → P 1 (ix_u2 I 0 0 0) J2 T) : wl_X11_fill_40 (nI t) (nI p) (nI m) v by' 0 I J T P := by
  intro V hV
  have t5 : (nI t).toNatClampNeg = t := nI_clamp (by omega)
  have key : ∀ n i : Nat, ∀ J2 : Nat → Nat → Int64, i + n = m → fr_off [(2, 6, 0, 2147483648)] J J2 → (∀ z k, ¬ z = t → J2 (2 + z) k = J (2 + z) k) → (∀ k, J2 (2 + t) k = if p ≤ k ∧ k < p + i then cut_ (I 6 t) (v + (nI (k - p)).toInt64 * by') else J (2 + t) k) → V (nI t) (nI p) (nI m) v by' (nI i) I J2 T := by
    intro n
    induction n with
    | zero =>
      intro i J2 hi h0 h1 h2
      apply hV
      have e : i = m := by omega
      subst e
      unfold wb_X11_fill_40 wp_X11_accepted
      exact ⟨fun q => absurd q (nI_nlt (by omega) (by omega)), fun _ => ⟨rfl, hP J2 h0 h1 h2⟩⟩
    | succ n ih =>
      intro i J2 hi h0 h1 h2
      apply hV
      have x5 : (nI (p + i)).toNatClampNeg = p + i := nI_clamp (by omega)
      simp only [wb_X11_fill_40, t5, nI_add, x5, re_1 ht, nI_1]
      refine ⟨fun _ => ⟨nI_in2 ht (by decide), nI_in2 ht (by decide), fn_cutTo ⟨nI_in2 (by omega) (by decide), ih (i + 1) _ (by omega) (fr_put (fr_in_row (a := 2) (b := 6) (by decide) (by omega) (by omega) (by omega)) h0) (fun z k hz => ?_) (fun k => ?_)⟩⟩, fun q => absurd (nI_lt (by omega) (by omega)) q⟩
      · rw [u2_c (by omega)]; exact h1 z k hz
      · by_cases e : k = p + i
        · subst e
          rw [u2_s, if_pos (by omega), show p + i - p = i by omega]
        · rw [u2_j e, h2 k]
          by_cases e2 : p ≤ k ∧ k < p + i
          · rw [if_pos e2, if_pos (by omega)]
          · rw [if_neg e2, if_neg (by omega)]
  exact key m 0 J (by omega) fr_refl (fun _ _ _ => rfl) (fun k => by rw [if_neg (by omega)])
theorem lp_fillM {t p m : Nat} (ht : t < 4) (hm : p + m ≤ 60) {v by' : Int64} {I : Nat → Nat → Int32} {J : Nat → Nat → Int64} {T : Option Nat} {P : Int32 → (Nat → Nat → Int32) → (Nat → Nat → Int64) → Option Nat → Prop} (hP : ∀ J2, fr_off [(207, 208, 0, 2147483648)] J J2 → (∀ k, J2 207 k = if 60 * t + p ≤ k ∧ k < 60 * t + p + m then cut_ (I 205 t) (v + (nI (k - (60 * t + p))).toInt64 * by') else J 207 k) → P 1 (ix_u2 I 204 0 0) J2 T) : wl_X12_fill_65 (nI t) (nI p) (nI m) v by' 0 I J T P := by
  intro V hV
  have t5 : (nI t).toNatClampNeg = t := nI_clamp (by omega)
  have key : ∀ n i : Nat, ∀ J2 : Nat → Nat → Int64, i + n = m → fr_off [(207, 208, 0, 2147483648)] J J2 → (∀ k, J2 207 k = if 60 * t + p ≤ k ∧ k < 60 * t + p + i then cut_ (I 205 t) (v + (nI (k - (60 * t + p))).toInt64 * by') else J 207 k) → V (nI t) (nI p) (nI m) v by' (nI i) I J2 T := by
    intro n
    induction n with
    | zero =>
      intro i J2 hi h0 h2
      apply hV
      have e : i = m := by omega
      subst e
      unfold wb_X12_fill_65 wp_X12_is
      exact ⟨fun q => absurd q (nI_nlt (by omega) (by omega)), fun _ => ⟨fun _ => ⟨rfl, hP J2 h0 h2⟩, fun q => absurd rfl q⟩⟩
    | succ n ih =>
      intro i J2 hi h0 h2
      apply hV
      have x5 : (nI (60 * t + p + i)).toNatClampNeg = 60 * t + p + i := nI_clamp (by omega)
      simp only [wb_X12_fill_65, t5, pr_60, nI_add, x5, nI_1]
      refine ⟨fun _ => ⟨nI_in2 ht (by decide), fn_cut ⟨nI_in2 (by omega) (by decide), ih (i + 1) _ (by omega) (fr_put (fr_in_row (a := 207) (b := 208) (by decide) (by omega) (by omega) (by omega)) h0) (fun k => ?_)⟩⟩, fun q => absurd (nI_lt (by omega) (by omega)) q⟩
      by_cases e : k = 60 * t + p + i
      · subst e
        rw [u2_s, if_pos (by omega), show 60 * t + p + i - (60 * t + p) = i by omega]
      · rw [u2_j e, h2 k]
        by_cases e2 : 60 * t + p ≤ k ∧ k < 60 * t + p + i
        · rw [if_pos e2, if_pos (by omega)]
        · rw [if_neg e2, if_neg (by omega)]
  exact key m 0 J (by omega) fr_refl (fun k => by rw [if_neg (by omega)])
theorem rl_tray_all {I I2 : Nat → Nat → Int32} {J J2 J3 : Nat → Nat → Int64} {t p m : Nat} {f : Nat → Int64} (h : RL_tray I J) (e6 : I2 6 = I 6) (e7 : I2 7 = I 7) (e5 : I2 205 = I 205) (e8 : I2 206 = I 206) (ht : t < 4) (hp : p + m ≤ 60) (h0 : fr_off [(2, 6, 0, 2147483648)] J J2) (h1 : ∀ z k, ¬ z = t → J2 (2 + z) k = J (2 + z) k) (h2 : ∀ k, J2 (2 + t) k = if p ≤ k ∧ k < p + m then f k else J (2 + t) k) (g0 : fr_off [(207, 208, 0, 2147483648)] J2 J3) (g1 : ∀ k, J3 207 k = if 60 * t + p ≤ k ∧ k < 60 * t + p + m then f (k - 60 * t) else J2 207 k) : RL_tray I2 J3 := by
  intro z hz
  rw [e6, e7, e5, e8]
  rcases h z hz with q | ⟨s, n, q1, q2, q3, q4, q5, q6, q7⟩
  · exact Or.inl q
  · refine Or.inr ⟨s, n, q1, q2, q3, q4, q5, q6, fun k hk => ?_⟩
    have e7 : J3 (2 + z) k = J2 (2 + z) k := by
      rcases (show z = 0 ∨ z = 1 ∨ z = 2 ∨ z = 3 by omega) with rfl | rfl | rfl | rfl <;> exact g0 _ k (by simp [fr_in, fr_1])
    have e8 : ∀ k, J2 207 k = J 207 k := fun k => h0 207 k (by simp [fr_in, fr_1])
    have q8 := q7 k hk
    rw [bJ_lt hz] at q8 ⊢
    rw [e7, g1, e8]
    by_cases e : z = t
    · subst e
      rw [h2 k]
      by_cases e2 : p ≤ k ∧ k < p + m
      · rw [if_pos e2, if_pos (by omega), show 60 * z + k - 60 * z = k by omega]
      · rw [if_neg e2, if_neg (by omega)]; exact q8
    · rw [h1 z k e, if_neg (by omega)]; exact q8
theorem fs_fill {t p k s m : Nat} (ht : t < 4) (hs : s < 4) (hm : m ≤ 60) (hk : 1 ≤ k) (hpk : p + k ≤ m) {v by' : Int64} {I : Nat → Nat → Int32} {J : Nat → Nat → Int64} {T : Option Nat} {P : Int32 → (Nat → Nat → Int32) → (Nat → Nat → Int64) → Option Nat → Prop} (q1 : I 6 t = nI s) (q3 : I 7 t = nI m) (hP : ∀ J2, fr_off [(2, 6, 0, 2147483648)] J J2 → (∀ z k, ¬ z = t → J2 (2 + z) k = J (2 + z) k) → (∀ y, J2 (2 + t) y = if p ≤ y ∧ y < p + k then cut_ (I 6 t) (v + (nI (y - p)).toInt64 * by') else J (2 + t) y) → P 1 (ix_u2 I 0 0 0) J2 T) : wp_X11_fill (nI t) (nI p) (nI k) v by' I J T P := by
  have t4 : (nI t).toInt = (t : Int) := nI_toInt (by omega)
  have t5 : (nI t).toNatClampNeg = t := nI_clamp (by omega)
  have p4 : (nI p).toInt = (p : Int) := nI_toInt (by omega)
  have k4 : (nI k).toInt = (k : Int) := nI_toInt (by omega)
  have m4 : (nI m).toInt = (m : Int) := nI_toInt (by omega)
  have s4 : (nI s).toInt = (s : Int) := nI_toInt (by omega)
  have s6 : ¬ nI s = -1 := fun e => by have := congrArg Int32.toInt e; rw [s4] at this; simp at this
  have m6 : ¬ nI m = -1 := fun e => by have := congrArg Int32.toInt e; rw [m4] at this; simp at this
  have mk : (nI m - nI k).toInt = (m : Int) - k := by rw [nI_iZ, nI_iZ, iZ_sub, iZ_toInt (by omega) (by omega)]
  have mp : (nI m - nI p).toInt = (m : Int) - p := by rw [nI_iZ, nI_iZ, iZ_sub, iZ_toInt (by omega) (by omega)]
  simp only [wp_X11_fill, wp_X11_outside, wp_X11_refused, wp_X11_trayStatus, lgc_lt, lgc_le, lgc_eq, cmp_s, cmp_t, u2_e]
  try simp only [Int32.lt_iff_toInt_lt, Int32.le_iff_toInt_le]
  simp [t4, t5, p4, k4, m4, q1, q3, s6, mk]
  repeat' (first | exact lp_fillC ht (by omega) hP | refine And.intro ?_ ?_ | intro _)
  all_goals try first | rfl | (exfalso; omega) | exact inb_of (by omega) (by omega) | exact nI_in2 (by omega) (by omega)

theorem fm_fill {t p k s m : Nat} (ht : t < 4) (hs : s < 4) (hm : m ≤ 60) (hk : 1 ≤ k) (hpk : p + k ≤ m) {v by' : Int64} {I : Nat → Nat → Int32} {J : Nat → Nat → Int64} {T : Option Nat} {P : Int32 → (Nat → Nat → Int32) → (Nat → Nat → Int64) → Option Nat → Prop} (q4 : I 206 t = nI m) (hP : ∀ J2, fr_off [(207, 208, 0, 2147483648)] J J2 → (∀ y, J2 207 y = if 60 * t + p ≤ y ∧ y < 60 * t + p + k then cut_ (I 205 t) (v + (nI (y - (60 * t + p))).toInt64 * by') else J 207 y) → P 1 (ix_u2 I 204 0 0) J2 T) : wp_X12_fill (nI t) (nI p) (nI k) v by' I J T P := by
  have t4 : (nI t).toInt = (t : Int) := nI_toInt (by omega)
  have t5 : (nI t).toNatClampNeg = t := nI_clamp (by omega)
  have p4 : (nI p).toInt = (p : Int) := nI_toInt (by omega)
  have k4 : (nI k).toInt = (k : Int) := nI_toInt (by omega)
  have m4 : (nI m).toInt = (m : Int) := nI_toInt (by omega)
  have s4 : (nI s).toInt = (s : Int) := nI_toInt (by omega)
  have s6 : ¬ nI s = -1 := fun e => by have := congrArg Int32.toInt e; rw [s4] at this; simp at this
  have m6 : ¬ nI m = -1 := fun e => by have := congrArg Int32.toInt e; rw [m4] at this; simp at this
  have mk : (nI m - nI k).toInt = (m : Int) - k := by rw [nI_iZ, nI_iZ, iZ_sub, iZ_toInt (by omega) (by omega)]
  have mp : (nI m - nI p).toInt = (m : Int) - p := by rw [nI_iZ, nI_iZ, iZ_sub, iZ_toInt (by omega) (by omega)]
  simp only [wp_X12_fill, wp_X12_is, wp_X12_isTray, lgc_lt, lgc_le, lgc_eq, cmp_s, cmp_t, u2_e]
  try simp only [Int32.lt_iff_toInt_lt, Int32.le_iff_toInt_le]
  simp [t4, t5, p4, k4, m4, q4, m6, mp]
  repeat' (first | exact lp_fillM ht (by omega) hP | refine And.intro ?_ ?_ | intro _)
  all_goals try first | rfl | (exfalso; omega) | exact inb_of (by omega) (by omega) | exact nI_in2 (by omega) (by omega)

theorem rp_fill (a : Int32) (b : Int32) (c : Int32) (fv : Int64) (fb : Int64) {I : Nat → Nat → Int32} {J : Nat → Nat → Int64} {T : Option Nat} {P : Int32 → Int32 → (Nat → Nat → Int32) → (Nat → Nat → Int64) → Option Nat → Prop} (h : RR I J) (hP : ∀ v I2 J2 T2, RR I2 J2 → P v v I2 J2 T2) : wp_X11_fill a b c fv fb I J T (fun v I1 J1 T1 => wp_X12_fill a b c fv fb I1 J1 T1 (fun w I2 J2 T2 => P v w I2 J2 T2)) := by
  by_cases g : 0 ≤ a.toInt ∧ a.toInt ≤ 3
  · obtain ⟨t, ht, rfl⟩ := ii_at (x := a) (n := 4) (by omega) (by omega) (by decide)
    have t4 : (nI t).toInt = (t : Int) := nI_toInt (by omega)
    have t5 : (nI t).toNatClampNeg = t := nI_clamp (by omega)
    rcases h.tray t ht with ⟨q1, q2⟩ | ⟨s, m, hs, hm, q1, q2, q3, q4, q5⟩
    · skip
      simp only [wp_X11_fill, wp_X12_fill, wp_X11_outside, wp_X11_refused, wp_X11_trayStatus, wp_X12_is, wp_X12_isTray, lgc_lt, lgc_le, lgc_eq, cmp_s, cmp_t, u2_e]
      try simp only [Int32.lt_iff_toInt_lt, Int32.le_iff_toInt_le]
      simp [t4, t5, q1, q2]
      repeat' (first | refine And.intro ?_ ?_ | intro _)
      all_goals try first | rfl | (exfalso; omega) | exact inb_of (by omega) (by omega) | exact hP _ _ _ _ (RR_st h 1) | exact hP _ _ _ _ (RR_st h 2) | exact nI_in2 (by omega) (by omega)
    · skip
      have m4 : (nI m).toInt = (m : Int) := nI_toInt (by omega)
      have s4 : (nI s).toInt = (s : Int) := nI_toInt (by omega)
      have s6 : ¬ nI s = -1 := fun e => by have := congrArg Int32.toInt e; rw [s4] at this; simp at this
      have m6 : ¬ nI m = -1 := fun e => by have := congrArg Int32.toInt e; rw [m4] at this; simp at this
      have mk : ∀ x : Int32, 1 ≤ x.toInt → x.toInt ≤ 60 → (nI m - x).toInt = (m : Int) - x.toInt := fun x h1 h2 => by
        rw [nI_iZ, iZ_of x, iZ_sub, iZ_toInt (by omega) (by omega), ← iZ_of x]
      by_cases gb : 0 ≤ b.toInt ∧ 1 ≤ c.toInt ∧ c.toInt ≤ m - b.toInt
      · obtain ⟨p, hp, rfl⟩ := ii_at (x := b) (n := 61) (by omega) (by omega) (by omega)
        obtain ⟨k, hk, rfl⟩ := ii_at (x := c) (n := 61) (by omega) (by omega) (by omega)
        have p4 : (nI p).toInt = (p : Int) := nI_toInt (by omega)
        have k4 : (nI k).toInt = (k : Int) := nI_toInt (by omega)
        rw [p4, k4] at gb
        refine fs_fill ht hs hm (by omega) (by omega) q1 q3 (fun J2 h0 h1 h2 => fm_fill (s := s) ht hs hm (by omega) (by omega) (by simpa [u2_e] using q4) (fun J3 g0 g1 => hP _ _ _ _ ?_))
        refine rk_write h (by repeat (first | exact fr_refl | refine fr_put rfl ?_ | refine fr_putc rfl ?_ | refine fr_putn rfl (by omega) ?_)) (fr_trans (fr_mono (by decide) h0) (fr_mono (by decide) g0)) (by simp [rl_stat, u2_e]) (rl_tray_all h.tray (by funext z; simp [u2_e]) (by funext z; simp [u2_e]) (by funext z; simp [u2_e]) (by funext z; simp [u2_e]) ht (by omega) h0 h1 h2 g0 (fun y => ?_))
        rw [g1 y]
        simp only [u2_e, show ¬ 205 = 0 by decide, if_false, q1, q2, show y - 60 * t - p = y - (60 * t + p) by omega]
      · have mb : 0 ≤ b.toInt → (nI m - b).toInt = (m : Int) - b.toInt := fun h1 => by
          have := Int32.toInt_lt b
          rw [nI_iZ, iZ_of b, iZ_sub, iZ_toInt (by omega) (by omega), ← iZ_of b]
        by_cases gc : 1 ≤ c.toInt ∧ c.toInt ≤ 60
        · have mc := mk c gc.1 gc.2
          by_cases gd : 0 ≤ b.toInt
          · have mb := mb gd
            simp only [wp_X11_fill, wp_X12_fill, wp_X11_outside, wp_X11_refused, wp_X11_trayStatus, wp_X12_is, wp_X12_isTray, lgc_lt, lgc_le, lgc_eq, cmp_s, cmp_t, u2_e]
            try simp only [Int32.lt_iff_toInt_lt, Int32.le_iff_toInt_le]
            simp [t4, t5, q1, q2, q3, q4, m4, s6, m6, mc, mb]
            repeat' (first | refine And.intro ?_ ?_ | intro _)
            all_goals try first | rfl | (exfalso; omega) | exact inb_of (by omega) (by omega) | exact hP _ _ _ _ (RR_st h 1) | exact hP _ _ _ _ (RR_st h 2) | exact hP _ _ _ _ (RR_st h 3) | exact nI_in2 (by omega) (by omega)
          · skip
            simp only [wp_X11_fill, wp_X12_fill, wp_X11_outside, wp_X11_refused, wp_X11_trayStatus, wp_X12_is, wp_X12_isTray, lgc_lt, lgc_le, lgc_eq, cmp_s, cmp_t, u2_e]
            try simp only [Int32.lt_iff_toInt_lt, Int32.le_iff_toInt_le]
            simp [t4, t5, q1, q2, q3, q4, m4, s6, m6, mc]
            repeat' (first | refine And.intro ?_ ?_ | intro _)
            all_goals try first | rfl | (exfalso; omega) | exact inb_of (by omega) (by omega) | exact hP _ _ _ _ (RR_st h 1) | exact hP _ _ _ _ (RR_st h 2) | exact hP _ _ _ _ (RR_st h 3) | exact nI_in2 (by omega) (by omega)
        · skip
          simp only [wp_X11_fill, wp_X12_fill, wp_X11_outside, wp_X11_refused, wp_X11_trayStatus, wp_X12_is, wp_X12_isTray, lgc_lt, lgc_le, lgc_eq, cmp_s, cmp_t, u2_e]
          try simp only [Int32.lt_iff_toInt_lt, Int32.le_iff_toInt_le]
          simp [t4, t5, q1, q2, q3, q4, m4, s6, m6]
          repeat' (first | refine And.intro ?_ ?_ | intro _)
          all_goals try first | rfl | (exfalso; omega) | exact inb_of (by omega) (by omega) | exact hP _ _ _ _ (RR_st h 1) | exact hP _ _ _ _ (RR_st h 2) | exact hP _ _ _ _ (RR_st h 3) | exact nI_in2 (by omega) (by omega)
  · skip
    simp only [wp_X11_fill, wp_X12_fill, wp_X11_outside, wp_X11_refused, wp_X11_trayStatus, wp_X12_is, wp_X12_isTray, lgc_lt, lgc_le, lgc_eq, cmp_s, cmp_t, u2_e]
    try simp only [Int32.lt_iff_toInt_lt, Int32.le_iff_toInt_le]
    simp
    repeat' (first | refine And.intro ?_ ?_ | intro _)
    all_goals try first | rfl | (exfalso; omega) | exact inb_of (by omega) (by omega) | exact hP _ _ _ _ (RR_st h 1)

