theorem lp_trayC {t : Nat} (ht : t < 4) {b c : Int32} {I : Nat → Nat → Int32} {J : Nat → Nat → Int64} {T : Option Nat} {P : Int32 → (Nat → Nat → Int32) → (Nat → Nat → Int64) → Option Nat → Prop} (hP : ∀ J2, fr_off [(2, 6, 0, 2147483648)] J J2 → (∀ z k, ¬ z = t → J2 (2 + z) k = J (2 + z) k) → (∀ k, k < 60 → J2 (2 + t) k = 0) → P 1 (ix_u2 (ix_u2 (ix_u2 I 6 t b) 7 t c) 0 0 0) J2 T) : wl_X11_tray_45 (nI t) b c 0 I J T P := by
  intro V hV
  have t5 : (nI t).toNatClampNeg = t := nI_clamp (by omega)
  have key : ∀ m i : Nat, ∀ J2 : Nat → Nat → Int64, i + m = 60 → fr_off [(2, 6, 0, 2147483648)] J J2 → (∀ z k, ¬ z = t → J2 (2 + z) k = J (2 + z) k) → (∀ k, k < i → J2 (2 + t) k = 0) → V (nI t) b c (nI i) I J2 T := by
    intro m
    induction m with
    | zero =>
      intro i J2 hi h0 h1 h2
      apply hV
      have e : i = 60 := by omega
      subst e
      simp only [wb_X11_tray_45, wp_X11_accepted, t5]
      exact ⟨fun q => absurd q (by decide), fun _ => ⟨nI_in2 ht (by decide), nI_in2 ht (by decide), rfl, hP J2 h0 h1 h2⟩⟩
    | succ m ih =>
      intro i J2 hi h0 h1 h2
      apply hV
      have i5 : (nI i).toNatClampNeg = i := nI_clamp (by omega)
      simp only [wb_X11_tray_45, i5, re_1 ht, nI_1]
      refine ⟨fun _ => ⟨nI_in2 ht (by decide), nI_in2 (by omega) (by decide), ih (i + 1) _ (by omega) (fr_put (fr_in_row (a := 2) (b := 6) (by decide) (by omega) (by omega) (by omega)) h0) (fun z k hz => ?_) (fun k hk => ?_)⟩, fun q => absurd (nI_lt (a := i) (b := 60) (by omega) (by decide)) q⟩
      · rw [u2_c (by omega)]; exact h1 z k hz
      · by_cases e : k = i
        · rw [e, u2_s]
        · rw [u2_j e]; exact h2 k (by omega)
  exact key 60 0 J (by omega) fr_refl (fun _ _ _ => rfl) (fun k hk => by omega)
theorem lp_trayM {t c : Nat} (ht : t < 4) (hc : c ≤ 60) {I : Nat → Nat → Int32} {J : Nat → Nat → Int64} {T : Option Nat} {P : Int32 → (Nat → Nat → Int32) → (Nat → Nat → Int64) → Option Nat → Prop} (hP : ∀ J2, fr_off [(207, 208, 0, 2147483648)] J J2 → (∀ k, ¬ (60 * t ≤ k ∧ k < 60 * t + c) → J2 207 k = J 207 k) → (∀ k, k < c → J2 207 (60 * t + k) = 0) → P 1 (ix_u2 I 204 0 0) J2 T) : wl_X12_tray_49 (nI t) (nI c) 0 I J T P := by
  intro V hV
  have key : ∀ m i : Nat, ∀ J2 : Nat → Nat → Int64, i + m = c → fr_off [(207, 208, 0, 2147483648)] J J2 → (∀ k, ¬ (60 * t ≤ k ∧ k < 60 * t + c) → J2 207 k = J 207 k) → (∀ k, k < i → J2 207 (60 * t + k) = 0) → V (nI t) (nI c) (nI i) I J2 T := by
    intro m
    induction m with
    | zero =>
      intro i J2 hi h0 h1 h2
      apply hV
      have e : i = c := by omega
      subst e
      unfold wb_X12_tray_49 wp_X12_is
      refine ⟨fun q => absurd q (nI_nlt (by omega) (by omega)), fun _ => ⟨fun _ => ⟨rfl, hP J2 h0 h1 h2⟩, fun q => absurd rfl q⟩⟩
    | succ m ih =>
      intro i J2 hi h0 h1 h2
      apply hV
      have x5 : (nI (60 * t + i)).toNatClampNeg = 60 * t + i := nI_clamp (by omega)
      simp only [wb_X12_tray_49, pr_60, x5, nI_1]
      refine ⟨fun _ => ⟨nI_in2 (by omega) (by decide), ih (i + 1) _ (by omega) (fr_put (fr_in_row (a := 207) (b := 208) (by decide) (by omega) (by omega) (by omega)) h0) (fun k hz => ?_) (fun k hk => ?_)⟩, fun q => absurd (nI_lt (by omega) (by omega)) q⟩
      · rw [u2_j (by omega)]; exact h1 k hz
      · by_cases e : k = i
        · rw [e, u2_s]
        · rw [u2_j (by omega)]; exact h2 k (by omega)
  exact key c 0 J (by omega) fr_refl (fun _ _ => rfl) (fun k hk => by omega)
theorem fs_tray {t s m : Nat} (ht : t < 4) (hs : s < 4) (hm : m ≤ 60) {I : Nat → Nat → Int32} {J : Nat → Nat → Int64} {T : Option Nat} {P : Int32 → (Nat → Nat → Int32) → (Nat → Nat → Int64) → Option Nat → Prop} (hP : ∀ J2, fr_off [(2, 6, 0, 2147483648)] J J2 → (∀ z k, ¬ z = t → J2 (2 + z) k = J (2 + z) k) → (∀ k, k < 60 → J2 (2 + t) k = 0) → P 1 (ix_u2 (ix_u2 (ix_u2 I 6 t (nI s)) 7 t (nI m)) 0 0 0) J2 T) : wp_X11_tray (nI t) (nI s) (nI m) I J T P := by
  have t4 : (nI t).toInt = (t : Int) := nI_toInt (by omega)
  have t5 : (nI t).toNatClampNeg = t := nI_clamp (by omega)
  have s4 : (nI s).toInt = (s : Int) := nI_toInt (by omega)
  have m4 : (nI m).toInt = (m : Int) := nI_toInt (by omega)
  simp only [wp_X11_tray, wp_X11_outside, wp_X11_refused, lgc_lt, lgc_le, lgc_eq, cmp_s, cmp_t, u2_e]
  try simp only [Int32.lt_iff_toInt_lt, Int32.le_iff_toInt_le]
  simp [t4, t5, s4, m4]
  repeat' (first | exact lp_trayC ht hP | refine And.intro ?_ ?_ | intro _)
  all_goals try first | rfl | (exfalso; omega) | exact inb_of (by omega) (by omega) | exact nI_in2 (by omega) (by omega)

theorem fm_tray {t s m : Nat} (ht : t < 4) (hs : s < 4) (hm : m ≤ 60) {I : Nat → Nat → Int32} {J : Nat → Nat → Int64} {T : Option Nat} {P : Int32 → (Nat → Nat → Int32) → (Nat → Nat → Int64) → Option Nat → Prop} (hP : ∀ J2, fr_off [(207, 208, 0, 2147483648)] J J2 → (∀ k, ¬ (60 * t ≤ k ∧ k < 60 * t + m) → J2 207 k = J 207 k) → (∀ k, k < m → J2 207 (60 * t + k) = 0) → P 1 (ix_u2 (ix_u2 (ix_u2 I 205 t (nI s)) 206 t (nI m)) 204 0 0) J2 T) : wp_X12_tray (nI t) (nI s) (nI m) I J T P := by
  have t4 : (nI t).toInt = (t : Int) := nI_toInt (by omega)
  have t5 : (nI t).toNatClampNeg = t := nI_clamp (by omega)
  have s4 : (nI s).toInt = (s : Int) := nI_toInt (by omega)
  have m4 : (nI m).toInt = (m : Int) := nI_toInt (by omega)
  simp only [wp_X12_tray, wp_X12_is, wp_X12_isTray, lgc_lt, lgc_le, lgc_eq, cmp_s, cmp_t, u2_e]
  try simp only [Int32.lt_iff_toInt_lt, Int32.le_iff_toInt_le]
  simp [t4, t5, s4, m4]
  repeat' (first | exact lp_trayM ht hm hP | refine And.intro ?_ ?_ | intro _)
  all_goals try first | rfl | (exfalso; omega) | exact inb_of (by omega) (by omega) | exact nI_in2 (by omega) (by omega)

theorem rk_tray {I I2 : Nat → Nat → Int32} {J : Nat → Nat → Int64} {J2 : Nat → Nat → Int64} (h : RR I J) (o : fr_off [(0, 1, 0, 1), (204, 205, 0, 1), (6, 8, 0, 2147483648), (205, 207, 0, 2147483648)] I I2) (oj : fr_off [(2, 6, 0, 2147483648), (207, 208, 0, 2147483648)] J J2) (p0 : RL_stat I2) (p1 : RL_tray I2 J2) : RR I2 J2 := ⟨p0, fr_frac oj rfl h.frac, p1, fr_land o rfl h.land, fr_gold o rfl h.gold, fr_road o rfl h.road, fr_carr o rfl h.carr, fr_rate o rfl h.rate, fr_tape o rfl h.tape, fr_falt o rfl h.falt, fr_resv o rfl h.resv, fr_flow o rfl h.flow, fr_draw o rfl h.draw, fr_tell o rfl h.tell, fr_acct o oj rfl h.acct, fr_rule o rfl h.rule, fr_bags o rfl h.bags, fr_hand o rfl h.hand, fr_book o rfl h.book, fr_figs oj rfl h.figs, fr_case o rfl h.case, fr_wght o rfl h.wght, fr_trty o oj rfl h.trty⟩
theorem rp_tray (a : Int32) (b : Int32) (c : Int32) {I : Nat → Nat → Int32} {J : Nat → Nat → Int64} {T : Option Nat} {P : Int32 → Int32 → (Nat → Nat → Int32) → (Nat → Nat → Int64) → Option Nat → Prop} (h : RR I J) (hP : ∀ v I2 J2 T2, RR I2 J2 → P v v I2 J2 T2) : wp_X11_tray a b c I J T (fun v I1 J1 T1 => wp_X12_tray a b c I1 J1 T1 (fun w I2 J2 T2 => P v w I2 J2 T2)) := by
  by_cases g : 0 ≤ a.toInt ∧ a.toInt ≤ 3 ∧ 0 ≤ b.toInt ∧ b.toInt ≤ 3 ∧ 0 ≤ c.toInt ∧ c.toInt ≤ 60
  · obtain ⟨t, ht, rfl⟩ := ii_at (x := a) (n := 4) (by omega) (by omega) (by decide)
    obtain ⟨s, hs, rfl⟩ := ii_at (x := b) (n := 4) (by omega) (by omega) (by decide)
    obtain ⟨m, hm, rfl⟩ := ii_at (x := c) (n := 61) (by omega) (by omega) (by decide)
    refine fs_tray ht hs (by omega) (fun J2 h0 h1 h2 => fm_tray ht hs (by omega) (fun J3 g0 g1 g2 => hP _ _ _ _ ?_))
    refine rk_tray h (by repeat (first | exact fr_refl | refine fr_put rfl ?_ | refine fr_put (fr_in_row (a := 6) (b := 8) (by decide) (by omega) (by omega) (by omega)) ?_ | refine fr_put (fr_in_row (a := 205) (b := 207) (by decide) (by omega) (by omega) (by omega)) ?_)) (fr_trans (fr_mono (by decide) h0) (fr_mono (by decide) g0)) (by simp [rl_stat, u2_e]) (fun z hz => ?_)
    have e7 : ∀ y k, y < 4 → J3 (2 + y) k = J2 (2 + y) k := fun y k hy => by
      rcases (show y = 0 ∨ y = 1 ∨ y = 2 ∨ y = 3 by omega) with rfl | rfl | rfl | rfl <;> exact g0 _ k (by simp [fr_in, fr_1])
    have e8 : ∀ k, J2 207 k = J 207 k := fun k => h0 207 k (by simp [fr_in, fr_1])
    by_cases e : z = t
    · subst e
      refine Or.inr ⟨s, m, hs, by omega, by simp [u2_e], by simp [u2_e], by simp [u2_e], by simp [u2_e], fun k hk => ?_⟩
      rw [bJ_lt hz, e7 z k hz, h2 k (by omega), g2 k hk]
    · rcases h.tray z hz with ⟨q1, q2⟩ | ⟨s9, m9, q1, q2, q3, q4, q5, q6, q7⟩
      · exact Or.inl ⟨by simpa [u2_e, e] using q1, by simpa [u2_e, e] using q2⟩
      · refine Or.inr ⟨s9, m9, q1, q2, by simpa [u2_e, e] using q3, by simpa [u2_e, e] using q4, by simpa [u2_e, e] using q5, by simpa [u2_e, e] using q6, fun k hk => ?_⟩
        have q8 := q7 k hk
        rw [bJ_lt hz] at q8 ⊢
        rw [e7 z k hz, h1 z k e, q8, g1 _ (by omega), e8]
  · skip
    simp only [wp_X11_tray, wp_X12_tray, wp_X11_outside, wp_X11_refused, wp_X12_is, wp_X12_isTray, lgc_lt, lgc_le, lgc_eq, cmp_s, cmp_t, u2_e]
    try simp only [Int32.lt_iff_toInt_lt, Int32.le_iff_toInt_le]
    simp
    repeat' (first | refine And.intro ?_ ?_ | intro _)
    all_goals try first | rfl | (exfalso; omega) | exact inb_of (by omega) (by omega) | exact hP _ _ _ _ (RR_st h 1)

