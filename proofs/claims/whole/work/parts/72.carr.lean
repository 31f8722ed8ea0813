/-! carried -/
theorem lp_c12 {n i : Nat} {m0 : Nat → Nat → Nat} (hn : n ≤ 7) (hi : i < n) {I : Nat → Nat → Int32} {J : Nat → Nat → Int64} {T : Option Nat} {P : (Nat → Nat → Int32) → (Nat → Nat → Int64) → Option Nat → Prop} {I0 : Nat → Nat → Int32} {V2 : Int32 → (Nat → Nat → Int32) → (Nat → Nat → Int64) → Option Nat → Prop} (en : I 204 6 = nI n) (hr : ∀ a b, a < n → b < n → ∃ d f : Nat, d ≤ 60 ∧ f ≤ 10000 ∧ I 211 (7 * a + b) = nI d ∧ (0 < d → I 212 (7 * a + b) = nI f) ∧ m0 a b = (if a = b then 0 else if 0 < d then f else 1000000)) (o0 : fr_off [(245, 246, 0, 2147483648)] I I0) (q0 : ∀ a b, a < n → b < n → a < i → I0 245 (7 * a + b) = en_ (m0 a b)) (nx : ∀ I2, fr_off [(245, 246, 0, 2147483648)] I I2 → (∀ a b, a < n → b < n → a < i + 1 → I2 245 (7 * a + b) = en_ (m0 a b)) → V2 (nI (i + 1)) I2 J T) : wl_X12_carry_12_2 (nI i) 0 I0 J T V2 P := by
  intro V hV
  have key : ∀ m j : Nat, ∀ I1 : Nat → Nat → Int32, j + m = n → fr_off [(245, 246, 0, 2147483648)] I I1 → (∀ a b, a < n → b < n → (a < i ∨ (a = i ∧ b < j)) → I1 245 (7 * a + b) = en_ (m0 a b)) → V (nI i) (nI j) I1 J T := by
    intro m
    induction m with
    | zero =>
      intro j I1 hj o q
      have hj : j = n := by omega
      subst hj
      apply hV
      unfold wb_X12_carry_12_2
      rw [fr_at 204 6 o rfl, en, nI_1, nI_1]
      exact ⟨fun z => absurd z (nI_nlt (Nat.le_refl _) (by omega)), fun _ => nx I1 o (fun a b ha hb9 hai => q a b ha hb9 (by omega))⟩
    | succ m ih =>
      intro j I1 hj o q
      have hj9 : j < n := by omega
      obtain ⟨d, f, hd, hf, e1, e2, e3⟩ := hr i j hi hj9
      have put : ∀ x : Int32, x = en_ (m0 i j) → V (nI i) (nI (j + 1)) (ix_u2 I1 245 (7 * i + j) x) J T := fun x ex => ih (j + 1) _ (by omega) (fr_putn rfl (by omega) o) (fun a b ha hb9 hd9 => by
        by_cases c : a = i ∧ b = j
        · obtain ⟨rfl, rfl⟩ := c
          rw [← ex]
          simp [u2_e]
        · rw [u2_j (by omega)]
          exact q a b ha hb9 (by omega))
      have iC : ix_inb (nI (7 * i + j)) 49 = true := nI_in2 (by omega) (by decide)
      have ij : nI i = nI j ↔ i = j := nI_eq (by omega) (by omega)
      have d0 : nI d ≤ 0 ↔ ¬ 0 < d := by
        rw [show (0 : Int32) = nI 0 from rfl, nI_leI (by omega) (by omega)]
        omega
      apply hV
      unfold wb_X12_carry_12_2 wp_X12_isRoad wp_X12_pair
      dsimp only
      rw [fr_at 204 6 o rfl, en, nI_1, pr_7, nI_clamp (show 7 * i + j < 2 ^ 31 by omega), fr_rw1 o 211 rfl, fr_rw1 o 212 rfl, e1, ij, d0]
      refine ⟨fun _ => ⟨fun z => ⟨iC, put _ ?_⟩, fun z => ⟨fun w => absurd w z, fun _ => ⟨iC, fun w => ⟨fun _ => ⟨iC, put _ ?_⟩, fun y => absurd rfl y⟩, fun w => ⟨fun y => absurd y (by decide), fun _ => ⟨iC, iC, put _ ?_⟩⟩⟩⟩⟩, fun z => absurd (nI_lt (by omega) (by omega)) z⟩
      · rw [e3, if_pos z]; rfl
      · rw [e3, if_neg z, if_neg w]; rfl
      · have w : 0 < d := by omega
        rw [e3, if_neg z, if_pos w, en_fin (by omega)]; exact e2 w
  exact key n 0 I0 (by omega) o0 (fun a b ha hb9 hd9 => q0 a b ha hb9 (by omega))
theorem fn_carry {n : Nat} {m0 : Nat → Nat → Nat} (hn : n ≤ 7) (hd : ∀ a, a < 7 → m0 a a = 0) (hb : ∀ a b, a < 7 → b < 7 → m0 a b ≤ 10000 ∨ m0 a b = 1000000) {I : Nat → Nat → Int32} {J : Nat → Nat → Int64} {T : Option Nat} {P : (Nat → Nat → Int32) → (Nat → Nat → Int64) → Option Nat → Prop} (en : I 204 6 = nI n) (hr : ∀ a b, a < n → b < n → ∃ d f : Nat, d ≤ 60 ∧ f ≤ 10000 ∧ I 211 (7 * a + b) = nI d ∧ (0 < d → I 212 (7 * a + b) = nI f) ∧ m0 a b = (if a = b then 0 else if 0 < d then f else 1000000)) (nx : ∀ I2, fr_off [(245, 246, 0, 2147483648)] I I2 → (∀ a b, a < n → b < n → I2 245 (7 * a + b) = en_ (fwN n m0 a b)) → P I2 J T) : wp_X12_carry I J T P := by
  unfold wp_X12_carry
  intro V hV
  have key : ∀ m i : Nat, ∀ I1 : Nat → Nat → Int32, i + m = n → fr_off [(245, 246, 0, 2147483648)] I I1 → (∀ a b, a < n → b < n → a < i → I1 245 (7 * a + b) = en_ (m0 a b)) → V (nI i) I1 J T := by
    intro m
    induction m with
    | zero =>
      intro i I1 hi o q
      have hi : i = n := by omega
      subst hi
      apply hV
      unfold wb_X12_carry_2
      rw [fr_at 204 6 o rfl, en]
      exact ⟨fun z => absurd z (nI_nlt (Nat.le_refl _) (by omega)), fun _ => lp_c76 (I := I) hn hd hb en o (fun a b ha hb9 => q a b ha hb9 ha) nx⟩
    | succ m ih =>
      intro i I1 hi o q
      apply hV
      unfold wb_X12_carry_2
      rw [fr_at 204 6 o rfl, en]
      exact ⟨fun _ => lp_c12 (I := I) hn (by omega) en hr o q (fun I2 o2 q2 => ih (i + 1) I2 (by omega) o2 q2), fun z => absurd (nI_lt (by omega) (by omega)) z⟩
  exact key n 0 I (by omega) fr_refl (fun a b _ _ h => by omega)
theorem fn_carryR {n : Nat} {I : Nat → Nat → Int32} {J : Nat → Nat → Int64} {T : Option Nat} {P : (Nat → Nat → Int32) → (Nat → Nat → Int64) → Option Nat → Prop} {I0 : Nat → Nat → Int32} (h : RR I J) (hn : n ≤ 7) (n1 : I 8 0 = nI n) (n2 : I 204 6 = nI n) (o : fr_off [(0, 1, 0, 1)] I I0) (nx : ∀ I2, fr_off [(245, 246, 0, 2147483648)] I0 I2 → (∀ a b, a < n → b < n → I2 245 (7 * a + b) = en_ (fwN 7 (mN_ I) a b)) → P I2 J T) : wp_X12_carry I0 J T P := by
  refine fn_carry (m0 := mN_ I) hn mN_diag (mN_bd h n1 hn) (by rw [fr_at 204 6 o rfl]; exact n2) (fun a b ha hb => ?_) (fun I2 o2 q => nx I2 o2 (fun a b ha hb => ?_))
  · obtain ⟨d, f, e1, e2, -, -, e3, e4, e5⟩ := rd_ok h n1 hn (show a < 7 by omega) (show b < 7 by omega)
    rw [fr_rw1 o 211 rfl, fr_rw1 o 212 rfl]
    exact ⟨d, f, e1, e2, e3, fun z => (e4 z).1, e5⟩
  · rw [q a b ha hb]
    have := fwN_stop (mN_bd h n1 hn) (mN_far h n1 hn) (7 - n) (by omega) a b ha hb
    rw [show n + (7 - n) = 7 by omega] at this
    rw [this]
theorem rk_carry {I I2 : Nat → Nat → Int32} {J : Nat → Nat → Int64} (h : RR I J) (o : fr_off [(0, 1, 0, 1), (204, 205, 0, 1), (245, 246, 0, 2147483648)] I I2) (p0 : RL_stat I2) : RR I2 J := ⟨p0, fr_frac (fr_refl (D := [])) rfl h.frac, fr_tray o (fr_refl (D := [])) rfl h.tray, fr_land o rfl h.land, fr_gold o rfl h.gold, fr_road o rfl h.road, fr_carr o rfl h.carr, fr_rate o rfl h.rate, fr_tape o rfl h.tape, fr_falt o rfl h.falt, fr_resv o rfl h.resv, fr_flow o rfl h.flow, fr_draw o rfl h.draw, fr_tell o rfl h.tell, fr_acct o (fr_refl (D := [])) rfl h.acct, fr_rule o rfl h.rule, fr_bags o rfl h.bags, fr_hand o rfl h.hand, fr_book o rfl h.book, fr_figs (fr_refl (D := [])) rfl h.figs, fr_case o rfl h.case, fr_wght o rfl h.wght, fr_trty o (fr_refl (D := [])) rfl h.trty⟩
theorem rp_carried (a : Int32) (b : Int32) {I : Nat → Nat → Int32} {J : Nat → Nat → Int64} {T : Option Nat} {P : Int32 → Int32 → (Nat → Nat → Int32) → (Nat → Nat → Int64) → Option Nat → Prop} (h : RR I J) (hP : ∀ v I2 J2 T2, RR I2 J2 → P v v I2 J2 T2) : wp_X11_carried a b I J T (fun v I1 J1 T1 => wp_X12_carried a b I1 J1 T1 (fun w I2 J2 T2 => P v w I2 J2 T2)) := by
  obtain ⟨n, hn, n1, n2⟩ := h.land
  have n3 : (nI n - 1).toInt = (n : Int) - 1 := nI_pm1 (by omega)
  have n4 : (nI n).toInt = (n : Int) := nI_toInt (by omega)
  by_cases q : (0 ≤ a.toInt ∧ a.toInt < n) ∧ (0 ≤ b.toInt ∧ b.toInt < n)
  · obtain ⟨i, hi, rfl⟩ := ii_at q.1.1 q.1.2 (by omega)
    obtain ⟨j, hj, rfl⟩ := ii_at q.2.1 q.2.2 (by omega)
    have i4 : (nI i).toInt = (i : Int) := nI_toInt (by omega)
    have j4 : (nI j).toInt = (j : Int) := nI_toInt (by omega)
    have i5 : (nI i).toNatClampNeg = i := nI_clamp (by omega)
    have j5 : (nI j).toNatClampNeg = j := nI_clamp (by omega)
    have ei := re_28 (show i < 7 by omega)
    have x1 := ca_ok h n1 hn (show i < 7 by omega) (show j < 7 by omega)
    have xb := fwN_le (mN_bd h n1 hn) (v := 7) (by omega) (show i < 7 by omega) (show j < 7 by omega)
    have fm : ∀ {s : Int32} {Q : Int32 → (Nat → Nat → Int32) → (Nat → Nat → Int64) → Option Nat → Prop}, (∀ I2, fr_off [(245, 246, 0, 2147483648)] (ix_u2 I 0 0 s) I2 → ((fwN 7 (mN_ I) i j = 1000000 → Q (-1) (ix_u2 I2 204 0 6) J T) ∧ (¬ fwN 7 (mN_ I) i j = 1000000 → Q (nI (fwN 7 (mN_ I) i j)) (ix_u2 I2 204 0 0) J T))) → wp_X12_carried (nI i) (nI j) (ix_u2 I 0 0 s) J T Q := by
      intro s Q hQ
      have o1 : fr_off [(0, 1, 0, 1)] I (ix_u2 I 0 0 s) := fr_put rfl fr_refl
      have x2 : (ix_u2 I 0 0 s) 204 6 = nI n := n2
      have p1 : ∀ {k : Nat} {R : Int32 → (Nat → Nat → Int32) → (Nat → Nat → Int64) → Option Nat → Prop}, k < n → R 1 (ix_u2 I 0 0 s) J T → wp_X12_isLand (nI k) (ix_u2 I 0 0 s) J T R := by
        intro k R hk hR
        have k4 : (nI k).toInt = (k : Int) := nI_toInt (by omega)
        simp only [wp_X12_isLand, lgc_lt, lgc_le, lgc_eq, cmp_s, cmp_t, u2_e]
        try simp only [Int32.lt_iff_toInt_lt, Int32.le_iff_toInt_le]
        simp [n2, n4, k4]
        repeat' (first | with_reducible refine And.intro ?_ ?_ | with_reducible intro _)
        all_goals try first | rfl | (exfalso; omega) | exact inb_of (by omega) (by omega) | with_reducible exact nI_in2 (by omega) (by omega) | exact hR
      unfold wp_X12_carried
      refine p1 hi ⟨fun z => absurd z (by decide), fun _ => p1 hj ⟨fun z => absurd z (by decide), fun _ => fn_carryR h hn n1 n2 o1 (fun I2 o2 q2 => ?_)⟩⟩
      have iC : ix_inb (nI (7 * i + j)) 49 = true := nI_in2 (by omega) (by decide)
      have hQ := hQ I2 o2
      unfold wp_X12_pair wp_X12_refuse wp_X12_gives
      dsimp only
      rw [pr_7, nI_clamp (show 7 * i + j < 2 ^ 31 by omega), q2 i j hi hj, en_m1 (by omega)]
      refine ⟨iC, fun z => hQ.1 z, fun z => ⟨iC, ?_⟩⟩
      rw [en_fin z]
      exact hQ.2 z
    have fin : ∀ {s : Int32} {I2 : Nat → Nat → Int32}, fr_off [(245, 246, 0, 2147483648)] (ix_u2 I 0 0 s) I2 → RR (ix_u2 I2 204 0 s) J := fun {s I2} o2 => by
      have o1 : fr_off [(0, 1, 0, 1), (204, 205, 0, 1), (245, 246, 0, 2147483648)] I (ix_u2 I 0 0 s) := fr_put rfl fr_refl
      refine rk_carry h (fr_trans o1 (fr_put rfl (fr_mono (by decide) o2))) ?_
      show (ix_u2 I2 204 0 s) 0 0 = (ix_u2 I2 204 0 s) 204 0
      have : I2 0 0 = s := by rw [fr_at 0 0 o2 rfl]; simp [u2_e]
      simp [u2_e, this]
    generalize fwN 7 (mN_ I) i j = X at x1 xb fm
    have X4 : (nI X).toInt = (X : Int) := nI_toInt (by omega)
    by_cases c : X = 1000000
    · have F : wp_X12_carried (nI i) (nI j) (ix_u2 I 0 0 6) J T (fun w I2 J2 T2 => P (-1) w I2 J2 T2) := fm (fun I2 o2 => ⟨fun _ => hP _ _ _ _ (fin o2), fun z => absurd c z⟩)
      simp only [wp_X11_carried, wp_X11_answerOrNoneSuch, wp_X11_isLand, wp_X11_refuse, wp_X5_carriage, wp_X5_isReached, wp_X11_outside, wp_X5_count, lgc_lt, lgc_le, lgc_eq, cmp_s, cmp_t, u2_e]
      try simp only [Int32.lt_iff_toInt_lt, Int32.le_iff_toInt_le]
      simp [n1, n3, n4, i4, j4, i5, j5, ei, x1, X4]
      repeat' (first | with_reducible refine And.intro ?_ ?_ | with_reducible intro _)
      all_goals try first | rfl | (exfalso; omega) | exact inb_of (by omega) (by omega) | with_reducible exact nI_in2 (by omega) (by omega) | with_reducible exact F
    · have F : wp_X12_carried (nI i) (nI j) (ix_u2 I 0 0 0) J T (fun w I2 J2 T2 => P (nI X) w I2 J2 T2) := fm (fun I2 o2 => ⟨fun z => absurd z c, fun _ => hP _ _ _ _ (fin o2)⟩)
      simp only [wp_X11_carried, wp_X11_answerOrNoneSuch, wp_X11_isLand, wp_X11_refuse, wp_X5_carriage, wp_X5_isReached, wp_X11_outside, wp_X5_count, lgc_lt, lgc_le, lgc_eq, cmp_s, cmp_t, u2_e]
      try simp only [Int32.lt_iff_toInt_lt, Int32.le_iff_toInt_le]
      simp [n1, n3, n4, i4, j4, i5, j5, ei, x1, X4]
      repeat' (first | with_reducible refine And.intro ?_ ?_ | with_reducible intro _)
      all_goals try first | rfl | (exfalso; omega) | exact inb_of (by omega) (by omega) | with_reducible exact nI_in2 (by omega) (by omega) | with_reducible exact F
  · skip
    simp only [wp_X11_carried, wp_X12_carried, wp_X11_isLand, wp_X11_refuse, wp_X12_gives, wp_X12_isLand, wp_X12_pair, wp_X12_refuse, wp_X11_outside, wp_X5_count, lgc_lt, lgc_le, lgc_eq, cmp_s, cmp_t, u2_e]
    try simp only [Int32.lt_iff_toInt_lt, Int32.le_iff_toInt_le]
    simp [n1, n2, n3, n4]
    repeat' (first | with_reducible refine And.intro ?_ ?_ | with_reducible intro _)
    all_goals try first | rfl | (exfalso; omega) | exact inb_of (by omega) (by omega) | exact hP _ _ _ _ (RR_st h 1) | with_reducible exact nI_in2 (by omega) (by omega)

