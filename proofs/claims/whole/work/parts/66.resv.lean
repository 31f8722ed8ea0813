theorem rk_reserve {I I2 : Nat → Nat → Int32} {J : Nat → Nat → Int64} (h : RR I J) (o : fr_off [(0, 1, 0, 1), (204, 205, 0, 1), (51, 52, 3, 4), (54, 59, 0, 2147483648), (204, 205, 53, 54), (237, 241, 0, 2147483648)] I I2) (p0 : RL_stat I2) (p1 : RL_resv I2) : RR I2 J := ⟨p0, fr_frac (fr_refl (D := [])) rfl h.frac, fr_tray o (fr_refl (D := [])) rfl h.tray, fr_land o rfl h.land, fr_gold o rfl h.gold, fr_road o rfl h.road, fr_carr o rfl h.carr, fr_rate o rfl h.rate, fr_tape o rfl h.tape, fr_falt o rfl h.falt, p1, fr_flow o rfl h.flow, fr_draw o rfl h.draw, fr_tell o rfl h.tell, fr_acct o (fr_refl (D := [])) rfl h.acct, fr_rule o rfl h.rule, fr_bags o rfl h.bags, fr_hand o rfl h.hand, fr_book o rfl h.book, fr_figs (fr_refl (D := [])) rfl h.figs, fr_case o rfl h.case, fr_wght o rfl h.wght, fr_trty o (fr_refl (D := [])) rfl h.trty⟩
theorem rp_reserve (a : Int32) (b : Int32) (c : Int32) (d : Int32) (e : Int32) {I : Nat → Nat → Int32} {J : Nat → Nat → Int64} {T : Option Nat} {P : Int32 → Int32 → (Nat → Nat → Int32) → (Nat → Nat → Int64) → Option Nat → Prop} (e01 : e = 0 ∨ e = 1) (h : RR I J) (hP : ∀ v I2 J2 T2, RR I2 J2 → P v v I2 J2 T2) : wp_X11_reserve a b c d e I J T (fun v I1 J1 T1 => wp_X12_reserve a b c d e I1 J1 T1 (fun w I2 J2 T2 => P v w I2 J2 T2)) := by
  obtain ⟨n, hn, n1, n2⟩ := h.land
  have n3 : (nI n - 1).toInt = (n : Int) - 1 := nI_pm1 (by omega)
  have n4 : (nI n).toInt = (n : Int) := nI_toInt (by omega)
  obtain ⟨nt, S, O, hnt, t1, t2, -, -, -, -, ht⟩ := h.trty
  have t4 : (nI nt).toInt = (nt : Int) := nI_toInt (by omega)
  obtain ⟨g, hg, g1, g2, gc⟩ := h.resv
  have g4 : (nI g).toInt = (g : Int) := nI_toInt (by omega)
  have g5 : (nI g).toNatClampNeg = g := nI_clamp (by omega)
  have g6 : nI g = 40 ↔ g = 40 := nI_eq (by omega) (by decide)
  by_cases qt : 0 ≤ b.toInt ∧ b.toInt < nt
  · obtain ⟨t, ht9, rfl⟩ := ii_at qt.1 qt.2 (by omega)
    obtain ⟨-, k, hk, k1, k2, -⟩ := ht t ht9
    rw [bI_lt (show 9 * t < 36 by omega)] at k1
    have ec : ∀ {P : Int32 → (Nat → Nat → Int32) → (Nat → Nat → Int64) → Option Nat → Prop}, wp_X8_clausesOf (nI t) I J T P = P (nI k) I J T := fun {P} => ec_cl ht9 hnt t1 k1
    have ec0 : ∀ {P : Int32 → (Nat → Nat → Int32) → (Nat → Nat → Int64) → Option Nat → Prop} {s : Int32}, wp_X8_clausesOf (nI t) (ix_u2 I 0 0 s) J T P = P (nI k) (ix_u2 I 0 0 s) J T := fun {P s} => ec_cl ht9 hnt t1 (by rw [u2_c (by omega)]; exact k1)
    have b4 : (nI t).toInt = (t : Int) := nI_toInt (by omega)
    have b5 : (nI t).toNatClampNeg = t := nI_clamp (by omega)
    have k4 : (nI k).toInt = (k : Int) := nI_toInt (by omega)
    have k3 : (nI k - 1).toInt = (k : Int) - 1 := nI_pm1 (by omega)
    by_cases qg : (0 ≤ a.toInt ∧ a.toInt < n) ∧ (0 ≤ c.toInt ∧ c.toInt < k) ∧ (0 ≤ d.toInt ∧ d.toInt ≤ 9999) ∧ g < 40
    · skip
      obtain ⟨i, hi, rfl⟩ := ii_at qg.1.1 qg.1.2 (by omega)
      obtain ⟨q, hq, rfl⟩ := ii_at qg.2.1.1 qg.2.1.2 (by omega)
      have i4 : (nI i).toInt = (i : Int) := nI_toInt (by omega)
      have q4 : (nI q).toInt = (q : Int) := nI_toInt (by omega)
      have ms : sc_o (fun k => decide (I 54 k = nI i ∧ I 55 k = nI t ∧ I 56 k = nI q)) (I 57) (I 58) d g = sc_o (fun k => decide (I 237 k = nI i ∧ I 238 k = nI (12 * t + q))) (I 239) (I 240) d g := sc_o_congr (fun k hk => by
        obtain ⟨e1, e2, e3, -, i9, j9, e4, e5, e6, e7, e8⟩ := gc k hk
        refine ⟨?_, e2, e3⟩
        refine decide_eq_decide.mpr ?_
        rw [e1, e6, e7, e8, nI_eq (a := i9) (b := t) (by omega) (by omega), nI_eq (a := j9) (b := q) (by omega) (by omega), nI_eq (a := 12 * i9 + j9) (b := 12 * t + q) (by omega) (by omega)]
        have : (i9 = t ∧ j9 = q) ↔ (12 * i9 + j9 = 12 * t + q) := by omega
        rw [this])
      have h01 : ∀ k, k < g → I 58 k = 0 ∨ I 58 k = 1 := fun k hk => (gc k hk).2.2.2.1
      have m01 : ∀ k, k < g → I 240 k = 0 ∨ I 240 k = 1 := fun k hk => by
        have := gc k hk
        rw [← this.2.2.1]; exact this.2.2.2.1
      have v01 := sc_o_01 (M := (fun k => decide (I 54 k = nI i ∧ I 55 k = nI t ∧ I 56 k = nI q))) (D := I 57) (day := d) h01
      obtain ⟨v, hv⟩ : ∃ v, v = (sc_o (fun k => decide (I 54 k = nI i ∧ I 55 k = nI t ∧ I 56 k = nI q)) (I 57) (I 58) d g).1 := ⟨_, rfl⟩
      rw [← hv] at v01
      have te := t01 e01
      have hgi : ix_inb (nI g) 40 = true := nI_in2 (by omega) (by decide)
      have fm : ∀ {I9 : Nat → Nat → Int32} {Q : Int32 → (Nat → Nat → Int32) → (Nat → Nat → Int64) → Option Nat → Prop}, fr_off [(0, 1, 0, 1), (51, 52, 3, 4), (54, 59, 0, 2147483648)] I I9 → (v = e → Q 0 (ix_u2 I9 204 0 7) J T) → (¬ v = e → Q 1 (ix_u2 (ix_u2 (ix_u2 (ix_u2 (ix_u2 (ix_u2 I9 237 g (nI i)) 238 g (nI (12 * t + q))) 239 g d) 240 g e) 204 53 (nI (g + 1))) 204 0 0) J T) → wp_X12_reserve (nI i) (nI t) (nI q) d e I9 J T Q := by
        intro I9 Q o9 q7 q0
        have x2 : I9 204 6 = nI n := by rw [fr_at 204 6 o9 rfl]; exact n2
        have y2 : I9 204 24 = nI nt := by rw [fr_at 204 24 o9 rfl]; exact t2
        have z2 : I9 216 t = nI k := by rw [fr_rw1 o9 216 rfl]; exact k2
        have w2 : I9 204 53 = nI g := by rw [fr_at 204 53 o9 rfl]; exact g2
        have p1 : ∀ {R : Int32 → (Nat → Nat → Int32) → (Nat → Nat → Int64) → Option Nat → Prop}, R 1 I9 J T → wp_X12_isLand (nI i) I9 J T R := by
          intro R hR
          simp only [wp_X12_isLand, lgc_lt, lgc_le, lgc_eq, cmp_s, cmp_t, u2_e]
          try simp only [Int32.lt_iff_toInt_lt, Int32.le_iff_toInt_le]
          simp [x2, n4, i4]
          repeat' (first | with_reducible refine And.intro ?_ ?_ | with_reducible intro _)
          all_goals try first | rfl | (exfalso; omega) | exact inb_of (by omega) (by omega) | with_reducible exact nI_in2 (by omega) (by omega) | exact hR
        have p2 : ∀ {R : Int32 → (Nat → Nat → Int32) → (Nat → Nat → Int64) → Option Nat → Prop}, R 1 I9 J T → wp_X12_isClause (nI t) (nI q) I9 J T R := by
          intro R hR
          simp only [wp_X12_isClause, wp_X12_isTreaty, lgc_lt, lgc_le, lgc_eq, cmp_s, cmp_t, u2_e]
          try simp only [Int32.lt_iff_toInt_lt, Int32.le_iff_toInt_le]
          simp [y2, t4, b4, b5, z2, k4, q4]
          repeat' (first | with_reducible refine And.intro ?_ ?_ | with_reducible intro _)
          all_goals try first | rfl | (exfalso; omega) | exact inb_of (by omega) (by omega) | with_reducible exact nI_in2 (by omega) (by omega) | exact hR
        have p3 : ∀ {R : Int32 → (Nat → Nat → Int32) → (Nat → Nat → Int64) → Option Nat → Prop}, R 1 I9 J T → wp_X12_isDay d I9 J T R := by
          intro R hR
          simp only [wp_X12_isDay, lgc_lt, lgc_le, lgc_eq, cmp_s, cmp_t, u2_e]
          try simp only [Int32.lt_iff_toInt_lt, Int32.le_iff_toInt_le]
          simp
          repeat' (first | with_reducible refine And.intro ?_ ?_ | with_reducible intro _)
          all_goals try first | rfl | (exfalso; omega) | exact inb_of (by omega) (by omega) | with_reducible exact nI_in2 (by omega) (by omega) | exact hR
        unfold wp_X12_reserve
        refine p1 ⟨fun z => absurd z (by decide), fun _ => p2 ⟨fun z => absurd z (by decide), fun _ => p3 ⟨fun z => absurd z (by decide), fun _ => ?_⟩⟩⟩
        rw [w2]
        refine ⟨fun z => absurd (g6.mp z) (by omega), fun _ => ?_⟩
        unfold wp_X12_outOf
        rw [pr_12]
        refine lp_outM hg w2 (by rw [fr_rw1 o9 240 rfl]; exact m01) ?_
        rw [fr_rw1 o9 237 rfl, fr_rw1 o9 238 rfl, fr_rw1 o9 239 rfl, fr_rw1 o9 240 rfl, ← ms, ← hv, w2, g5, nI_1]
        refine ⟨fun z => ⟨fun z => absurd z (by decide), fun _ => ⟨rfl, q7 z⟩⟩, fun z => ⟨hgi, hgi, hgi, by rw [te]; rfl, hgi, fun _ => ⟨rfl, q0 z⟩, fun z => absurd rfl z⟩⟩
      have p0 : ∀ {R : Int32 → (Nat → Nat → Int32) → (Nat → Nat → Int64) → Option Nat → Prop}, R 1 I J T → wp_X11_isReserve (nI i) (nI t) (nI q) d I J T R := by
        intro R hR
        simp only [wp_X11_isReserve, wp_X11_isDay, wp_X11_isLand, wp_X11_outside, wp_X8_has, wp_X5_count, lgc_lt, lgc_le, lgc_eq, cmp_s, cmp_t, u2_e]
        try simp only [Int32.lt_iff_toInt_lt, Int32.le_iff_toInt_le]
        simp [n1, n3, n4, i4, t1, t4, b4, ec, k3, k4, q4, -Int32.toInt_sub]
        repeat' (first | with_reducible refine And.intro ?_ ?_ | with_reducible intro _)
        all_goals try first | rfl | (exfalso; omega) | exact inb_of (by omega) (by omega) | with_reducible exact nI_in2 (by omega) (by omega) | exact hR
      unfold wp_X11_reserve
      refine p0 ⟨fun z => absurd z (by decide), fun _ => ?_⟩
      unfold wp_X8_isReservesFull
      rw [g1]
      refine ⟨fun _ => ⟨fun _ => ?_, fun z => absurd rfl z⟩, fun z => absurd (nI_lt (a := g) (b := 40) (by omega) (by omega)) z⟩
      unfold wp_X8_isOutOf
      refine lp_outC hg g1 h01 ?_
      rw [← hv]
      refine ⟨fun z => ?_, fun z => ?_⟩
      · unfold wp_X11_refused
        refine ⟨rfl, fm (fr_put rfl fr_refl) (fun _ => hP _ _ _ _ (RR_st h 7)) (fun z2 => absurd z z2)⟩
      · unfold wp_X8_addReserve wp_X11_accepted
        rw [g1, g5, nI_1]
        have oC : fr_off [(0, 1, 0, 1), (51, 52, 3, 4), (54, 59, 0, 2147483648)] I (ix_u2 (ix_u2 (ix_u2 (ix_u2 (ix_u2 (ix_u2 (ix_u2 I 54 g (nI i)) 55 g (nI t)) 56 g (nI q)) 57 g d) 58 g e) 51 3 (nI (g + 1))) 0 0 0) := fr_put rfl (fr_put rfl (fr_putn rfl (by omega) (fr_putn rfl (by omega) (fr_putn rfl (by omega) (fr_putn rfl (by omega) (fr_putn rfl (by omega) fr_refl))))))
        refine ⟨hgi, hgi, hgi, hgi, by rw [te]; rfl, hgi, rfl, fm oC (fun z2 => absurd z2 z) (fun _ => hP _ _ _ _ (rk_reserve h (fr_trans (fr_mono (by decide) oC) (fr_put rfl (fr_put rfl (fr_putn rfl (by omega) (fr_putn rfl (by omega) (fr_putn rfl (by omega) (fr_putn rfl (by omega) fr_refl))))))) (by simp [rl_stat, u2_e]) ⟨g + 1, by omega, by simp [u2_e], by simp [u2_e], fun k2 hk2 => ?_⟩))⟩
        by_cases e9 : k2 = g
        · simp [u2_e, e9]
          exact ⟨e01, t, by omega, q, by omega, rfl, rfl, rfl⟩
        · simp [u2_e, e9]
          obtain ⟨f1, f2, f3, f4, i9, j9, f5, f6, f7, f8, f9⟩ := gc k2 (by omega)
          exact ⟨f1, f2, f3, f4, i9, f5, j9, f6, f7, f8, f9⟩
    · skip
      simp only [wp_X11_reserve, wp_X12_reserve, wp_X11_accepted, wp_X11_isReserve, wp_X11_refused, wp_X8_addReserve, wp_X8_isOutOf, wp_X8_isReservesFull, wp_X12_is, wp_X12_isClause, wp_X12_isDay, wp_X12_isLand, wp_X12_outOf, wp_X11_isDay, wp_X11_isLand, wp_X11_outside, wp_X8_has, wp_X12_isTreaty, wp_X5_count, lgc_lt, lgc_le, lgc_eq, cmp_s, cmp_t, u2_e]
      try simp only [Int32.lt_iff_toInt_lt, Int32.le_iff_toInt_le]
      simp [n1, n2, n3, n4, t1, t2, t4, b4, b5, k2, k3, k4, ec, ec0, u2_e, -Int32.toInt_sub, g1, g2, g4, g6]
      repeat' (first | with_reducible refine And.intro ?_ ?_ | with_reducible intro _)
      all_goals try first | rfl | (exfalso; omega) | exact inb_of (by omega) (by omega) | exact hP _ _ _ _ (RR_st h 1) | exact hP _ _ _ _ (RR_st h 4) | with_reducible exact nI_in2 (by omega) (by omega)
  · skip
    simp only [wp_X11_reserve, wp_X12_reserve, wp_X11_accepted, wp_X11_isReserve, wp_X11_refused, wp_X8_addReserve, wp_X8_isOutOf, wp_X8_isReservesFull, wp_X12_is, wp_X12_isClause, wp_X12_isDay, wp_X12_isLand, wp_X12_outOf, wp_X11_isDay, wp_X11_isLand, wp_X11_outside, wp_X8_has, wp_X12_isTreaty, wp_X5_count, lgc_lt, lgc_le, lgc_eq, cmp_s, cmp_t, u2_e]
    try simp only [Int32.lt_iff_toInt_lt, Int32.le_iff_toInt_le]
    simp [n1, n2, n3, n4, t1, t2, t4]
    repeat' (first | with_reducible refine And.intro ?_ ?_ | with_reducible intro _)
    all_goals try first | rfl | (exfalso; omega) | exact inb_of (by omega) (by omega) | exact hP _ _ _ _ (RR_st h 1) | with_reducible exact nI_in2 (by omega) (by omega)

def sc_f (Y : Nat → Int32) (y : Int32) : Nat → Int32 × Int32
  | 0 => (-1, -1)
  | k + 1 => if Y k ≤ y ∧ ¬ Y k < (sc_f Y y k).2 then (nI k, Y k) else sc_f Y y k
theorem sc_f_congr {Y Z : Nat → Int32} {y : Int32} : ∀ {n : Nat}, (∀ k, k < n → Y k = Z k) → sc_f Y y n = sc_f Z y n
  | 0, _ => rfl
  | n + 1, h => by rw [sc_f, sc_f, sc_f_congr (n := n) (fun k hk => h k (by omega)), h n (by omega)]
theorem sc_f_ok {Y : Nat → Int32} {y : Int32} : ∀ {n : Nat}, sc_f Y y n = (-1, -1) ∨ ∃ j, j < n ∧ sc_f Y y n = (nI j, Y j)
  | 0 => Or.inl rfl
  | n + 1 => by
    rw [sc_f]
    by_cases c : Y n ≤ y ∧ ¬ Y n < (sc_f Y y n).2
    · rw [if_pos c]; exact Or.inr ⟨n, by omega, rfl⟩
    · rw [if_neg c]
      rcases sc_f_ok (Y := Y) (y := y) (n := n) with e | ⟨j, h1, h2⟩
      · exact Or.inl e
      · exact Or.inr ⟨j, by omega, h2⟩
theorem lp_holdC {y : Int32} {n : Nat} (hn : n ≤ 4) {I : Nat → Nat → Int32} {J : Nat → Nat → Int64} {T : Option Nat} {P : Int32 → (Nat → Nat → Int32) → (Nat → Nat → Int64) → Option Nat → Prop} (e : I 51 0 = nI n) (h : P (sc_f (I 53) y n).1 I J T) : wp_X8_holding y I J T P := by
  unfold wp_X8_holding
  intro V hV
  have key : ∀ m i : Nat, i + m = n → V y (sc_f (I 53) y i).1 (sc_f (I 53) y i).2 (nI i) I J T := by
    intro m
    induction m with
    | zero =>
      intro i hi
      have hi : i = n := by omega
      subst hi
      apply hV
      unfold wb_X8_holding_7
      rw [e]
      exact ⟨fun q => absurd q (nI_nlt (Nat.le_refl _) (by omega)), fun _ => h⟩
    | succ m ih =>
      intro i hi
      have nxt := ih (i + 1) (by omega)
      have hin : ix_inb (nI i) 4 = true := nI_in2 (by omega) (by decide)
      apply hV
      unfold wb_X8_holding_7
      rw [e, nI_clamp (show i < 2 ^ 31 by omega), nI_1]
      refine ⟨fun _ => ⟨hin, fun c => ⟨hin, fun d => ?_, fun d => ⟨hin, ?_⟩⟩, fun c => ?_⟩, fun q => absurd (nI_lt (by omega) (by omega)) q⟩
      · rw [sc_f, if_neg (fun z => z.2 d)] at nxt; exact nxt
      · rw [sc_f, if_pos ⟨c, d⟩] at nxt; exact nxt
      · rw [sc_f, if_neg (fun z => c z.1)] at nxt; exact nxt
  exact key n 0 (by omega)
theorem nI_nm1 {m : Nat} (hm : m < 2147483648) : ¬ nI m = -1 := fun e => by
  have := congrArg Int32.toInt e
  rw [nI_toInt (by omega)] at this
  have e0 : (-1 : Int32).toInt = -1 := rfl
  omega
theorem lp_forceM {y : Int32} {n : Nat} (hn : n ≤ 4) {I : Nat → Nat → Int32} {J : Nat → Nat → Int64} {T : Option Nat} {P : Int32 → (Nat → Nat → Int32) → (Nat → Nat → Int64) → Option Nat → Prop} (e : I 204 24 = nI n) (hy : ∀ k, k < n → ∃ z : Nat, z ≤ 27 ∧ I 215 k = nI z) (h : P (sc_f (I 215) y n).1 I J T) : wp_X12_force y I J T P := by
  unfold wp_X12_force
  intro V hV
  have key : ∀ m i : Nat, i + m = n → V y (sc_f (I 215) y i).1 (nI i) I J T := by
    intro m
    induction m with
    | zero =>
      intro i hi
      have hi : i = n := by omega
      subst hi
      apply hV
      unfold wb_X12_force_4
      rw [e]
      exact ⟨fun q => absurd q (nI_nlt (Nat.le_refl _) (by omega)), fun _ => h⟩
    | succ m ih =>
      intro i hi
      have nxt := ih (i + 1) (by omega)
      have hin : ix_inb (nI i) 5 = true := nI_in2 (by omega) (by decide)
      obtain ⟨z, hz, ez⟩ := hy i (by omega)
      have nn : ¬ I 215 i < -1 := by
        rw [ez, Int32.lt_iff_toInt_lt, nI_toInt (by omega)]
        have e0 : (-1 : Int32).toInt = -1 := rfl
        omega
      apply hV
      unfold wb_X12_force_4
      rw [e, nI_clamp (show i < 2 ^ 31 by omega), nI_1]
      refine ⟨fun _ => ⟨hin, fun c => ?_, fun c => ?_⟩, fun q => absurd (nI_lt (by omega) (by omega)) q⟩
      · rcases sc_f_ok (Y := I 215) (y := y) (n := i) with r | ⟨j, h1, h2⟩
        · rw [sc_f, r, if_pos ⟨c, nn⟩] at nxt
          rw [r]
          exact ⟨fun _ => nxt, fun q => absurd rfl q⟩
        · rw [sc_f, h2] at nxt
          rw [h2, nI_clamp (show j < 2 ^ 31 by omega)]
          refine ⟨fun q => absurd q (nI_nm1 (by omega)), fun _ => ⟨hin, nI_in2 (by omega) (by decide), fun d => ?_, fun d => ?_⟩⟩
          · rw [if_neg (fun z => z.2 d)] at nxt; exact nxt
          · rw [if_pos ⟨c, d⟩] at nxt; exact nxt
      · rw [sc_f, if_neg (fun z => c z.1)] at nxt; exact nxt
  exact key n 0 (by omega)
theorem rp_inForce (a : Int32) {I : Nat → Nat → Int32} {J : Nat → Nat → Int64} {T : Option Nat} {P : Int32 → Int32 → (Nat → Nat → Int32) → (Nat → Nat → Int64) → Option Nat → Prop} (h : RR I J) (hP : ∀ v I2 J2 T2, RR I2 J2 → P v v I2 J2 T2) : wp_X11_inForce a I J T (fun v I1 J1 T1 => wp_X12_inForce a I1 J1 T1 (fun w I2 J2 T2 => P v w I2 J2 T2)) := by
  obtain ⟨nt, S, O, hnt, t1, t2, -, -, -, -, ht⟩ := h.trty
  have t4 : (nI nt).toInt = (nt : Int) := nI_toInt (by omega)
  by_cases q : 0 ≤ a.toInt ∧ a.toInt ≤ 27
  · have yc : sc_f (I 53) a nt = sc_f (I 215) a nt := sc_f_congr (fun k hk => by
      obtain ⟨⟨y, hy, y1, y2⟩, -⟩ := ht k hk
      rw [y1, y2])
    have hy : ∀ k, k < nt → ∃ z : Nat, z ≤ 27 ∧ I 215 k = nI z := fun k hk => by
      obtain ⟨⟨y, hy, y1, y2⟩, -⟩ := ht k hk
      exact ⟨y, hy, y2⟩
    have fm : ∀ {s : Int32} {Q : Int32 → (Nat → Nat → Int32) → (Nat → Nat → Int64) → Option Nat → Prop}, (((sc_f (I 53) a nt).1 = -1 → Q (-1) (ix_u2 (ix_u2 I 0 0 s) 204 0 6) J T) ∧ (¬ (sc_f (I 53) a nt).1 = -1 → Q (sc_f (I 53) a nt).1 (ix_u2 (ix_u2 I 0 0 s) 204 0 0) J T)) → wp_X12_inForce a (ix_u2 I 0 0 s) J T Q := by
      intro s Q hQ
      have c1 : ¬ a < 0 := fun z => by
        rw [Int32.lt_iff_toInt_lt] at z
        have z : a.toInt < 0 := z
        omega
      have c2 : a ≤ 27 := by
        rw [Int32.le_iff_toInt_le]
        exact q.2
      unfold wp_X12_inForce
      refine ⟨fun z => absurd z c1, fun _ => ⟨fun _ => ?_, fun z => absurd c2 z⟩⟩
      refine lp_forceM hnt t2 hy ?_
      rw [u2_r (show 215 ≠ 0 by decide), ← yc]
      exact hQ
    have p0 : ∀ {R : Int32 → (Nat → Nat → Int32) → (Nat → Nat → Int64) → Option Nat → Prop}, R 0 I J T → wp_X11_outside a.toInt64 0 27 I J T R := by
      intro R hR
      simp only [wp_X11_outside, lgc_lt, lgc_le, lgc_eq, cmp_s, cmp_t, u2_e]
      try simp only [Int32.lt_iff_toInt_lt, Int32.le_iff_toInt_le]
      simp
      repeat' (first | with_reducible refine And.intro ?_ ?_ | with_reducible intro _)
      all_goals try first | rfl | (exfalso; omega) | exact inb_of (by omega) (by omega) | with_reducible exact nI_in2 (by omega) (by omega) | exact hR
    unfold wp_X11_inForce
    refine p0 ⟨fun _ => lp_holdC hnt t1 ?_, fun z => absurd rfl z⟩
    unfold wp_X11_answerOrNoneSuch
    rcases sc_f_ok (Y := I 53) (y := a) (n := nt) with r | ⟨j, h1, h2⟩
    · rw [r] at fm ⊢
      exact ⟨fun _ => ⟨fun _ => fm ⟨fun _ => hP _ _ _ _ (RR_st h 6), fun z => absurd rfl z⟩, fun z => absurd (by decide) z⟩, fun z => absurd (by decide) z⟩
    · rw [h2] at fm ⊢
      have c3 : ¬ nI j < 0 := fun z => by
        rw [Int32.lt_iff_toInt_lt, nI_toInt (by omega)] at z
        have z : (j : Int) < 0 := z
        omega
      exact ⟨fun z => absurd z c3, fun _ => ⟨fun z => absurd z c3, fun _ => fm ⟨fun z => absurd z (nI_nm1 (by omega)), fun _ => hP _ _ _ _ (RR_st h 0)⟩⟩⟩
  · skip
    simp only [wp_X11_inForce, wp_X12_inForce, wp_X11_outside, wp_X11_refuse, wp_X12_gives, wp_X12_refuse, lgc_lt, lgc_le, lgc_eq, cmp_s, cmp_t, u2_e]
    try simp only [Int32.lt_iff_toInt_lt, Int32.le_iff_toInt_le]
    simp [t1, t2, t4]
    repeat' (first | with_reducible refine And.intro ?_ ?_ | with_reducible intro _)
    all_goals try first | rfl | (exfalso; omega) | exact inb_of (by omega) (by omega) | exact hP _ _ _ _ (RR_st h 1) | with_reducible exact nI_in2 (by omega) (by omega)

