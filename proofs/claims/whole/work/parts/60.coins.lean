/-! coins, isTrue, told -/
def sc_gold (L D C : Nat → Int32) (land day : Int32) : Nat → Int32 × Int32
  | 0 => (1000, -1)
  | k + 1 => if L k = land ∧ D k ≤ day ∧ ¬ D k < (sc_gold L D C land day k).2 then (C k, D k) else sc_gold L D C land day k
theorem sc_gold_congr {L D C L2 D2 C2 : Nat → Int32} {a b : Int32} : ∀ {n : Nat}, (∀ k, k < n → L k = L2 k ∧ D k = D2 k ∧ C k = C2 k) → sc_gold L D C a b n = sc_gold L2 D2 C2 a b n
  | 0, _ => rfl
  | n + 1, h => by
    have h1 := sc_gold_congr (L := L) (D := D) (C := C) (L2 := L2) (D2 := D2) (C2 := C2) (a := a) (b := b) (n := n) (fun k hk => h k (by omega))
    obtain ⟨e1, e2, e3⟩ := h n (by omega)
    rw [sc_gold, sc_gold, h1, e1, e2, e3]
theorem lp_goldC {a b : Int32} {g : Nat} (hg : g ≤ 40) {I : Nat → Nat → Int32} {J : Nat → Nat → Int64} {T : Option Nat} {P : Int32 → (Nat → Nat → Int32) → (Nat → Nat → Int64) → Option Nat → Prop} (e : I 8 1 = nI g) (h : P ((sc_gold (I 9) (I 10) (I 11) a b g).1) I J T) : wl_X5_goldOn_10 a b 1000 (-1) 0 I J T P := by
  intro V hV
  have key : ∀ m i : Nat, i + m = g → V a b ((sc_gold (I 9) (I 10) (I 11) a b i).1) (sc_gold (I 9) (I 10) (I 11) a b i).2 (nI i) I J T := by
    intro m
    induction m with
    | zero =>
      intro i hi
      have hi : i = g := by omega
      subst hi
      apply hV
      unfold wb_X5_goldOn_10
      rw [e]
      exact ⟨fun q => absurd q (nI_nlt (Nat.le_refl _) (by omega)), fun _ => h⟩
    | succ m ih =>
      intro i hi
      have nxt := ih (i + 1) (by omega)
      have hin : ix_inb (nI i) 40 = true := nI_in2 (by omega) (by decide)
      have ec : (nI i).toNatClampNeg = i := nI_clamp (by omega)
      apply hV
      unfold wb_X5_goldOn_10
      rw [e, ec, nI_1]
      refine ⟨fun _ => ⟨hin, fun q1 => ⟨hin, fun q2 => ⟨hin, fun q3 => ?_, fun q3 => ⟨hin, hin, ?_⟩⟩, fun q2 => ?_⟩, fun q1 => ?_⟩, fun q => absurd (nI_lt (by omega) (by omega)) q⟩
      · rw [sc_gold, if_neg (fun z => z.2.2 q3)] at nxt; exact nxt
      · rw [sc_gold, if_pos ⟨q1, q2, q3⟩] at nxt; exact nxt
      · rw [sc_gold, if_neg (fun z => q2 z.2.1)] at nxt; exact nxt
      · rw [sc_gold, if_neg (fun z => q1 z.1)] at nxt; exact nxt
  exact key g 0 (by omega)
theorem lp_goldM {a b : Int32} (c : Int64) {g : Nat} (hg : g ≤ 40) {I : Nat → Nat → Int32} {J : Nat → Nat → Int64} {T : Option Nat} {P : Int64 → (Nat → Nat → Int32) → (Nat → Nat → Int64) → Option Nat → Prop} (e : I 204 7 = nI g) (h : P (c * ((sc_gold (I 208) (I 209) (I 210) a b g).1).toInt64 / 1000) (ix_u2 I 204 0 0) J T) : wl_X12_coins_47 a b c 1000 (-1) 0 I J T P := by
  intro V hV
  have key : ∀ m i : Nat, i + m = g → V a b c (((sc_gold (I 208) (I 209) (I 210) a b i).1).toInt64) (sc_gold (I 208) (I 209) (I 210) a b i).2 (nI i) I J T := by
    intro m
    induction m with
    | zero =>
      intro i hi
      have hi : i = g := by omega
      subst hi
      apply hV
      unfold wb_X12_coins_47
      rw [e]
      exact ⟨fun q => absurd q (nI_nlt (Nat.le_refl _) (by omega)), fun _ => h⟩
    | succ m ih =>
      intro i hi
      have nxt := ih (i + 1) (by omega)
      have hin : ix_inb (nI i) 40 = true := nI_in2 (by omega) (by decide)
      have ec : (nI i).toNatClampNeg = i := nI_clamp (by omega)
      apply hV
      unfold wb_X12_coins_47
      rw [e, ec, nI_1]
      refine ⟨fun _ => ⟨hin, fun q1 => ⟨hin, fun q2 => ⟨hin, fun q3 => ?_, fun q3 => ⟨hin, hin, ?_⟩⟩, fun q2 => ?_⟩, fun q1 => ?_⟩, fun q => absurd (nI_lt (by omega) (by omega)) q⟩
      · rw [sc_gold, if_neg (fun z => z.2.2 q3)] at nxt; exact nxt
      · rw [sc_gold, if_pos ⟨q1, q2, q3⟩] at nxt; exact nxt
      · rw [sc_gold, if_neg (fun z => q2 z.2.1)] at nxt; exact nxt
      · rw [sc_gold, if_neg (fun z => q1 z.1)] at nxt; exact nxt
  exact key g 0 (by omega)
theorem rp_coins (a : Int32) (day : Int32) (c : Int64) {I : Nat → Nat → Int32} {J : Nat → Nat → Int64} {T : Option Nat} {P : Int64 → Int64 → (Nat → Nat → Int32) → (Nat → Nat → Int64) → Option Nat → Prop} (h : RR I J) (hP : ∀ v I2 J2 T2, RR I2 J2 → P v v I2 J2 T2) : wp_X11_coins a day c I J T (fun v I1 J1 T1 => wp_X12_coins a day c I1 J1 T1 (fun w I2 J2 T2 => P v w I2 J2 T2)) := by
  obtain ⟨n, hn, n1, n2⟩ := h.land
  have n3 : (nI n - 1).toInt = (n : Int) - 1 := nI_pm1 (by omega)
  have n4 : (nI n).toInt = (n : Int) := nI_toInt (by omega)
  obtain ⟨g, hg, g1, g2, hc⟩ := h.gold
  have cg := sc_gold_congr (L := I 9) (D := I 10) (C := I 11) (L2 := I 208) (D2 := I 209) (C2 := I 210) (a := a) (b := day) hc
  by_cases q : 0 ≤ a.toInt ∧ a.toInt < n ∧ 0 ≤ day.toInt ∧ day.toInt ≤ 9999 ∧ 0 ≤ c.toInt ∧ c.toInt ≤ 1000000000000
  · have x2 : (ix_u2 I 0 0 0) 204 6 = nI n := n2
    have finM : wl_X12_coins_47 a day c 1000 (-1) 0 (ix_u2 I 0 0 0) J T (fun w I3 J3 T3 => P (c * ((sc_gold (I 9) (I 10) (I 11) a day g).1).toInt64 / 1000) w I3 J3 T3) := lp_goldM c hg g2 (by
      rw [cg]
      exact hP _ _ _ _ (RR_st h 0))
    have fm : wp_X12_coins a day c (ix_u2 I 0 0 0) J T (fun w I3 J3 T3 => P (c * ((sc_gold (I 9) (I 10) (I 11) a day g).1).toInt64 / 1000) w I3 J3 T3) := by
      simp only [wp_X12_coins, wp_X12_isDay, wp_X12_isLand, wp_X12_refuse, lgc_lt, lgc_le, lgc_eq, cmp_s, cmp_t, u2_e]
      try simp only [Int32.lt_iff_toInt_lt, Int32.le_iff_toInt_le, Int64.lt_iff_toInt_lt, Int64.le_iff_toInt_le]
      simp [n2, n4]
      repeat' (first | with_reducible exact finM | refine And.intro ?_ ?_ | with_reducible intro _)
      all_goals try first | rfl | (exfalso; omega) | exact inb_of (by omega) (by omega) | with_reducible exact nI_in2 (by omega) (by omega)
    have finC : wl_X5_goldOn_10 a day 1000 (-1) 0 (ix_u2 I 0 0 0) J T (fun v12 I12 J12 T12 => wp_X12_coins a day c I12 J12 T12 (fun w I3 J3 T3 => P (c * v12.toInt64 / 1000) w I3 J3 T3)) := lp_goldC hg g1 fm
    simp only [wp_X11_coins, wp_X11_isDay, wp_X11_isLand, wp_X11_outside, wp_X11_refuse, wp_X5_goldOn, wp_X5_count, lgc_lt, lgc_le, lgc_eq, cmp_s, cmp_t, u2_e]
    try simp only [Int32.lt_iff_toInt_lt, Int32.le_iff_toInt_le, Int64.lt_iff_toInt_lt, Int64.le_iff_toInt_le]
    simp [n1, n3, n4]
    repeat' (first | with_reducible exact finC | refine And.intro ?_ ?_ | with_reducible intro _)
    all_goals try first | rfl | (exfalso; omega) | exact inb_of (by omega) (by omega) | with_reducible exact nI_in2 (by omega) (by omega)
  · skip
    simp only [wp_X11_coins, wp_X12_coins, wp_X11_isDay, wp_X11_isLand, wp_X11_outside, wp_X11_refuse, wp_X5_goldOn, wp_X12_isDay, wp_X12_isLand, wp_X12_refuse, wp_X5_count, lgc_lt, lgc_le, lgc_eq, cmp_s, cmp_t, u2_e]
    try simp only [Int32.lt_iff_toInt_lt, Int32.le_iff_toInt_le, Int64.lt_iff_toInt_lt, Int64.le_iff_toInt_le]
    simp [n1, n2, n3, n4]
    repeat' (first | refine And.intro ?_ ?_ | with_reducible intro _)
    all_goals try first | rfl | (exfalso; omega) | exact inb_of (by omega) (by omega) | exact hP _ _ _ _ (RR_st h 0) | exact hP _ _ _ _ (RR_st h 1) | with_reducible exact nI_in2 (by omega) (by omega)

