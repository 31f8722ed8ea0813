/-! isTrue, told -/
theorem nI_div {a b : Nat} (ha : a < 2147483648) (hb : 0 < b) (hb2 : b < 2147483648) : nI a / nI b = nI (a / b) := by
  rw [nI_iZ, nI_iZ, nI_iZ, iZ_div (by omega) (by omega)]
  rfl
theorem nz_nI {n : Nat} (h : 0 < n) (h2 : n < 2147483648) : ix_nz (nI n) = true := by
  unfold ix_nz
  have : ¬ nI n = 0 := fun e => by
    have := congrArg Int32.toNatClampNeg e
    rw [nI_clamp (by omega)] at this
    have e0 : (0 : Int32).toNatClampNeg = 0 := rfl
    omega
  simp [this]
theorem sm_congr {f g : Nat → Int32} : ∀ {n : Nat}, (∀ k, k < n → f k = g k) → sm_w f n = sm_w g n
  | 0, _ => rfl
  | n + 1, h => by rw [sm_w, sm_w, sm_congr (fun k hk => h k (by omega)), h n (by omega)]
def sd_ (g d : Nat → Int32) : Nat → Int32
  | 0 => 0
  | k + 1 => sd_ g d k + g (d k).toNatClampNeg
theorem sd_congr {g h d e : Nat → Int32} : ∀ {n : Nat}, (∀ k, k < n → d k = e k ∧ g (d k).toNatClampNeg = h (d k).toNatClampNeg) → sd_ g d n = sd_ h e n
  | 0, _ => rfl
  | n + 1, q => by
    obtain ⟨a, b⟩ := q n (by omega)
    rw [sd_, sd_, sd_congr (fun k hk => q k (by omega)), b, a]
theorem sd_bd {g d : Nat → Int32} : ∀ {n : Nat}, (∀ k, k < n → ∃ q : Nat, q ≤ 10000 ∧ g (d k).toNatClampNeg = nI q) → ∃ S : Nat, S ≤ 10000 * n ∧ sd_ g d n = nI S
  | 0, _ => ⟨0, by omega, rfl⟩
  | n + 1, h => by
    obtain ⟨S, h1, h2⟩ := sd_bd (n := n) (fun k hk => h k (by omega))
    obtain ⟨q, h3, h4⟩ := h n (by omega)
    exact ⟨S + q, by omega, by rw [sd_, h2, h4, nI_add]⟩
theorem lp_trueM {k : Nat} (hk : k < 8) {I : Nat → Nat → Int32} {J : Nat → Nat → Int64} {T : Option Nat} {P : Int32 → (Nat → Nat → Int32) → (Nat → Nat → Int64) → Option Nat → Prop} (hP : P (sm_w (fun w => I 251 (52 * k + w)) 52) I J T) : wl_X12_trueOf_4 (nI k) 0 0 I J T P := by
  intro V hV
  have key : ∀ m i : Nat, i + m = 52 → V (nI k) (sm_w (fun w => I 251 (52 * k + w)) i) (nI i) I J T := by
    intro m
    induction m with
    | zero =>
      intro i hi
      have hi : i = 52 := by omega
      subst hi
      apply hV
      unfold wb_X12_trueOf_4
      exact ⟨fun q => absurd q (by decide), fun _ => hP⟩
    | succ m ih =>
      intro i hi
      have nxt := ih (i + 1) (by omega)
      apply hV
      unfold wb_X12_trueOf_4
      rw [pr_52, nI_clamp (show 52 * k + i < 2 ^ 31 by omega), nI_1]
      exact ⟨fun _ => ⟨nI_in2 (by omega) (by decide), nxt⟩, fun q => absurd (nI_lt (b := 52) (by omega) (by omega)) q⟩
  exact key 52 0 (by omega)
theorem lp_told121 {k n : Nat} (hk : k < 8) (h1 : 1 ≤ n) (hn : n ≤ 52) {I : Nat → Nat → Int32} {J : Nat → Nat → Int64} {T : Option Nat} {P : Int32 → (Nat → Nat → Int32) → (Nat → Nat → Int64) → Option Nat → Prop} (hd : ∀ i, i < n → ∃ w : Nat, w < 52 ∧ I 121 i = nI w) (hP : P (52 * sd_ (I (113 + k)) (I 121) n / nI n) I J T) : wl_X4_toldBy_r121_6_c121 (nI k) (nI n) 0 0 I J T P := by
  intro V hV
  have key : ∀ m i : Nat, i + m = n → V (nI k) (nI n) (sd_ (I (113 + k)) (I 121) i) (nI i) I J T := by
    intro m
    induction m with
    | zero =>
      intro i hi
      have hi : i = n := by omega
      subst hi
      apply hV
      unfold wb_X4_toldBy_r121_6_c121
      exact ⟨fun q => absurd q (nI_nlt (Nat.le_refl _) (by omega)), fun _ => ⟨fun q => absurd q (fun z => by
        rw [Int32.le_iff_toInt_le, nI_toInt (by omega)] at z
        have z : (i : Int) ≤ 0 := z
        omega), fun _ => ⟨nz_nI (by omega) (by omega), hP⟩⟩⟩
    | succ m ih =>
      intro i hi
      have nxt := ih (i + 1) (by omega)
      obtain ⟨w, hw, e⟩ := hd i (by omega)
      have i5 : (nI i).toNatClampNeg = i := nI_clamp (by omega)
      apply hV
      unfold wb_X4_toldBy_r121_6_c121
      rw [re_112 hk, nI_1, i5]
      exact ⟨fun _ => ⟨fun _ => ⟨nI_in2 hk (by decide), nI_in2 (by omega) (by decide), by rw [e]; exact nI_in2 hw (by decide), nxt⟩, fun q => absurd (nI_lt (a := i) (b := 52) (by omega) (by omega)) q⟩, fun q => absurd (nI_lt (by omega) (by omega)) q⟩
  exact key n 0 (by omega)
theorem lp_told123 {k n : Nat} (hk : k < 8) (h1 : 1 ≤ n) (hn : n ≤ 3) {I : Nat → Nat → Int32} {J : Nat → Nat → Int64} {T : Option Nat} {P : Int32 → (Nat → Nat → Int32) → (Nat → Nat → Int64) → Option Nat → Prop} (hd : ∀ i, i < n → ∃ w : Nat, w < 52 ∧ I 123 i = nI w) (hP : P (52 * sd_ (I (113 + k)) (I 123) n / nI n) I J T) : wl_X4_toldBy_r123_6_c123 (nI k) (nI n) 0 0 I J T P := by
  intro V hV
  have key : ∀ m i : Nat, i + m = n → V (nI k) (nI n) (sd_ (I (113 + k)) (I 123) i) (nI i) I J T := by
    intro m
    induction m with
    | zero =>
      intro i hi
      have hi : i = n := by omega
      subst hi
      apply hV
      unfold wb_X4_toldBy_r123_6_c123
      exact ⟨fun q => absurd q (nI_nlt (Nat.le_refl _) (by omega)), fun _ => ⟨fun q => absurd q (fun z => by
        rw [Int32.le_iff_toInt_le, nI_toInt (by omega)] at z
        have z : (i : Int) ≤ 0 := z
        omega), fun _ => ⟨nz_nI (by omega) (by omega), hP⟩⟩⟩
    | succ m ih =>
      intro i hi
      have nxt := ih (i + 1) (by omega)
      obtain ⟨w, hw, e⟩ := hd i (by omega)
      have i5 : (nI i).toNatClampNeg = i := nI_clamp (by omega)
      apply hV
      unfold wb_X4_toldBy_r123_6_c123
      rw [re_112 hk, nI_1, i5]
      exact ⟨fun _ => ⟨fun _ => ⟨nI_in2 hk (by decide), nI_in2 (by omega) (by decide), by rw [e]; exact nI_in2 hw (by decide), nxt⟩, fun q => absurd (nI_lt (a := i) (b := 3) (by omega) (by omega)) q⟩, fun q => absurd (nI_lt (by omega) (by omega)) q⟩
  exact key n 0 (by omega)
theorem lp_toldM {k n : Nat} (hk : k < 8) (h1 : 1 ≤ n) (hn : n ≤ 52) {I : Nat → Nat → Int32} {J : Nat → Nat → Int64} {T : Option Nat} {P : Int32 → (Nat → Nat → Int32) → (Nat → Nat → Int64) → Option Nat → Prop} (en : I 204 66 = nI n) (hd : ∀ i, i < n → ∃ w : Nat, w < 52 ∧ I 252 i = nI w) (hP : P (52 * sd_ (fun w => I 251 (52 * k + w)) (I 252) n / nI n) I J T) : wl_X12_toldOf_4 (nI k) 0 0 I J T P := by
  intro V hV
  have key : ∀ m i : Nat, i + m = n → V (nI k) (sd_ (fun w => I 251 (52 * k + w)) (I 252) i) (nI i) I J T := by
    intro m
    induction m with
    | zero =>
      intro i hi
      have hi : i = n := by omega
      subst hi
      apply hV
      unfold wb_X12_toldOf_4
      rw [en]
      exact ⟨fun q => absurd q (nI_nlt (Nat.le_refl _) (by omega)), fun _ => ⟨nz_nI (by omega) (by omega), hP⟩⟩
    | succ m ih =>
      intro i hi
      have nxt := ih (i + 1) (by omega)
      obtain ⟨w, hw, e⟩ := hd i (by omega)
      have i5 : (nI i).toNatClampNeg = i := nI_clamp (by omega)
      have w5 : (nI w).toNatClampNeg = w := nI_clamp (by omega)
      rw [sd_, e, w5] at nxt
      apply hV
      unfold wb_X12_toldOf_4
      rw [en, nI_1, i5, e, pr_52, nI_clamp (show 52 * k + w < 2 ^ 31 by omega)]
      exact ⟨fun _ => ⟨nI_in2 (by omega) (by decide), nI_in2 (by omega) (by decide), nxt⟩, fun q => absurd (nI_lt (by omega) (by omega)) q⟩
  exact key n 0 (by omega)
theorem rp_isTrue (a : Int32) {I : Nat → Nat → Int32} {J : Nat → Nat → Int64} {T : Option Nat} {P : Int32 → Int32 → (Nat → Nat → Int32) → (Nat → Nat → Int64) → Option Nat → Prop} (h : RR I J) (hP : ∀ v I2 J2 T2, RR I2 J2 → P v v I2 J2 T2) : wp_X11_isTrue a I J T (fun v I1 J1 T1 => wp_X12_isTrue a I1 J1 T1 (fun w I2 J2 T2 => P v w I2 J2 T2)) := by
  obtain ⟨n, hn, n1, n2, hc⟩ := h.flow
  have n4 : (nI n).toInt = (n : Int) := nI_toInt (by omega)
  have n5 : (nI n).toNatClampNeg = n := nI_clamp (by omega)
  have n6 : nI n = 8 ↔ n = 8 := nI_eq (by omega) (by decide)
  by_cases q : 0 ≤ a.toInt ∧ a.toInt < n
  · obtain ⟨k, hk, rfl⟩ := ii_at q.1 q.2 (by omega)
    obtain ⟨-, -, -, -, -, q1, q2⟩ := hc k hk
    have k4 : (nI k).toInt = (k : Int) := nI_toInt (by omega)
    have k5 : (nI k).toNatClampNeg = k := nI_clamp (by omega)
    have e : I 111 k = sm_w (fun w => I 251 (52 * k + w)) 52 := q2.trans (sm_congr (fun w hw => (q1 w hw).1))
    have finM : wl_X12_trueOf_4 (nI k) 0 0 (ix_u2 I 0 0 0) J T (fun v5 I5 J5 T5 => wp_X12_gives v5 I5 J5 T5 (fun v6 I6 J6 T6 => P (I 111 k) v6 I6 J6 T6)) := lp_trueM (by omega) (by
      unfold wp_X12_gives
      rw [e]
      exact hP _ _ _ _ (RR_st h 0))
    have fm : wp_X12_isTrue (nI k) (ix_u2 I 0 0 0) J T (fun w I3 J3 T3 => P (I 111 k) w I3 J3 T3) := by
      simp only [wp_X12_isTrue, wp_X12_isFlow, wp_X12_refuse, wp_X12_trueOf, lgc_lt, lgc_le, lgc_eq, cmp_s, cmp_t, u2_e]
      try simp only [Int32.lt_iff_toInt_lt, Int32.le_iff_toInt_le]
      simp [n2, n4, k4]
      repeat' (first | with_reducible exact finM | with_reducible refine And.intro ?_ ?_ | with_reducible intro _)
      all_goals try first | rfl | (exfalso; omega) | exact inb_of (by omega) (by omega) | with_reducible exact nI_in2 (by omega) (by omega)
    simp only [wp_X11_isTrue, wp_X11_refuse, wp_X4_has, wp_X4_trueWeight, lgc_lt, lgc_le, lgc_eq, cmp_s, cmp_t, u2_e]
    try simp only [Int32.lt_iff_toInt_lt, Int32.le_iff_toInt_le]
    simp [n1, n4, k4, k5]
    repeat' (first | with_reducible refine And.intro ?_ ?_ | with_reducible intro _)
    all_goals try first | rfl | (exfalso; omega) | exact inb_of (by omega) (by omega) | with_reducible exact nI_in2 (by omega) (by omega) | with_reducible exact fm
  · skip
    simp only [wp_X11_isTrue, wp_X12_isTrue, wp_X11_refuse, wp_X4_has, wp_X4_trueWeight, wp_X12_gives, wp_X12_isFlow, wp_X12_refuse, wp_X12_trueOf, lgc_lt, lgc_le, lgc_eq, cmp_s, cmp_t, u2_e]
    try simp only [Int32.lt_iff_toInt_lt, Int32.le_iff_toInt_le]
    simp [n1, n2, n4]
    repeat' (first | with_reducible refine And.intro ?_ ?_ | with_reducible intro _)
    all_goals try first | rfl | (exfalso; omega) | exact inb_of (by omega) (by omega) | exact hP _ _ _ _ (RR_st h 1) | with_reducible exact nI_in2 (by omega) (by omega)

theorem rp_told (a : Int32) {I : Nat → Nat → Int32} {J : Nat → Nat → Int64} {T : Option Nat} {P : Int32 → Int32 → (Nat → Nat → Int32) → (Nat → Nat → Int64) → Option Nat → Prop} (h : RR I J) (hP : ∀ v I2 J2 T2, RR I2 J2 → P v v I2 J2 T2) : wp_X11_told a I J T (fun v I1 J1 T1 => wp_X12_told a I1 J1 T1 (fun w I2 J2 T2 => P v w I2 J2 T2)) := by
  obtain ⟨n, hn, n1, n2, hc⟩ := h.flow
  have n4 : (nI n).toInt = (n : Int) := nI_toInt (by omega)
  have n5 : (nI n).toNatClampNeg = n := nI_clamp (by omega)
  have n6 : nI n = 8 ↔ n = 8 := nI_eq (by omega) (by decide)
  obtain ⟨d, hd, d1, d2, dc⟩ := h.draw
  have d4 : (nI d).toInt = (d : Int) := nI_toInt (by omega)
  have d6 : nI d = 0 ↔ d = 0 := nI_eq (by omega) (by decide)
  by_cases q : (0 ≤ a.toInt ∧ a.toInt < n) ∧ 1 ≤ d
  · obtain ⟨k, hk, rfl⟩ := ii_at q.1.1 q.1.2 (by omega)
    obtain ⟨-, -, -, -, -, q1, q2⟩ := hc k hk
    have k4 : (nI k).toInt = (k : Int) := nI_toInt (by omega)
    have k5 : (nI k).toNatClampNeg = k := nI_clamp (by omega)
    have qg : ∀ i, i < d → I 121 i = I 252 i ∧ I (113 + k) (I 121 i).toNatClampNeg = I 251 (52 * k + (I 121 i).toNatClampNeg) ∧ ∃ z : Nat, z ≤ 10000 ∧ I (113 + k) (I 121 i).toNatClampNeg = nI z := fun i hi => by
      obtain ⟨e1, w, hw, e2⟩ := dc i hi
      have w5 : (nI w).toNatClampNeg = w := nI_clamp (by omega)
      have := q1 w hw
      rw [bI_lt (show k < 8 by omega)] at this
      rw [e2, w5]
      exact ⟨e2.symm.trans e1, this.1, this.2⟩
    have e : sd_ (I (113 + k)) (I 121) d = sd_ (fun w => I 251 (52 * k + w)) (I 252) d := sd_congr (fun i hi => ⟨(qg i hi).1, (qg i hi).2.1⟩)
    obtain ⟨S, hS, eS⟩ := sd_bd (g := I (113 + k)) (d := I 121) (fun i hi => (qg i hi).2.2)
    have ev : 52 * sd_ (I (113 + k)) (I 121) d / nI d = nI (52 * S / d) := by
      rw [eS, show (52 : Int32) = nI 52 from rfl, nI_mul, nI_div (by omega) (by omega) (by omega)]
    have hv : 52 * S / d < 2147483648 := Nat.lt_of_le_of_lt (Nat.div_le_self _ _) (by omega)
    have v4 : (nI (52 * S / d)).toInt = ((52 * S / d : Nat) : Int) := nI_toInt (by omega)
    have finM : wl_X12_toldOf_4 (nI k) 0 0 (ix_u2 I 0 0 0) J T (fun v5 I5 J5 T5 => wp_X12_gives v5 I5 J5 T5 (fun v6 I6 J6 T6 => P (nI (52 * S / d)) v6 I6 J6 T6)) := lp_toldM (by omega) q.2 hd d2 (fun i hi => by
        obtain ⟨e1, w, hw, e2⟩ := dc i hi
        exact ⟨w, hw, e1.symm.trans e2⟩) (by
      unfold wp_X12_gives
      have : 52 * sd_ (fun w => I 251 (52 * k + w)) (I 252) d / nI d = nI (52 * S / d) := by rw [← e]; exact ev
      show P (nI (52 * S / d)) (52 * sd_ (fun w => I 251 (52 * k + w)) (I 252) d / nI d) _ _ _
      rw [this]
      exact hP _ _ _ _ (RR_st h 0))
    have fm : wp_X12_told (nI k) (ix_u2 I 0 0 0) J T (fun w I3 J3 T3 => P (nI (52 * S / d)) w I3 J3 T3) := by
      have x2 := d2
      simp only [wp_X12_told, wp_X12_isFlow, wp_X12_refuse, wp_X12_toldOf, lgc_lt, lgc_le, lgc_eq, cmp_s, cmp_t, u2_e]
      try simp only [Int32.lt_iff_toInt_lt, Int32.le_iff_toInt_le]
      simp [n2, n4, k4, d2, d6]
      repeat' (first | with_reducible exact finM | with_reducible refine And.intro ?_ ?_ | with_reducible intro _)
      all_goals try first | rfl | (exfalso; omega) | exact inb_of (by omega) (by omega) | with_reducible exact nI_in2 (by omega) (by omega)
    have fa : wp_X11_answerOrNoneSuch (nI (52 * S / d)) I J T (fun v10 I10 J10 T10 => wp_X12_told (nI k) I10 J10 T10 (fun w I3 J3 T3 => P v10 w I3 J3 T3)) := by
      generalize 52 * S / d = Z at hv v4 fm ⊢
      simp only [wp_X11_answerOrNoneSuch, lgc_lt, lgc_le, lgc_eq, cmp_s, cmp_t, u2_e]
      try simp only [Int32.lt_iff_toInt_lt, Int32.le_iff_toInt_le]
      simp [v4]
      repeat' (first | with_reducible refine And.intro ?_ ?_ | with_reducible intro _)
      all_goals try first | rfl | (exfalso; omega) | exact inb_of (by omega) (by omega) | with_reducible exact nI_in2 (by omega) (by omega) | with_reducible exact fm
    have finC : wl_X4_toldBy_r121_6_c121 (nI k) (nI d) 0 0 I J T (fun v9 I9 J9 T9 => wp_X11_answerOrNoneSuch v9 I9 J9 T9 (fun v10 I10 J10 T10 => wp_X12_told (nI k) I10 J10 T10 (fun w I3 J3 T3 => P v10 w I3 J3 T3))) := lp_told121 (by omega) q.2 hd (fun i hi => (dc i hi).2) (by rw [ev]; exact fa)
    simp only [wp_X11_told, wp_X11_refuse, wp_X4_has, wp_X4_hasDraw, wp_X4_toldWeight, wp_X4_toldBy_r121, lgc_lt, lgc_le, lgc_eq, cmp_s, cmp_t, u2_e]
    try simp only [Int32.lt_iff_toInt_lt, Int32.le_iff_toInt_le]
    simp [n1, n4, k4, d1, d4]
    repeat' (first | with_reducible exact finC | with_reducible refine And.intro ?_ ?_ | with_reducible intro _)
    all_goals try first | rfl | (exfalso; omega) | exact inb_of (by omega) (by omega) | with_reducible exact nI_in2 (by omega) (by omega)
  · skip
    simp only [wp_X11_told, wp_X12_told, wp_X11_answerOrNoneSuch, wp_X11_refuse, wp_X4_has, wp_X4_hasDraw, wp_X4_toldWeight, wp_X12_gives, wp_X12_isFlow, wp_X12_refuse, wp_X12_toldOf, wp_X4_toldBy_r121, lgc_lt, lgc_le, lgc_eq, cmp_s, cmp_t, u2_e]
    try simp only [Int32.lt_iff_toInt_lt, Int32.le_iff_toInt_le]
    simp [n1, n2, n4, d1, d2, d4, d6]
    repeat' (first | with_reducible refine And.intro ?_ ?_ | with_reducible intro _)
    all_goals try first | rfl | (exfalso; omega) | exact inb_of (by omega) (by omega) | exact hP _ _ _ _ (RR_st h 1) | exact hP _ _ _ _ (RR_st h 6) | with_reducible exact nI_in2 (by omega) (by omega)

