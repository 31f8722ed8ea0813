/-! clauses, isOut, inForce -/
theorem ec_cl {t n k : Nat} {I : Nat → Nat → Int32} {J : Nat → Nat → Int64} {T : Option Nat} {P : Int32 → (Nat → Nat → Int32) → (Nat → Nat → Int64) → Option Nat → Prop} (ht : t < n) (hn : n ≤ 4) (e : I 51 0 = nI n) (ek : I (59 + 9 * t) 0 = nI k) : wp_X8_clausesOf (nI t) I J T P = P (nI k) I J T := by
  have t4 : (nI t).toInt = (t : Int) := nI_toInt (by omega)
  have n4 : (nI n).toInt = (n : Int) := nI_toInt (by omega)
  have c0 : ¬ nI t < 0 := by
    rw [Int32.lt_iff_toInt_lt, t4]
    show ¬ (t : Int) < 0
    omega
  have c1 : nI t < nI n := nI_lt (by omega) (by omega)
  have hi : ix_inb (nI t) 4 = true := nI_in2 (by omega) (by decide)
  unfold wp_X8_clausesOf wp_X8_has wp_X9_count_59 wp_X9_count_68 wp_X9_count_77 wp_X9_count_86
  dsimp only
  rw [e]
  apply propext
  have e0 : nI t = 0 ↔ t = 0 := nI_eq (by omega) (by decide)
  have e1 : nI t = 1 ↔ t = 1 := nI_eq (by omega) (by decide)
  have e2 : nI t = 2 ↔ t = 2 := nI_eq (by omega) (by decide)
  have e3 : nI t = 3 ↔ t = 3 := nI_eq (by omega) (by decide)
  constructor
  · intro z
    have z := (z.2 c0).1 c1
    have z := z.2 (by decide)
    have z := z.2
    have : t = 0 ∨ t = 1 ∨ t = 2 ∨ t = 3 := by omega
    rcases this with r | r | r | r
    · subst r; have z := z.1 rfl; rw [show I 59 0 = nI k from ek] at z; exact z
    · subst r; have z := z.2.1 rfl; rw [show I 68 0 = nI k from ek] at z; exact z
    · subst r; have z := z.2.2.1 rfl; rw [show I 77 0 = nI k from ek] at z; exact z
    · subst r; have z := z.2.2.2 rfl; rw [show I 86 0 = nI k from ek] at z; exact z
  · intro z
    refine ⟨fun q => absurd q c0, fun _ => ⟨fun _ => ⟨fun q => absurd q (by decide), fun _ => ⟨hi, fun r => ?_, fun r => ?_, fun r => ?_, fun r => ?_⟩⟩, fun q => absurd c1 q⟩⟩
    · have r := e0.mp r; subst r; rw [show I 59 0 = nI k from ek]; exact z
    · have r := e1.mp r; subst r; rw [show I 68 0 = nI k from ek]; exact z
    · have r := e2.mp r; subst r; rw [show I 77 0 = nI k from ek]; exact z
    · have r := e3.mp r; subst r; rw [show I 86 0 = nI k from ek]; exact z
def sc_o (M : Nat → Bool) (D O : Nat → Int32) (day : Int32) : Nat → Int32 × Int32
  | 0 => (0, -1)
  | k + 1 => if M k = true ∧ D k ≤ day ∧ ¬ D k < (sc_o M D O day k).2 then (O k, D k) else sc_o M D O day k
theorem sc_o_congr {M N : Nat → Bool} {D O E R : Nat → Int32} {day : Int32} : ∀ {n : Nat}, (∀ k, k < n → M k = N k ∧ D k = E k ∧ O k = R k) → sc_o M D O day n = sc_o N E R day n
  | 0, _ => rfl
  | n + 1, h => by
    have h1 := sc_o_congr (M := M) (N := N) (D := D) (O := O) (E := E) (R := R) (day := day) (n := n) (fun k hk => h k (by omega))
    obtain ⟨e1, e2, e3⟩ := h n (by omega)
    rw [sc_o, sc_o, h1, e1, e2, e3]
theorem sc_o_01 {M : Nat → Bool} {D O : Nat → Int32} {day : Int32} : ∀ {n : Nat}, (∀ k, k < n → O k = 0 ∨ O k = 1) → (sc_o M D O day n).1 = 0 ∨ (sc_o M D O day n).1 = 1
  | 0, _ => Or.inl rfl
  | n + 1, h => by
    rw [sc_o]
    split
    · exact h n (by omega)
    · exact sc_o_01 (fun k hk => h k (by omega))
theorem t01 {x : Int32} (h : x = 0 ∨ x = 1) : ix_01 x = true := by
  rcases h with h | h <;> subst h <;> rfl
theorem lp_outC {a t c day : Int32} {g : Nat} (hg : g ≤ 40) {I : Nat → Nat → Int32} {J : Nat → Nat → Int64} {T : Option Nat} {P : Int32 → (Nat → Nat → Int32) → (Nat → Nat → Int64) → Option Nat → Prop} (e : I 51 3 = nI g) (h1 : ∀ k, k < g → I 58 k = 0 ∨ I 58 k = 1) (h : P (sc_o (fun k => decide (I 54 k = a ∧ I 55 k = t ∧ I 56 k = c)) (I 57) (I 58) day g).1 I J T) : wl_X8_isOutOf_9 a t c day 0 (-1) 0 I J T P := by
  intro V hV
  have key : ∀ m i : Nat, i + m = g → V a t c day (sc_o (fun k => decide (I 54 k = a ∧ I 55 k = t ∧ I 56 k = c)) (I 57) (I 58) day i).1 (sc_o (fun k => decide (I 54 k = a ∧ I 55 k = t ∧ I 56 k = c)) (I 57) (I 58) day i).2 (nI i) I J T := by
    intro m
    induction m with
    | zero =>
      intro i hi
      have hi : i = g := by omega
      subst hi
      apply hV
      unfold wb_X8_isOutOf_9
      rw [e]
      exact ⟨fun q => absurd q (nI_nlt (Nat.le_refl _) (by omega)), fun _ => ⟨t01 (sc_o_01 h1), h⟩⟩
    | succ m ih =>
      intro i hi
      have nxt := ih (i + 1) (by omega)
      have hin : ix_inb (nI i) 40 = true := nI_in2 (by omega) (by decide)
      have ec : (nI i).toNatClampNeg = i := nI_clamp (by omega)
      apply hV
      unfold wb_X8_isOutOf_9
      rw [e, ec, nI_1]
      refine ⟨fun _ => ⟨hin, fun q0 => ⟨hin, fun q1 => ⟨hin, fun q2 => ⟨hin, fun d1 => ⟨hin, fun d2 => ?_, fun d2 => ⟨hin, hin, ?_⟩⟩, fun d1 => ?_⟩, fun q2 => ?_⟩, fun q1 => ?_⟩, fun q0 => ?_⟩, fun q => absurd (nI_lt (by omega) (by omega)) q⟩
      · rw [sc_o, if_neg (fun z => z.2.2 d2)] at nxt; exact nxt
      · rw [sc_o, if_pos ⟨decide_eq_true (⟨q0, q1, q2⟩), d1, d2⟩] at nxt; exact nxt
      · rw [sc_o, if_neg (fun z => d1 z.2.1)] at nxt; exact nxt
      · rw [sc_o, if_neg (fun z => q2 (of_decide_eq_true z.1).2.2)] at nxt; exact nxt
      · rw [sc_o, if_neg (fun z => q1 (of_decide_eq_true z.1).2.1)] at nxt; exact nxt
      · rw [sc_o, if_neg (fun z => q0 (of_decide_eq_true z.1).1)] at nxt; exact nxt
  exact key g 0 (by omega)
theorem lp_outM {a t day : Int32} {g : Nat} (hg : g ≤ 40) {I : Nat → Nat → Int32} {J : Nat → Nat → Int64} {T : Option Nat} {P : Int32 → (Nat → Nat → Int32) → (Nat → Nat → Int64) → Option Nat → Prop} (e : I 204 53 = nI g) (h1 : ∀ k, k < g → I 240 k = 0 ∨ I 240 k = 1) (h : P (sc_o (fun k => decide (I 237 k = a ∧ I 238 k = t)) (I 239) (I 240) day g).1 I J T) : wl_X12_outOf_9 a t day 0 (-1) 0 I J T P := by
  intro V hV
  have key : ∀ m i : Nat, i + m = g → V a t day (sc_o (fun k => decide (I 237 k = a ∧ I 238 k = t)) (I 239) (I 240) day i).1 (sc_o (fun k => decide (I 237 k = a ∧ I 238 k = t)) (I 239) (I 240) day i).2 (nI i) I J T := by
    intro m
    induction m with
    | zero =>
      intro i hi
      have hi : i = g := by omega
      subst hi
      apply hV
      unfold wb_X12_outOf_9
      rw [e]
      exact ⟨fun q => absurd q (nI_nlt (Nat.le_refl _) (by omega)), fun _ => ⟨t01 (sc_o_01 h1), h⟩⟩
    | succ m ih =>
      intro i hi
      have nxt := ih (i + 1) (by omega)
      have hin : ix_inb (nI i) 40 = true := nI_in2 (by omega) (by decide)
      have ec : (nI i).toNatClampNeg = i := nI_clamp (by omega)
      apply hV
      unfold wb_X12_outOf_9
      rw [e, ec, nI_1]
      refine ⟨fun _ => ⟨hin, fun q0 => ⟨hin, fun q1 => ⟨hin, fun d1 => ⟨hin, fun d2 => ?_, fun d2 => ⟨hin, hin, ?_⟩⟩, fun d1 => ?_⟩, fun q1 => ?_⟩, fun q0 => ?_⟩, fun q => absurd (nI_lt (by omega) (by omega)) q⟩
      · rw [sc_o, if_neg (fun z => z.2.2 d2)] at nxt; exact nxt
      · rw [sc_o, if_pos ⟨decide_eq_true (⟨q0, q1⟩), d1, d2⟩] at nxt; exact nxt
      · rw [sc_o, if_neg (fun z => d1 z.2.1)] at nxt; exact nxt
      · rw [sc_o, if_neg (fun z => q1 (of_decide_eq_true z.1).2)] at nxt; exact nxt
      · rw [sc_o, if_neg (fun z => q0 (of_decide_eq_true z.1).1)] at nxt; exact nxt
  exact key g 0 (by omega)
theorem rp_clauses (b : Int32) {I : Nat → Nat → Int32} {J : Nat → Nat → Int64} {T : Option Nat} {P : Int32 → Int32 → (Nat → Nat → Int32) → (Nat → Nat → Int64) → Option Nat → Prop} (h : RR I J) (hP : ∀ v I2 J2 T2, RR I2 J2 → P v v I2 J2 T2) : wp_X11_clauses b I J T (fun v I1 J1 T1 => wp_X12_clauses b I1 J1 T1 (fun w I2 J2 T2 => P v w I2 J2 T2)) := by
  obtain ⟨nt, S, O, hnt, t1, t2, -, -, -, -, ht⟩ := h.trty
  have t4 : (nI nt).toInt = (nt : Int) := nI_toInt (by omega)
  by_cases qt : 0 ≤ b.toInt ∧ b.toInt < nt
  · obtain ⟨t, ht9, rfl⟩ := ii_at qt.1 qt.2 (by omega)
    obtain ⟨-, k, hk, k1, k2, -⟩ := ht t ht9
    rw [bI_lt (show 9 * t < 36 by omega)] at k1
    have ec : ∀ {P : Int32 → (Nat → Nat → Int32) → (Nat → Nat → Int64) → Option Nat → Prop}, wp_X8_clausesOf (nI t) I J T P = P (nI k) I J T := fun {P} => ec_cl ht9 hnt t1 k1
    have ec0 : ∀ {P : Int32 → (Nat → Nat → Int32) → (Nat → Nat → Int64) → Option Nat → Prop} {s : Int32}, wp_X8_clausesOf (nI t) (ix_u2 I 0 0 s) J T P = P (nI k) (ix_u2 I 0 0 s) J T := fun {P s} => ec_cl ht9 hnt t1 (by rw [u2_c (by omega)]; exact k1)
    have b4 : (nI t).toInt = (t : Int) := nI_toInt (by omega)
    have b5 : (nI t).toNatClampNeg = t := nI_clamp (by omega)
    have k4 : (nI k).toInt = (k : Int) := nI_toInt (by omega)
    have k3 : (nI k - 1).toInt = (k : Int) - 1 := nI_pm1 (by omega)
    simp only [wp_X11_clauses, wp_X12_clauses, wp_X11_refuse, wp_X8_has, wp_X12_gives, wp_X12_isTreaty, wp_X12_refuse, lgc_lt, lgc_le, lgc_eq, cmp_s, cmp_t, u2_e]
    try simp only [Int32.lt_iff_toInt_lt, Int32.le_iff_toInt_le]
    simp [t1, t2, t4, b4, b5, k2, k4, ec, ec0, u2_e, -Int32.toInt_sub]
    repeat' (first | with_reducible refine And.intro ?_ ?_ | with_reducible intro _)
    all_goals try first | rfl | (exfalso; omega) | exact inb_of (by omega) (by omega) | exact hP _ _ _ _ (RR_st h 0) | exact hP _ _ _ _ (RR_st h 1) | with_reducible exact nI_in2 (by omega) (by omega)
  · skip
    simp only [wp_X11_clauses, wp_X12_clauses, wp_X11_refuse, wp_X8_has, wp_X12_gives, wp_X12_isTreaty, wp_X12_refuse, lgc_lt, lgc_le, lgc_eq, cmp_s, cmp_t, u2_e]
    try simp only [Int32.lt_iff_toInt_lt, Int32.le_iff_toInt_le]
    simp [t1, t2, t4]
    repeat' (first | with_reducible refine And.intro ?_ ?_ | with_reducible intro _)
    all_goals try first | rfl | (exfalso; omega) | exact inb_of (by omega) (by omega) | exact hP _ _ _ _ (RR_st h 0) | exact hP _ _ _ _ (RR_st h 1) | with_reducible exact nI_in2 (by omega) (by omega)

theorem rp_isOut (a : Int32) (b : Int32) (c : Int32) (d : Int32) {I : Nat → Nat → Int32} {J : Nat → Nat → Int64} {T : Option Nat} {P : Int32 → Int32 → (Nat → Nat → Int32) → (Nat → Nat → Int64) → Option Nat → Prop} (h : RR I J) (hP : ∀ v I2 J2 T2, RR I2 J2 → P v v I2 J2 T2) : wp_X11_isOut a b c d I J T (fun v I1 J1 T1 => wp_X12_isOut a b c d I1 J1 T1 (fun w I2 J2 T2 => P v w I2 J2 T2)) := by
  obtain ⟨n, hn, n1, n2⟩ := h.land
  have n3 : (nI n - 1).toInt = (n : Int) - 1 := nI_pm1 (by omega)
  have n4 : (nI n).toInt = (n : Int) := nI_toInt (by omega)
  obtain ⟨nt, S, O, hnt, t1, t2, -, -, -, -, ht⟩ := h.trty
  have t4 : (nI nt).toInt = (nt : Int) := nI_toInt (by omega)
  obtain ⟨g, hg, g1, g2, gc⟩ := h.resv
  have g4 : (nI g).toInt = (g : Int) := nI_toInt (by omega)
  have g5 : (nI g).toNatClampNeg = g := nI_clamp (by omega)
  have g6 : nI g = 40 ↔ g = 40 := nI_eq (by omega) (by decide)
  by_cases qt : 0 ≤ b.toInt ∧ b.toInt < nt
  · obtain ⟨t, ht9, rfl⟩ := ii_at qt.1 qt.2 (by omega)
    obtain ⟨-, k, hk, k1, k2, -⟩ := ht t ht9
    rw [bI_lt (show 9 * t < 36 by omega)] at k1
    have ec : ∀ {P : Int32 → (Nat → Nat → Int32) → (Nat → Nat → Int64) → Option Nat → Prop}, wp_X8_clausesOf (nI t) I J T P = P (nI k) I J T := fun {P} => ec_cl ht9 hnt t1 k1
    have ec0 : ∀ {P : Int32 → (Nat → Nat → Int32) → (Nat → Nat → Int64) → Option Nat → Prop} {s : Int32}, wp_X8_clausesOf (nI t) (ix_u2 I 0 0 s) J T P = P (nI k) (ix_u2 I 0 0 s) J T := fun {P s} => ec_cl ht9 hnt t1 (by rw [u2_c (by omega)]; exact k1)
    have b4 : (nI t).toInt = (t : Int) := nI_toInt (by omega)
    have b5 : (nI t).toNatClampNeg = t := nI_clamp (by omega)
    have k4 : (nI k).toInt = (k : Int) := nI_toInt (by omega)
    have k3 : (nI k - 1).toInt = (k : Int) - 1 := nI_pm1 (by omega)
    by_cases qg : (0 ≤ a.toInt ∧ a.toInt < n) ∧ (0 ≤ c.toInt ∧ c.toInt < k) ∧ (0 ≤ d.toInt ∧ d.toInt ≤ 9999)
    · skip
      obtain ⟨i, hi, rfl⟩ := ii_at qg.1.1 qg.1.2 (by omega)
      obtain ⟨q, hq, rfl⟩ := ii_at qg.2.1.1 qg.2.1.2 (by omega)
      have i4 : (nI i).toInt = (i : Int) := nI_toInt (by omega)
      have q4 : (nI q).toInt = (q : Int) := nI_toInt (by omega)
      have ms : sc_o (fun k => decide (I 54 k = nI i ∧ I 55 k = nI t ∧ I 56 k = nI q)) (I 57) (I 58) d g = sc_o (fun k => decide (I 237 k = nI i ∧ I 238 k = nI (12 * t + q))) (I 239) (I 240) d g := sc_o_congr (fun k hk => by
        obtain ⟨e1, e2, e3, -, i9, j9, e4, e5, e6, e7, e8⟩ := gc k hk
        refine ⟨?_, e2, e3⟩
        refine decide_eq_decide.mpr ?_
        rw [e1, e6, e7, e8, nI_eq (a := i9) (b := t) (by omega) (by omega), nI_eq (a := j9) (b := q) (by omega) (by omega), nI_eq (a := 12 * i9 + j9) (b := 12 * t + q) (by omega) (by omega)]
        have : (i9 = t ∧ j9 = q) ↔ (12 * i9 + j9 = 12 * t + q) := by omega
        rw [this])
      have h01 : ∀ k, k < g → I 58 k = 0 ∨ I 58 k = 1 := fun k hk => (gc k hk).2.2.2.1
      have m01 : ∀ k, k < g → I 240 k = 0 ∨ I 240 k = 1 := fun k hk => by
        have := gc k hk
        rw [← this.2.2.1]; exact this.2.2.2.1
      have v01 := sc_o_01 (M := (fun k => decide (I 54 k = nI i ∧ I 55 k = nI t ∧ I 56 k = nI q))) (D := I 57) (day := d) h01
      obtain ⟨v, hv⟩ : ∃ v, v = (sc_o (fun k => decide (I 54 k = nI i ∧ I 55 k = nI t ∧ I 56 k = nI q)) (I 57) (I 58) d g).1 := ⟨_, rfl⟩
      rw [← hv] at v01
      have fM : wl_X12_outOf_9 (nI i) (nI (12 * t + q)) d 0 (-1) 0 (ix_u2 I 0 0 0) J T (fun v13 I13 J13 T13 => (v13 = 0 → wp_X12_gives 0 I13 J13 T13 (fun w I3 J3 T3 => P v w I3 J3 T3)) ∧ (¬ v13 = 0 → wp_X12_gives 1 I13 J13 T13 (fun w I3 J3 T3 => P v w I3 J3 T3))) := lp_outM hg g2 m01 (by
        show ((sc_o (fun k => decide (I 237 k = nI i ∧ I 238 k = nI (12 * t + q))) (I 239) (I 240) d g).1 = 0 → _) ∧ (¬ (sc_o (fun k => decide (I 237 k = nI i ∧ I 238 k = nI (12 * t + q))) (I 239) (I 240) d g).1 = 0 → _)
        rw [← ms, ← hv]
        unfold wp_X12_gives
        rcases v01 with z | z
        · rw [z]; exact ⟨fun _ => hP _ _ _ _ (RR_st h 0), fun z => absurd rfl z⟩
        · rw [z]; exact ⟨fun z => absurd z (by decide), fun _ => hP _ _ _ _ (RR_st h 0)⟩)
      have fm : wp_X12_isOut (nI i) (nI t) (nI q) d (ix_u2 I 0 0 0) J T (fun w I3 J3 T3 => P v w I3 J3 T3) := by
        rw [wp_X12_isOut]
        simp only [wp_X12_outOf, pr_12]
        simp only [wp_X12_isOut, wp_X12_isClause, wp_X12_isDay, wp_X12_isLand, wp_X12_outOf, wp_X12_refuse, wp_X12_isTreaty, lgc_lt, lgc_le, lgc_eq, cmp_s, cmp_t, u2_e, pr_12]
        try simp only [Int32.lt_iff_toInt_lt, Int32.le_iff_toInt_le]
        simp [n2, n4, i4, t2, t4, b4, b5, k2, k4, q4]
        repeat' (first | with_reducible exact fM | with_reducible refine And.intro ?_ ?_ | with_reducible intro _)
        all_goals try first | rfl | (exfalso; omega) | exact inb_of (by omega) (by omega) | with_reducible exact nI_in2 (by omega) (by omega)
      have fC : wl_X8_isOutOf_9 (nI i) (nI t) (nI q) d 0 (-1) 0 (ix_u2 I 0 0 0) J T (fun v5 I5 J5 T5 => (v5 = 0 → wp_X12_isOut (nI i) (nI t) (nI q) d I5 J5 T5 (fun w I3 J3 T3 => P 0 w I3 J3 T3)) ∧ (¬ v5 = 0 → wp_X12_isOut (nI i) (nI t) (nI q) d I5 J5 T5 (fun w I3 J3 T3 => P 1 w I3 J3 T3))) := lp_outC hg g1 h01 (by
        show ((sc_o (fun k => decide (I 54 k = nI i ∧ I 55 k = nI t ∧ I 56 k = nI q)) (I 57) (I 58) d g).1 = 0 → _) ∧ (¬ (sc_o (fun k => decide (I 54 k = nI i ∧ I 55 k = nI t ∧ I 56 k = nI q)) (I 57) (I 58) d g).1 = 0 → _)
        rw [← hv]
        rcases v01 with z | z
        · rw [z] at fm ⊢; exact ⟨fun _ => fm, fun z => absurd rfl z⟩
        · rw [z] at fm ⊢; exact ⟨fun z => absurd z (by decide), fun _ => fm⟩)
      simp only [wp_X11_isOut, wp_X11_isReserve, wp_X11_refuse, wp_X8_isOutOf, wp_X11_isDay, wp_X11_isLand, wp_X11_outside, wp_X8_has, wp_X5_count, lgc_lt, lgc_le, lgc_eq, cmp_s, cmp_t, u2_e]
      try simp only [Int32.lt_iff_toInt_lt, Int32.le_iff_toInt_le]
      simp [n1, n3, n4, i4, t1, t4, b4, ec, ec0, u2_e, -Int32.toInt_sub, k3, k4, q4]
      repeat' (first | with_reducible exact fC | with_reducible refine And.intro ?_ ?_ | with_reducible intro _)
      all_goals try first | rfl | (exfalso; omega) | exact inb_of (by omega) (by omega) | with_reducible exact nI_in2 (by omega) (by omega)
    · skip
      simp only [wp_X11_isOut, wp_X12_isOut, wp_X11_isReserve, wp_X11_refuse, wp_X8_isOutOf, wp_X12_gives, wp_X12_isClause, wp_X12_isDay, wp_X12_isLand, wp_X12_outOf, wp_X12_refuse, wp_X11_isDay, wp_X11_isLand, wp_X11_outside, wp_X8_has, wp_X12_isTreaty, wp_X5_count, lgc_lt, lgc_le, lgc_eq, cmp_s, cmp_t, u2_e]
      try simp only [Int32.lt_iff_toInt_lt, Int32.le_iff_toInt_le]
      simp [n1, n2, n3, n4, t1, t2, t4, b4, b5, k2, k3, k4, ec, ec0, u2_e, -Int32.toInt_sub]
      repeat' (first | with_reducible refine And.intro ?_ ?_ | with_reducible intro _)
      all_goals try first | rfl | (exfalso; omega) | exact inb_of (by omega) (by omega) | exact hP _ _ _ _ (RR_st h 1) | with_reducible exact nI_in2 (by omega) (by omega)
  · skip
    simp only [wp_X11_isOut, wp_X12_isOut, wp_X11_isReserve, wp_X11_refuse, wp_X8_isOutOf, wp_X12_gives, wp_X12_isClause, wp_X12_isDay, wp_X12_isLand, wp_X12_outOf, wp_X12_refuse, wp_X11_isDay, wp_X11_isLand, wp_X11_outside, wp_X8_has, wp_X12_isTreaty, wp_X5_count, lgc_lt, lgc_le, lgc_eq, cmp_s, cmp_t, u2_e]
    try simp only [Int32.lt_iff_toInt_lt, Int32.le_iff_toInt_le]
    simp [n1, n2, n3, n4, t1, t2, t4]
    repeat' (first | with_reducible refine And.intro ?_ ?_ | with_reducible intro _)
    all_goals try first | rfl | (exfalso; omega) | exact inb_of (by omega) (by omega) | exact hP _ _ _ _ (RR_st h 1) | with_reducible exact nI_in2 (by omega) (by omega)

