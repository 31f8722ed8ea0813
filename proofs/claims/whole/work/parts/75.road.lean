theorem rd_in {k j : Nat} (h1 : (13 ≤ k ∧ k < 20) ∨ (21 ≤ k ∧ k < 28)) (h3 : j < 2147483648) : fr_in [(13, 20, 0, 2147483648), (21, 28, 0, 2147483648)] k j = true := by
  rcases h1 with h | h
  · exact fr_in_row (a := 13) (b := 20) (List.mem_cons_self ..) h.1 h.2 h3
  · exact fr_in_row (a := 21) (b := 28) (List.mem_cons_of_mem _ (List.mem_cons_self ..)) h.1 h.2 h3
theorem fn_set {i j : Nat} {x y : Int32} (hi : i < 7) (hj : j < 7) (hij : i ≠ j) {I : Nat → Nat → Int32} {J : Nat → Nat → Int64} {T : Option Nat} {P : (Nat → Nat → Int32) → (Nat → Nat → Int64) → Option Nat → Prop} (hP : ∀ I2, fr_off [(13, 20, 0, 2147483648), (21, 28, 0, 2147483648), (29, 36, 0, 2147483648)] I I2 → (∀ a b, a < 7 → b < 7 → I2 (13 + a) b = if (a = i ∧ b = j) ∨ (a = j ∧ b = i) then x else I (13 + a) b) → (∀ a b, a < 7 → b < 7 → I2 (21 + a) b = if (a = i ∧ b = j) ∨ (a = j ∧ b = i) then y else I (21 + a) b) → (∀ a b, a < 7 → b < 7 → I2 (29 + a) b = fw_v 7 (fw_0 (bI I2 13 7) (bI I2 21 7)) a b) → P I2 J T) : wp_X5_setRoad (nI i) (nI j) x y I J T P := by
  have i5 : (nI i).toNatClampNeg = i := nI_clamp (by omega)
  have j5 : (nI j).toNatClampNeg = j := nI_clamp (by omega)
  have fi : ix_inb (nI i) 7 = true := nI_in2 hi (by decide)
  have fj : ix_inb (nI j) 7 = true := nI_in2 hj (by decide)
  have o1 : fr_off [(13, 20, 0, 2147483648), (21, 28, 0, 2147483648)] I (ix_u2 (ix_u2 (ix_u2 (ix_u2 I (13 + i) j x) (13 + j) i x) (21 + i) j y) (21 + j) i y) := fr_put (rd_in (by omega) (by omega)) (fr_put (rd_in (by omega) (by omega)) (fr_put (rd_in (by omega) (by omega)) (fr_put (rd_in (by omega) (by omega)) fr_refl)))
  unfold wp_X5_setRoad
  rw [re_12 hi, re_12 hj, re_20 hi, re_20 hj, i5, j5]
  refine ⟨fi, fj, fj, fi, fi, fj, fj, fi, fn_find rfl (fun I2 o2 q2 => hP I2 (fr_trans (fr_mono (by decide) o1) (fr_mono (by decide) o2)) (fun a b ha hb => ?_) (fun a b ha hb => ?_) (fun a b ha hb => ?_))⟩
  · rw [fr_row o2 (a := 13) (b := 20) rfl (show 13 ≤ 13 + a by omega) (by omega), u2_c (by omega), u2_c (by omega)]
    by_cases c1 : a = j ∧ b = i
    · rw [if_pos (Or.inr c1), c1.1, c1.2]; simp [u2_e]
    · by_cases c2 : a = i ∧ b = j
      · rw [if_pos (Or.inl c2), c2.1, c2.2, u2_c (by omega)]; simp [u2_e]
      · rw [if_neg (by omega), u2_e, u2_e]
        by_cases e1 : 13 + a = 13 + j
        · rw [if_pos e1, if_neg (by omega), if_neg (by omega)]
        · rw [if_neg e1]
          by_cases e2 : 13 + a = 13 + i
          · rw [if_pos e2, if_neg (by omega)]
          · rw [if_neg e2]
  · rw [fr_row o2 (a := 21) (b := 28) rfl (show 21 ≤ 21 + a by omega) (by omega)]
    by_cases c1 : a = j ∧ b = i
    · rw [if_pos (Or.inr c1), c1.1, c1.2]; simp [u2_e]
    · by_cases c2 : a = i ∧ b = j
      · rw [if_pos (Or.inl c2), c2.1, c2.2, u2_c (by omega)]; simp [u2_e]
      · rw [if_neg (by omega), u2_e, u2_e]
        by_cases e1 : 21 + a = 21 + j
        · rw [if_pos e1, if_neg (by omega), if_neg (by omega), u2_c (by omega), u2_c (by omega)]
        · rw [if_neg e1]
          by_cases e2 : 21 + a = 21 + i
          · rw [if_pos e2, if_neg (by omega), u2_c (by omega), u2_c (by omega)]
          · rw [if_neg e2, u2_c (by omega), u2_c (by omega)]
  · rw [q2 a b ha hb, fr_bI o2 13 7 rfl, fr_bI o2 21 7 rfl]
theorem fn_j69 {i j : Nat} {x y z : Int32} (hi : i < 7) (hj : j < 7) (hij : i ≠ j) (hz : (x = -1 ∧ z = 0) ∨ (¬ x = -1 ∧ z = x)) {I : Nat → Nat → Int32} {J : Nat → Nat → Int64} {T : Option Nat} {P : Int32 → (Nat → Nat → Int32) → (Nat → Nat → Int64) → Option Nat → Prop} (hP : ∀ I2, fr_off [(204, 205, 0, 1), (211, 213, 0, 2147483648)] I I2 → I2 204 0 = 0 → (∀ a b, a < 7 → b < 7 → I2 211 (7 * a + b) = if (a = i ∧ b = j) ∨ (a = j ∧ b = i) then z else I 211 (7 * a + b)) → (∀ a b, a < 7 → b < 7 → I2 212 (7 * a + b) = if (a = i ∧ b = j) ∨ (a = j ∧ b = i) then y else I 212 (7 * a + b)) → P 1 I2 J T) : wj_X12_road_j69 (nI i) (nI j) x y I J T P := by
  have f1 : ix_inb (nI (7 * i + j)) 49 = true := nI_in2 (by omega) (by decide)
  have f2 : ix_inb (nI (7 * j + i)) 49 = true := nI_in2 (by omega) (by decide)
  have c1 : (nI (7 * i + j)).toNatClampNeg = 7 * i + j := nI_clamp (by omega)
  have c2 : (nI (7 * j + i)).toNatClampNeg = 7 * j + i := nI_clamp (by omega)
  have fin : P 1 (ix_u2 (ix_u2 (ix_u2 (ix_u2 (ix_u2 I 211 (7 * i + j) z) 211 (7 * j + i) z) 212 (7 * i + j) y) 212 (7 * j + i) y) 204 0 0) J T := by
    refine hP _ (fr_put rfl (fr_putn rfl (by omega) (fr_putn rfl (by omega) (fr_putn rfl (by omega) (fr_putn rfl (by omega) fr_refl))))) (by simp [u2_e]) (fun a b ha hb => ?_) (fun a b ha hb => ?_)
    · rw [u2_c (by decide), u2_c (by decide), u2_c (by decide), u2_e, u2_e, if_pos rfl, if_pos rfl]
      by_cases k1 : 7 * a + b = 7 * j + i
      · rw [if_pos k1, if_pos (by omega)]
      · rw [if_neg k1]
        by_cases k2 : 7 * a + b = 7 * i + j
        · rw [if_pos k2, if_pos (by omega)]
        · rw [if_neg k2, if_neg (by omega)]
    · rw [u2_c (by decide), u2_e, u2_e, if_pos rfl, if_pos rfl]
      by_cases k1 : 7 * a + b = 7 * j + i
      · rw [if_pos k1, if_pos (by omega)]
      · rw [if_neg k1]
        by_cases k2 : 7 * a + b = 7 * i + j
        · rw [if_pos k2, if_pos (by omega)]
        · rw [if_neg k2, if_neg (by omega), u2_c (by decide), u2_c (by decide)]
  unfold wj_X12_road_j69 wj_X12_road_j88_k211 wj_X12_road_j108_k211 wp_X12_pair wp_X12_is
  dsimp only
  rw [pr_7, pr_7, c1, c2]
  have t1 : ix_01 1 = true := rfl
  rcases hz with ⟨k1, k2⟩ | ⟨k1, k2⟩
  · subst k2
    exact ⟨fun _ => ⟨f1, fun _ => ⟨f2, f1, f2, fun _ => ⟨t1, fin⟩, fun z => absurd rfl z⟩, fun z => absurd k1 z⟩, fun z => absurd k1 z⟩
  · subst k2
    exact ⟨fun z => absurd z k1, fun _ => ⟨f1, fun z => absurd z k1, fun _ => ⟨f2, f1, f2, fun _ => ⟨t1, fin⟩, fun z => absurd rfl z⟩⟩⟩
theorem rk_road {I I2 : Nat → Nat → Int32} {J : Nat → Nat → Int64} (h : RR I J) (o : fr_off [(0, 1, 0, 1), (204, 205, 0, 1), (13, 20, 0, 2147483648), (21, 28, 0, 2147483648), (29, 36, 0, 2147483648), (211, 213, 0, 2147483648)] I I2) (p0 : RL_stat I2) (p1 : RL_road I2) (p2 : RL_carr I2) : RR I2 J := ⟨p0, fr_frac (fr_refl (D := [])) rfl h.frac, fr_tray o (fr_refl (D := [])) rfl h.tray, fr_land o rfl h.land, fr_gold o rfl h.gold, p1, p2, fr_rate o rfl h.rate, fr_tape o rfl h.tape, fr_falt o rfl h.falt, fr_resv o rfl h.resv, fr_flow o rfl h.flow, fr_draw o rfl h.draw, fr_tell o rfl h.tell, fr_acct o (fr_refl (D := [])) rfl h.acct, fr_rule o rfl h.rule, fr_bags o rfl h.bags, fr_hand o rfl h.hand, fr_book o rfl h.book, fr_figs (fr_refl (D := [])) rfl h.figs, fr_case o rfl h.case, fr_wght o rfl h.wght, fr_trty o (fr_refl (D := [])) rfl h.trty⟩
theorem rd_core {i j n d f : Nat} {x y z e : Int32} {I : Nat → Nat → Int32} {J : Nat → Nat → Int64} {T : Option Nat} {Q : (Nat → Nat → Int32) → (Nat → Nat → Int64) → Option Nat → Prop} {P : Int32 → (Nat → Nat → Int32) → (Nat → Nat → Int64) → Option Nat → Prop} (h : RR I J) (hn : n ≤ 7) (n1 : I 8 0 = nI n) (hi : i < n) (hj : j < n) (hij : i ≠ j) (hd : d ≤ 60) (hf : f ≤ 10000) (ex : x = nI d) (ey : y = nI f) (ee : 0 < d → e = nI f) (hz : (z = -1 ∧ x = 0) ∨ (¬ z = -1 ∧ x = z)) (hP : ∀ I2, RR I2 J → P 1 I2 J T) (hQ : ∀ I2, fr_off [(0, 1, 0, 1), (13, 20, 0, 2147483648), (21, 28, 0, 2147483648), (29, 36, 0, 2147483648)] I I2 → wj_X12_road_j69 (nI i) (nI j) z e I2 J T P → Q I2 J T) : wp_X5_setRoad (nI i) (nI j) x y I J T (fun I3 J3 T3 => Q (ix_u2 I3 0 0 0) J3 T3) := by
  refine fn_set (by omega) (by omega) hij (fun I2 o2 q1 q2 q3 => ?_)
  have o3 : fr_off [(0, 1, 0, 1), (13, 20, 0, 2147483648), (21, 28, 0, 2147483648), (29, 36, 0, 2147483648)] I (ix_u2 I2 0 0 0) := fr_put rfl (fr_mono (by decide) o2)
  refine hQ _ o3 (fn_j69 (by omega) (by omega) hij hz (fun I4 o4 s4 m1 m2 => hP _ ?_))
  have rS : ∀ a, a ≠ 0 → (ix_u2 I2 0 0 0) a = I2 a := fun a ha => u2_r ha
  have e1 : ∀ a b, a < 7 → b < 7 → bI I4 13 7 a b = if (a = i ∧ b = j) ∨ (a = j ∧ b = i) then x else I (13 + a) b := fun a b ha hb => by
    rw [bI_lt ha, fr_row o4 (a := 13) (b := 20) rfl (show 13 ≤ 13 + a by omega) (by omega), rS _ (by omega)]
    exact q1 a b ha hb
  have e2 : ∀ a b, a < 7 → b < 7 → bI I4 21 7 a b = if (a = i ∧ b = j) ∨ (a = j ∧ b = i) then y else I (21 + a) b := fun a b ha hb => by
    rw [bI_lt ha, fr_row o4 (a := 21) (b := 28) rfl (show 21 ≤ 21 + a by omega) (by omega), rS _ (by omega)]
    exact q2 a b ha hb
  refine rk_road h (fr_trans (fr_mono (by decide) o3) (fr_mono (by decide) o4)) ?_ ?_ ?_
  · show I4 0 0 = I4 204 0
    rw [s4, fr_at 0 0 o4 rfl]; simp [u2_e]
  · intro a b ha hb
    rw [e1 a b ha hb, e1 b a hb ha, e2 a b ha hb, e2 b a hb ha, m1 a b ha hb, m2 a b ha hb, fr_at 8 0 o4 rfl, fr_at 8 0 o3 rfl, n1, nI_toInt (by omega), fr_rw1 o3 211 rfl, fr_rw1 o3 212 rfl]
    by_cases c : (a = i ∧ b = j) ∨ (a = j ∧ b = i)
    · have c' : (b = i ∧ a = j) ∨ (b = j ∧ a = i) := by omega
      rw [if_pos c, if_pos c', if_pos c, if_pos c', if_pos c, if_pos c]
      exact ⟨d, f, hd, hf, ex, ex, ex, ey, ey, fun w => ⟨ee w, by omega, by omega, by omega⟩⟩
    · have c' : ¬ ((b = i ∧ a = j) ∨ (b = j ∧ a = i)) := by omega
      rw [if_neg c, if_neg c', if_neg c, if_neg c', if_neg c, if_neg c]
      have := h.road a b ha hb
      rw [bI_lt ha, bI_lt hb, bI_lt ha, bI_lt hb, n1, nI_toInt (by omega)] at this
      exact this
  · intro a b ha hb
    have k1 : bI I4 29 7 a b = I2 (29 + a) b := by
      rw [bI_lt ha, fr_row o4 (a := 29) (b := 36) rfl (show 29 ≤ 29 + a by omega) (by omega), rS _ (by omega)]
    have o5 : fr_off [(0, 1, 0, 1), (204, 205, 0, 1), (211, 213, 0, 2147483648)] I2 I4 := fr_trans (fr_put rfl fr_refl) (fr_mono (by decide) o4)
    rw [k1, q3 a b ha hb, fr_bI o5 13 7 rfl, fr_bI o5 21 7 rfl]
theorem rp_road (a : Int32) (b : Int32) (c : Int32) (e : Int32) {I : Nat → Nat → Int32} {J : Nat → Nat → Int64} {T : Option Nat} {P : Int32 → Int32 → (Nat → Nat → Int32) → (Nat → Nat → Int64) → Option Nat → Prop} (h : RR I J) (hP : ∀ v I2 J2 T2, RR I2 J2 → P v v I2 J2 T2) : wp_X11_road a b c e I J T (fun v I1 J1 T1 => wp_X12_road a b c e I1 J1 T1 (fun w I2 J2 T2 => P v w I2 J2 T2)) := by
  obtain ⟨n, hn, n1, n2⟩ := h.land
  have n3 : (nI n - 1).toInt = (n : Int) - 1 := nI_pm1 (by omega)
  have n4 : (nI n).toInt = (n : Int) := nI_toInt (by omega)
  by_cases qab : a = b
  · subst qab
    simp only [wp_X11_road, wp_X12_road, wp_X11_accepted, wp_X11_isPair, wp_X11_outside, wp_X11_refused, wp_X5_hasRoad, wj_X12_road_j38, wj_X12_road_j44, wp_X12_areTwo, wp_X11_isLand, wp_X12_is, wp_X12_pair, wp_X12_isLand, wp_X5_count, lgc_lt, lgc_le, lgc_eq, cmp_s, cmp_t, u2_e]
    try simp only [Int32.lt_iff_toInt_lt, Int32.le_iff_toInt_le]
    simp [n1, n2, n3, n4]
    repeat' (first | with_reducible refine And.intro ?_ ?_ | with_reducible intro _)
    all_goals try first | rfl | (exfalso; omega) | exact inb_of (by omega) (by omega) | exact hP _ _ _ _ (RR_st h 1) | with_reducible exact nI_in2 (by omega) (by omega)
  by_cases q : (0 ≤ a.toInt ∧ a.toInt < n) ∧ (0 ≤ b.toInt ∧ b.toInt < n)
  · obtain ⟨i, hi, rfl⟩ := ii_at q.1.1 q.1.2 (by omega)
    obtain ⟨j, hj, rfl⟩ := ii_at q.2.1 q.2.2 (by omega)
    have hij : i ≠ j := fun z => qab (by rw [z])
    have i4 : (nI i).toInt = (i : Int) := nI_toInt (by omega)
    have j4 : (nI j).toInt = (j : Int) := nI_toInt (by omega)
    have i5 : (nI i).toNatClampNeg = i := nI_clamp (by omega)
    have j5 : (nI j).toNatClampNeg = j := nI_clamp (by omega)
    have x5 : (nI (7 * i + j)).toNatClampNeg = 7 * i + j := nI_clamp (by omega)
    have ei := re_12 (show i < 7 by omega)
    obtain ⟨d, f, hd, hf, e1, e2, e3, e4, -⟩ := rd_ok h n1 hn (show i < 7 by omega) (show j < 7 by omega)
    have d4 : (nI d).toInt = (d : Int) := nI_toInt (by omega)
    have d0 : nI d = 0 ↔ d = 0 := nI_eq (by omega) (by decide)
    have p0 : ∀ {R : Int32 → (Nat → Nat → Int32) → (Nat → Nat → Int64) → Option Nat → Prop}, R 1 I J T → wp_X11_isPair (nI i) (nI j) I J T R := by
      intro R hR
      simp only [wp_X11_isPair, wp_X11_isLand, wp_X11_outside, wp_X5_count, lgc_lt, lgc_le, lgc_eq, cmp_s, cmp_t, u2_e]
      try simp only [Int32.lt_iff_toInt_lt, Int32.le_iff_toInt_le]
      simp [n1, n3, n4, i4, j4, qab]
      repeat' (first | with_reducible refine And.intro ?_ ?_ | with_reducible intro _)
      all_goals try first | rfl | (exfalso; omega) | exact inb_of (by omega) (by omega) | with_reducible exact nI_in2 (by omega) (by omega) | exact hR
    have p1 : ∀ {I9 : Nat → Nat → Int32} {R : Int32 → (Nat → Nat → Int32) → (Nat → Nat → Int64) → Option Nat → Prop}, I9 204 6 = nI n → R 1 I9 J T → wp_X12_areTwo (nI i) (nI j) I9 J T R := by
      intro I9 R n2 hR
      simp only [wp_X12_areTwo, wp_X12_isLand, lgc_lt, lgc_le, lgc_eq, cmp_s, cmp_t, u2_e]
      try simp only [Int32.lt_iff_toInt_lt, Int32.le_iff_toInt_le]
      simp [n2, n4, i4, j4, qab]
      repeat' (first | with_reducible refine And.intro ?_ ?_ | with_reducible intro _)
      all_goals try first | rfl | (exfalso; omega) | exact inb_of (by omega) (by omega) | with_reducible exact nI_in2 (by omega) (by omega) | exact hR
    by_cases qc : c = -1
    · subst qc
      by_cases qd : 0 < d
      · have F : wp_X5_setRoad (nI i) (nI j) 0 0 I J T (fun I3 J3 T3 => wp_X12_road (nI i) (nI j) (-1) e (ix_u2 I3 0 0 0) J3 T3 (fun w I2 J2 T2 => P 1 w I2 J2 T2)) := rd_core (d := 0) (f := 0) (Q := fun I3 J3 T3 => wp_X12_road (nI i) (nI j) (-1) e I3 J3 T3 (fun w I2 J2 T2 => P 1 w I2 J2 T2)) h hn n1 hi hj hij (by omega) (by omega) rfl rfl (fun z => absurd z (by omega)) (Or.inl ⟨rfl, rfl⟩) (fun I2 r => hP _ _ _ _ r) (fun I2 o2 k => by
          unfold wp_X12_road
          refine p1 (by rw [fr_at 204 6 o2 rfl]; exact n2) ⟨fun z => absurd z (by decide), fun _ => ⟨fun _ => ?_, fun z => absurd rfl z⟩⟩
          unfold wj_X12_road_j44 wp_X12_pair
          dsimp only
          rw [pr_7, x5, fr_rw1 o2 211 rfl, e3, d0]
          exact ⟨fun _ => ⟨nI_in2 (by omega) (by decide), fun z => absurd z (by omega), fun _ => k⟩, fun z => absurd rfl z⟩)
        unfold wp_X11_road wp_X5_hasRoad wp_X11_accepted
        refine ⟨fun _ => p0 ⟨fun z => absurd z (by decide), fun _ => ?_⟩, fun z => absurd rfl z⟩
        rw [ei, j5, e1]
        refine ⟨nI_in2 (by omega) (by decide), nI_in2 (by omega) (by decide), fun z => absurd z (fun w => ?_), fun _ => ⟨fun z => absurd z (by decide), fun _ => ?_⟩⟩
        · rw [Int32.le_iff_toInt_le, d4] at w
          have w : (d : Int) ≤ 0 := w
          omega
        · have t1 : ix_01 1 = true := rfl
          simp only [t1, true_and]
          exact F
      · have hd0 : d = 0 := by omega
        subst hd0
        simp only [wp_X11_road, wp_X12_road, wp_X11_accepted, wp_X11_isPair, wp_X11_outside, wp_X11_refused, wp_X5_hasRoad, wj_X12_road_j38, wj_X12_road_j44, wp_X12_areTwo, wp_X11_isLand, wp_X12_is, wp_X12_pair, wp_X12_isLand, wp_X5_count, lgc_lt, lgc_le, lgc_eq, cmp_s, cmp_t, u2_e]
        try simp only [Int32.lt_iff_toInt_lt, Int32.le_iff_toInt_le]
        simp [n1, n2, n3, n4, i4, j4, i5, j5, x5, ei, e1, e3, qab, pr_7, d4, d0]
        repeat' (first | with_reducible refine And.intro ?_ ?_ | with_reducible intro _)
        all_goals try first | rfl | (exfalso; omega) | exact inb_of (by omega) (by omega) | exact hP _ _ _ _ (RR_st h 6) | with_reducible exact nI_in2 (by omega) (by omega)
    · by_cases qg : (1 ≤ c.toInt ∧ c.toInt ≤ 60) ∧ (0 ≤ e.toInt ∧ e.toInt ≤ 10000)
      · obtain ⟨x, hx, rfl⟩ := ii_at (n := 61) (x := c) (by omega) (by omega) (by omega)
        obtain ⟨y, hy, rfl⟩ := ii_at (n := 10001) qg.2.1 (by omega) (by omega)
        have x4 : (nI x).toInt = (x : Int) := nI_toInt (by omega)
        have y4 : (nI y).toInt = (y : Int) := nI_toInt (by omega)
        have F : wp_X5_setRoad (nI i) (nI j) (nI x) (nI y) I J T (fun I3 J3 T3 => wp_X12_road (nI i) (nI j) (nI x) (nI y) (ix_u2 I3 0 0 0) J3 T3 (fun w I2 J2 T2 => P 1 w I2 J2 T2)) := rd_core (d := x) (f := y) (Q := fun I3 J3 T3 => wp_X12_road (nI i) (nI j) (nI x) (nI y) I3 J3 T3 (fun w I2 J2 T2 => P 1 w I2 J2 T2)) h hn n1 hi hj hij (by omega) (by omega) rfl rfl (fun _ => rfl) (Or.inr ⟨qc, rfl⟩) (fun I2 r => hP _ _ _ _ r) (fun I2 o2 k => by
          have n2 : I2 204 6 = nI n := by rw [fr_at 204 6 o2 rfl]; exact n2
          simp only [wp_X12_road, wj_X12_road_j38, wj_X12_road_j44, wp_X12_areTwo, wp_X12_is, wp_X12_pair, wp_X12_isLand, lgc_lt, lgc_le, lgc_eq, cmp_s, cmp_t, u2_e]
          try simp only [Int32.lt_iff_toInt_lt, Int32.le_iff_toInt_le]
          simp [n2, n4, i4, j4, qab, qc, x4, y4]
          repeat' (first | with_reducible exact k | with_reducible refine And.intro ?_ ?_ | with_reducible intro _)
          all_goals try first | rfl | (exfalso; omega) | exact inb_of (by omega) (by omega) | with_reducible exact nI_in2 (by omega) (by omega)
          )
        have p2 : ∀ {R : Int32 → (Nat → Nat → Int32) → (Nat → Nat → Int64) → Option Nat → Prop}, R 0 I J T → wp_X11_outside (nI x).toInt64 1 60 I J T R := by
          intro R hR
          simp only [wp_X11_outside, lgc_lt, lgc_le, lgc_eq, cmp_s, cmp_t, u2_e]
          try simp only [Int32.lt_iff_toInt_lt, Int32.le_iff_toInt_le]
          simp [x4]
          repeat' (first | with_reducible refine And.intro ?_ ?_ | with_reducible intro _)
          all_goals try first | rfl | (exfalso; omega) | exact inb_of (by omega) (by omega) | with_reducible exact nI_in2 (by omega) (by omega) | exact hR
        have p3 : ∀ {R : Int32 → (Nat → Nat → Int32) → (Nat → Nat → Int64) → Option Nat → Prop}, R 0 I J T → wp_X11_outside (nI y).toInt64 0 10000 I J T R := by
          intro R hR
          simp only [wp_X11_outside, lgc_lt, lgc_le, lgc_eq, cmp_s, cmp_t, u2_e]
          try simp only [Int32.lt_iff_toInt_lt, Int32.le_iff_toInt_le]
          simp [y4]
          repeat' (first | with_reducible refine And.intro ?_ ?_ | with_reducible intro _)
          all_goals try first | rfl | (exfalso; omega) | exact inb_of (by omega) (by omega) | with_reducible exact nI_in2 (by omega) (by omega) | exact hR
        unfold wp_X11_road wp_X11_accepted
        refine ⟨fun z => absurd z qc, fun _ => p0 ⟨fun z => absurd z (by decide), fun _ => p2 ⟨fun _ => p3 ⟨fun _ => ?_, fun z => absurd rfl z⟩, fun z => absurd rfl z⟩⟩⟩
        have t1 : ix_01 1 = true := rfl
        simp only [t1, true_and]
        exact F
      · skip
        simp only [wp_X11_road, wp_X12_road, wp_X11_accepted, wp_X11_isPair, wp_X11_outside, wp_X11_refused, wp_X5_hasRoad, wj_X12_road_j38, wj_X12_road_j44, wp_X12_areTwo, wp_X11_isLand, wp_X12_is, wp_X12_pair, wp_X12_isLand, wp_X5_count, lgc_lt, lgc_le, lgc_eq, cmp_s, cmp_t, u2_e]
        try simp only [Int32.lt_iff_toInt_lt, Int32.le_iff_toInt_le]
        simp [n1, n2, n3, n4, i4, j4, qab, qc]
        repeat' (first | with_reducible refine And.intro ?_ ?_ | with_reducible intro _)
        all_goals try first | rfl | (exfalso; omega) | exact inb_of (by omega) (by omega) | exact hP _ _ _ _ (RR_st h 1) | with_reducible exact nI_in2 (by omega) (by omega)
  · skip
    simp only [wp_X11_road, wp_X12_road, wp_X11_accepted, wp_X11_isPair, wp_X11_outside, wp_X11_refused, wp_X5_hasRoad, wj_X12_road_j38, wj_X12_road_j44, wp_X12_areTwo, wp_X11_isLand, wp_X12_is, wp_X12_pair, wp_X12_isLand, wp_X5_count, lgc_lt, lgc_le, lgc_eq, cmp_s, cmp_t, u2_e]
    try simp only [Int32.lt_iff_toInt_lt, Int32.le_iff_toInt_le]
    simp [n1, n2, n3, n4, qab]
    repeat' (first | with_reducible refine And.intro ?_ ?_ | with_reducible intro _)
    all_goals try first | rfl | (exfalso; omega) | exact inb_of (by omega) (by omega) | exact hP _ _ _ _ (RR_st h 1) | with_reducible exact nI_in2 (by omega) (by omega)

