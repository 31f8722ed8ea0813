/-! treaties: the class's reader, for the treaty at 86 -/
def yDF86 : List fr_R := [(44, 45, 8, 12), (44, 45, 15, 19), (50, 51, 0, 2147483648), (86, 87, 1, 2), (93, 94, 0, 2147483648)]
def yA86 (b : Nat → Int32) (n L : Nat) (I0 : Nat → Nat → Int32) (c : Nat) (cd pd : List Int32) (dp : Nat) (pt wa : Int32) (I : Nat → Nat → Int32) (J : Nat → Nat → Int64) : Prop :=
  fr_off yDF86 I0 I ∧ ytok b n (L + 1) I J ∧ I 44 7 = nI (L + 1) ∧ I 44 8 = nI c ∧ c ≤ L ∧ I 44 9 = yk b n c ∧ I 44 10 = 0 ∧ (I 86 1 = nI cd.length ∧ ∀ i x, cd[i]? = some x → I 93 i = x) ∧ (I 44 15 = nI pd.length ∧ ∀ i x, pd[i]? = some x → I 50 i = x) ∧ I 44 16 = nI dp ∧ I 44 17 = pt ∧ I 44 18 = wa ∧ I 44 11 = -1
theorem ytok_u86 {b : Nat → Int32} {n k a j : Nat} {v : Int32} {I : Nat → Nat → Int32} {J : Nat → Nat → Int64} (h : ytok b n k I J) (h1 : a ≠ 46) (h2 : a ≠ 47) : ytok b n k (ix_u2 I a j v) J := fun i hi => by
  obtain ⟨q1, q2, q3, q4⟩ := h i hi
  refine ⟨?_, ?_, q3, q4⟩
  · rw [u2_c (Ne.symm h1)]; exact q1
  · rw [u2_c (Ne.symm h2)]; exact q2
theorem yA_st86 {b : Nat → Int32} {n L c dp : Nat} {I0 I : Nat → Nat → Int32} {J : Nat → Nat → Int64} {cd pd : List Int32} {pt wa : Int32} {T : Option Nat} {P : (Nat → Nat → Int32) → (Nat → Nat → Int64) → Option Nat → Prop} (hL : L ≤ 600) (h : yA86 b n L I0 c cd pd dp pt wa I J) (hc : c + 1 ≤ L) (hP : ∀ I2, yA86 b n L I0 (c + 1) cd pd dp pt wa I2 J → P I2 J T) : wp_X7_step I J T P := by
  obtain ⟨o, tk, e7, e8, hcL, e9, e10, ⟨a1, a2⟩, ⟨p1, p2⟩, d1, d2, d3⟩ := h
  unfold wp_X7_step
  rw [e7, e8, nI_s1, nI_1, nI_clamp (show c + 1 < 2 ^ 31 by omega), (tk (c + 1) (by omega)).1]
  refine ⟨fun _ => ⟨nI_in2 (by omega) (by decide), hP _ ⟨fr_put rfl (fr_put rfl o), ytok_u86 (ytok_u86 tk (by decide) (by decide)) (by decide) (by decide), ?_, ?_, hc, ?_, ?_, ⟨?_, ?_⟩, ⟨?_, ?_⟩, ?_, ?_, ?_⟩⟩, fun z => absurd ((yi_lt (by omega) (by omega)).mpr (by omega)) z⟩
  · simp [u2_e, e7]
  · simp [u2_e]
  · simp [u2_e]
  · simp [u2_e, e10]
  · simp [u2_e, a1]
  · intro i x hx; rw [u2_c (by decide), u2_c (by decide)]; exact a2 i x hx
  · simp [u2_e, p1]
  · intro i x hx; rw [u2_c (by decide), u2_c (by decide)]; exact p2 i x hx
  · simp [u2_e, d1]
  · simp [u2_e, d2]
  · simp [u2_e, d3]
theorem yA_bl86 {b : Nat → Int32} {n L c dp : Nat} {I0 I : Nat → Nat → Int32} {J : Nat → Nat → Int64} {cd pd : List Int32} {pt wa k : Int32} {T : Option Nat} {P : (Nat → Nat → Int32) → (Nat → Nat → Int64) → Option Nat → Prop} (hL : L ≤ 600) (h : yA86 b n L I0 c cd pd dp pt wa I J) (hP : ∀ I2, fr_off yDF86 I0 I2 → I2 44 10 = yft b n c k → I2 44 11 = nI (yps b n c) → P I2 J T) : wp_X7_blame k I J T P := by
  obtain ⟨o, tk, e7, e8, hcL, e9, e10, ⟨a1, a2⟩, ⟨p1, p2⟩, d1, d2, d3⟩ := h
  unfold wp_X7_blame
  rw [e8, e9, nI_clamp (show c < 2 ^ 31 by omega), (tk c (by omega)).2.1]
  have ii : ix_inb (nI c) 601 = true := nI_in2 (by omega) (by decide)
  refine ⟨fun _ => ⟨fun z => ⟨ii, hP _ (fr_put rfl (fr_put rfl o)) ?_ (by simp [u2_e])⟩, fun z => ⟨ii, hP _ (fr_put rfl (fr_put rfl o)) ?_ (by simp [u2_e])⟩⟩, fun z => absurd e10 z⟩
  · unfold yft; rw [if_pos z]; simp [u2_e]
  · unfold yft; rw [if_neg z]; simp [u2_e]
theorem yA_hd86 {b : Nat → Int32} {n L c dp : Nat} {I0 I : Nat → Nat → Int32} {J : Nat → Nat → Int64} {cd pd : List Int32} {pt wa k : Int32} {T : Option Nat} {P : (Nat → Nat → Int32) → (Nat → Nat → Int64) → Option Nat → Prop} (h : yA86 b n L I0 c cd pd dp pt wa I J) (hl : pd.length < 48) (hP : ∀ I2, yA86 b n L I0 c cd (pd ++ [k]) dp pt wa I2 J → P I2 J T) : wp_X7_hold k I J T P := by
  obtain ⟨o, tk, e7, e8, hcL, e9, e10, ⟨a1, a2⟩, ⟨p1, p2⟩, d1, d2, d3⟩ := h
  unfold wp_X7_hold
  rw [p1, nI_clamp (show pd.length < 2 ^ 31 by omega), nI_1]
  refine ⟨fun _ => ⟨nI_in2 hl (by decide), hP _ ⟨fr_put rfl (fr_putn rfl (by omega) o), ytok_u86 (ytok_u86 tk (by decide) (by decide)) (by decide) (by decide), ?_, ?_, hcL, ?_, ?_, ⟨?_, ?_⟩, ⟨?_, ?_⟩, ?_, ?_, ?_⟩⟩, fun z => absurd ((yi_lt (b := 48) (by omega) (by omega)).mpr hl) z⟩
  · simp [u2_e, e7]
  · simp [u2_e, e8]
  · simp [u2_e, e9]
  · simp [u2_e, e10]
  · simp [u2_e, a1]
  · intro i x hx; rw [u2_c (by decide), u2_c (by decide)]; exact a2 i x hx
  · rw [List.length_append, List.length_singleton]; simp [u2_e]
  · intro i x hx
    rw [u2_c (by decide)]
    by_cases e : i < pd.length
    · rw [List.getElem?_append_left e] at hx
      rw [u2_j (by omega)]; exact p2 i x hx
    · rw [List.getElem?_append_right (by omega)] at hx
      have : i = pd.length := by
        have := (List.getElem?_eq_some_iff.mp hx).1
        rw [List.length_singleton] at this
        omega
      subst this
      rw [Nat.sub_self] at hx
      rw [← Option.some.inj hx]; simp [u2_e]
  · simp [u2_e, d1]
  · simp [u2_e, d2]
  · simp [u2_e, d3]
theorem yA_em86 {b : Nat → Int32} {n L c dp : Nat} {I0 I : Nat → Nat → Int32} {J : Nat → Nat → Int64} {cd pd : List Int32} {pt wa k : Int32} {T : Option Nat} {P : (Nat → Nat → Int32) → (Nat → Nat → Int64) → Option Nat → Prop} (h : yA86 b n L I0 c cd pd dp pt wa I J) (hl : cd.length < 600) (hP : ∀ I2, yA86 b n L I0 c (cd ++ [k]) pd dp pt wa I2 J → P I2 J T) : wp_X9_emit_86 k I J T P := by
  obtain ⟨o, tk, e7, e8, hcL, e9, e10, ⟨a1, a2⟩, ⟨p1, p2⟩, d1, d2, d3⟩ := h
  unfold wp_X9_emit_86
  rw [a1, nI_clamp (show cd.length < 2 ^ 31 by omega), nI_1]
  refine ⟨fun _ => ⟨nI_in2 hl (by decide), hP _ ⟨fr_put rfl (fr_putn rfl (by omega) o), ytok_u86 (ytok_u86 tk (by decide) (by decide)) (by decide) (by decide), ?_, ?_, hcL, ?_, ?_, ⟨?_, ?_⟩, ⟨?_, ?_⟩, ?_, ?_, ?_⟩⟩, fun z => absurd ((yi_lt (b := 600) (by omega) (by omega)).mpr hl) z⟩
  · simp [u2_e, e7]
  · simp [u2_e, e8]
  · simp [u2_e, e9]
  · simp [u2_e, e10]
  · rw [List.length_append, List.length_singleton]; simp [u2_e]
  · intro i x hx
    rw [u2_c (by decide)]
    by_cases e : i < cd.length
    · rw [List.getElem?_append_left e] at hx
      rw [u2_j (by omega)]; exact a2 i x hx
    · rw [List.getElem?_append_right (by omega)] at hx
      have : i = cd.length := by
        have := (List.getElem?_eq_some_iff.mp hx).1
        rw [List.length_singleton] at this
        omega
      subst this
      rw [Nat.sub_self] at hx
      rw [← Option.some.inj hx]; simp [u2_e]
  · simp [u2_e, p1]
  · intro i x hx; rw [u2_c (by decide), u2_c (by decide)]; exact p2 i x hx
  · simp [u2_e, d1]
  · simp [u2_e, d2]
  · simp [u2_e, d3]
theorem yA_pt86 {b : Nat → Int32} {n L c dp : Nat} {I0 I : Nat → Nat → Int32} {J : Nat → Nat → Int64} {cd pd : List Int32} {pt wa k : Int32} (h : yA86 b n L I0 c cd pd dp pt wa I J) : yA86 b n L I0 c cd pd dp k wa (ix_u2 I 44 17 k) J := by
  obtain ⟨o, tk, e7, e8, hcL, e9, e10, ⟨a1, a2⟩, ⟨p1, p2⟩, d1, d2, d3⟩ := h
  refine ⟨fr_put rfl o, ytok_u86 tk (by decide) (by decide), by simp [u2_e, e7], by simp [u2_e, e8], hcL, by simp [u2_e, e9], by simp [u2_e, e10], ⟨by simp [u2_e, a1], ?_⟩, ⟨by simp [u2_e, p1], ?_⟩, by simp [u2_e, d1], by simp [u2_e], by simp [u2_e, d3]⟩
  · intro i x hx; rw [u2_c (by decide)]; exact a2 i x hx
  · intro i x hx; rw [u2_c (by decide)]; exact p2 i x hx
theorem yA_wa86 {b : Nat → Int32} {n L c dp : Nat} {I0 I : Nat → Nat → Int32} {J : Nat → Nat → Int64} {cd pd : List Int32} {pt wa k : Int32} (h : yA86 b n L I0 c cd pd dp pt wa I J) : yA86 b n L I0 c cd pd dp pt k (ix_u2 I 44 18 k) J := by
  obtain ⟨o, tk, e7, e8, hcL, e9, e10, ⟨a1, a2⟩, ⟨p1, p2⟩, d1, d2, d3⟩ := h
  refine ⟨fr_put rfl o, ytok_u86 tk (by decide) (by decide), by simp [u2_e, e7], by simp [u2_e, e8], hcL, by simp [u2_e, e9], by simp [u2_e, e10], ⟨by simp [u2_e, a1], ?_⟩, ⟨by simp [u2_e, p1], ?_⟩, by simp [u2_e, d1], by simp [u2_e, d2], by simp [u2_e, d3]⟩
  · intro i x hx; rw [u2_c (by decide)]; exact a2 i x hx
  · intro i x hx; rw [u2_c (by decide)]; exact p2 i x hx
theorem yA_dp86 {b : Nat → Int32} {n L c dp k : Nat} {I0 I : Nat → Nat → Int32} {J : Nat → Nat → Int64} {cd pd : List Int32} {pt wa : Int32} (h : yA86 b n L I0 c cd pd dp pt wa I J) : yA86 b n L I0 c cd pd k pt wa (ix_u2 I 44 16 (nI k)) J := by
  obtain ⟨o, tk, e7, e8, hcL, e9, e10, ⟨a1, a2⟩, ⟨p1, p2⟩, d1, d2, d3⟩ := h
  refine ⟨fr_put rfl o, ytok_u86 tk (by decide) (by decide), by simp [u2_e, e7], by simp [u2_e, e8], hcL, by simp [u2_e, e9], by simp [u2_e, e10], ⟨by simp [u2_e, a1], ?_⟩, ⟨by simp [u2_e, p1], ?_⟩, by simp [u2_e], by simp [u2_e, d2], by simp [u2_e, d3]⟩
  · intro i x hx; rw [u2_c (by decide)]; exact a2 i x hx
  · intro i x hx; rw [u2_c (by decide)]; exact p2 i x hx
theorem yA_pp86 {b : Nat → Int32} {n L c dp : Nat} {I0 I : Nat → Nat → Int32} {J : Nat → Nat → Int64} {cd pd : List Int32} {pt wa k : Int32} (h : yA86 b n L I0 c cd (pd ++ [k]) dp pt wa I J) : I 44 15 = nI (pd.length + 1) ∧ I 50 pd.length = k ∧ yA86 b n L I0 c cd pd dp pt wa (ix_u2 I 44 15 (nI pd.length)) J := by
  obtain ⟨o, tk, e7, e8, hcL, e9, e10, ⟨a1, a2⟩, ⟨p1, p2⟩, d1, d2, d3⟩ := h
  refine ⟨by rw [p1, List.length_append, List.length_singleton], p2 _ _ (app_r (l := pd) (m := [k]) (j := 0) rfl), fr_put rfl o, ytok_u86 tk (by decide) (by decide), by simp [u2_e, e7], by simp [u2_e, e8], hcL, by simp [u2_e, e9], by simp [u2_e, e10], ⟨by simp [u2_e, a1], ?_⟩, ⟨by simp [u2_e], ?_⟩, by simp [u2_e, d1], by simp [u2_e, d2], by simp [u2_e, d3]⟩
  · intro i x hx; rw [u2_c (by decide)]; exact a2 i x hx
  · intro i x hx; rw [u2_c (by decide)]; exact p2 i x (app_l hx)
theorem yA_uw86 {b : Nat → Int32} {n L c dp : Nat} {I0 : Nat → Nat → Int32} {J : Nat → Nat → Int64} {base : List Int32} {pt wa bd : Int32} {P : (Nat → Nat → Int32) → (Nat → Nat → Int64) → Option Nat → Prop} (hb : ylast base bd) (hb48 : base.length ≤ 48) : ∀ {xs cd : List Int32} {I : Nat → Nat → Int32}, yA86 b n L I0 c cd (base ++ xs.reverse) dp pt wa I J → (∀ x, x ∈ xs → ¬ ybn x < bd) → base.length + xs.length ≤ 48 → cd.length + xs.length ≤ 600 → (∀ I2, yA86 b n L I0 c (cd ++ yneg xs) base dp pt wa I2 J → P I2 J (some 86)) → wp_X7_unwind bd I J (some 86) P := by
  intro xs cd I h0 hx0 hl0 hc0 hP
  unfold wp_X7_unwind
  intro V hV
  have key : ∀ (xs cd : List Int32) (I : Nat → Nat → Int32), yA86 b n L I0 c cd (base ++ xs.reverse) dp pt wa I J → (∀ x, x ∈ xs → ¬ ybn x < bd) → base.length + xs.length ≤ 48 → cd.length + xs.length ≤ 600 → (∀ I2, yA86 b n L I0 c (cd ++ yneg xs) base dp pt wa I2 J → P I2 J (some 86)) → V bd I J (some 86) := by
    intro xs
    induction xs with
    | nil =>
      intro cd I h hx hl hc hP
      rw [List.reverse_nil, List.append_nil] at h
      have e : yneg [] = [] := rfl
      rw [e, List.append_nil] at hP
      have fin := hP I h
      have p1 := h.2.2.2.2.2.2.2.2.1.1
      have p2 := h.2.2.2.2.2.2.2.2.1.2
      apply hV
      unfold wb_X7_unwind_0
      refine ⟨fun _ => fin, fun z => ?_⟩
      have ne : base ≠ [] := fun e => by
        rw [p1, e] at z
        exact z (by decide)
      obtain ⟨y, hy⟩ : ∃ y, base.getLast? = some y := ⟨base.getLast ne, List.getLast?_eq_some_getLast ne⟩
      have hpos : 0 < base.length := List.length_pos_iff.mpr ne
      rw [p1, nI_dec hpos, nI_clamp (show base.length - 1 < 2 ^ 31 by omega)]
      have ey : I 50 (base.length - 1) = y := p2 _ _ (by rw [← List.getLast?_eq_getElem?]; exact hy)
      rw [ey]
      exact ⟨nI_in2 (by omega) (by decide), yA_bn ⟨fun _ => fin, fun w => absurd (hb y hy) w⟩⟩
    | cons x xs ih =>
      intro cd I h hx hl hc hP
      rw [List.reverse_cons, ← List.append_assoc] at h
      rw [List.length_cons] at hl hc
      obtain ⟨p1, p2, p3⟩ := yA_pp86 h
      have ll : (base ++ xs.reverse).length = base.length + xs.length := by rw [List.length_append, List.length_reverse]
      have ii : ix_inb (nI (base ++ xs.reverse).length) 48 = true := nI_in2 (by omega) (by decide)
      have dc : (nI (base ++ xs.reverse).length).toNatClampNeg = (base ++ xs.reverse).length := nI_clamp (by omega)
      apply hV
      unfold wb_X7_unwind_0
      rw [p1, nI_s1, dc, p2]
      refine ⟨fun z => absurd ((yi_le (b := 0) (by omega) (by omega)).mp z) (by omega), fun _ => ⟨ii, yA_bn ⟨fun w => absurd w (hx x (List.mem_cons_self ..)), fun _ => ⟨Or.inr (Or.inr (Or.inr rfl)), ?_⟩⟩⟩⟩
      rw [p1, nI_s1, dc, p2]
      have go : ix_inb (nI (base ++ xs.reverse).length) 48 = true ∧ wp_X9_emit_86 (-1 - x) (ix_u2 I 44 15 (nI (base ++ xs.reverse).length)) J (some 86) (fun I13 J13 T13 => V bd I13 J13 T13) := by
        refine ⟨ii, yA_em86 p3 (by omega) (fun I2 h2 => ih (cd ++ [-1 - x]) I2 h2 (fun z hz => hx z (List.mem_cons_of_mem _ hz)) (by omega) (by rw [List.length_append, List.length_singleton]; omega) (fun I3 h3 => hP I3 ?_))⟩
        rw [List.append_assoc] at h3
        exact h3
      exact ⟨fun z => absurd z (by decide), fun z => absurd z (by decide), fun z => absurd z (by decide), fun _ => go⟩
  exact key xs cd I h0 hx0 hl0 hc0 hP
