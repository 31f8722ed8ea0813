/-! treaties: the class reads a clause, for the treaty at 86 -/
def yDG86 : List fr_R := [(44, 45, 8, 12), (44, 45, 15, 19), (50, 51, 0, 2147483648), (86, 94, 0, 2147483648)]
/-- behind a fault -/
theorem yx_tk86 {w : Int32} {I : Nat → Nat → Int32} {J : Nat → Nat → Int64} {T : Option Nat} {P : Int32 → (Nat → Nat → Int32) → (Nat → Nat → Int64) → Option Nat → Prop} (h : ¬ I 44 10 = 0) (hP : P 0 I J T) : wp_X7_take w I J T P := by
  unfold wp_X7_take
  exact ⟨fun z => absurd z h, fun _ => hP⟩
theorem yx_nd86 {w : Int32} {I : Nat → Nat → Int32} {J : Nat → Nat → Int64} {T : Option Nat} {P : (Nat → Nat → Int32) → (Nat → Nat → Int64) → Option Nat → Prop} (h : ¬ I 44 10 = 0) (hP : P I J T) : wp_X7_need w I J T P := by
  unfold wp_X7_need
  refine yx_tk86 h ⟨fun _ => ?_, fun z => absurd rfl z⟩
  unfold wp_X7_blame
  exact ⟨fun z => absurd z h, fun _ => hP⟩
theorem yx_fm86 {w : Int32} {I : Nat → Nat → Int32} {J : Nat → Nat → Int64} {T : Option Nat} {P : (Nat → Nat → Int32) → (Nat → Nat → Int64) → Option Nat → Prop} (h : ¬ I 44 10 = 0) (hP : ∀ I2, fr_off [(44, 45, 15, 19)] I I2 → P I2 J T) : wp_X7_takeFormula w I J T P := by
  unfold wp_X7_takeFormula
  intro V hV
  have o : fr_off [(44, 45, 15, 19)] I (ix_u2 (ix_u2 (ix_u2 (ix_u2 I 44 15 0) 44 16 0) 44 17 w) 44 18 1) := fr_put rfl (fr_put rfl (fr_put rfl (fr_put rfl fr_refl)))
  have h2 : ¬ (ix_u2 (ix_u2 (ix_u2 (ix_u2 I 44 15 0) 44 16 0) 44 17 w) 44 18 1) 44 10 = 0 := by rw [fr_at 44 10 o rfl]; exact h
  apply hV
  unfold wb_X7_takeFormula_22
  exact ⟨fun _ => ⟨fun z => absurd z h2, fun _ => hP _ o⟩, fun _ => hP _ o⟩
theorem yx_8186 {x1 x2 x3 x4 : Int32} {I : Nat → Nat → Int32} {J : Nat → Nat → Int64} {P : (Nat → Nat → Int32) → (Nat → Nat → Int64) → Option Nat → Prop} (h : ¬ I 44 10 = 0) (hP : ∀ I2, fr_off [(44, 45, 15, 19)] I I2 → P I2 J (some 86)) : wj_X7_takeClause_j81 x1 x2 x3 x4 I J (some 86) P := by
  unfold wj_X7_takeClause_j81
  have go : wp_X9_length_86 I J (some 86) (fun v23 I23 J23 T23 => wp_X7_need 5 I23 J23 T23 (fun I24 J24 T24 => wp_X7_takeFormula 3 I24 J24 T24 (fun I25 J25 T25 => wp_X7_need 59 I25 J25 T25 (fun I26 J26 T26 => ((I26 44 10 = 0 → ix_tn T26 ∧ ((T26 = some 59 → wp_X9_addClause_59 x1 x2 x3 x4 v23 I26 J26 (some 59) (fun I32 J32 T32 => P I32 J32 T32)) ∧ (T26 = some 68 → wp_X9_addClause_68 x1 x2 x3 x4 v23 I26 J26 (some 68) (fun I33 J33 T33 => P I33 J33 T33)) ∧ (T26 = some 77 → wp_X9_addClause_77 x1 x2 x3 x4 v23 I26 J26 (some 77) (fun I34 J34 T34 => P I34 J34 T34)) ∧ (T26 = some 86 → wp_X9_addClause_86 x1 x2 x3 x4 v23 I26 J26 (some 86) (fun I35 J35 T35 => P I35 J35 T35)))) ∧ (¬ I26 44 10 = 0 → P I26 J26 T26)))))) := by
    unfold wp_X9_length_86
    refine yx_nd86 h (yx_fm86 h (fun I2 o2 => ?_))
    have h2 : ¬ I2 44 10 = 0 := by rw [fr_at 44 10 o2 rfl]; exact h
    exact yx_nd86 h2 ⟨fun z => absurd z h2, fun _ => hP I2 o2⟩
  exact ⟨Or.inr (Or.inr (Or.inr rfl)), ⟨fun z => absurd z (by decide), fun z => absurd z (by decide), fun z => absurd z (by decide), fun _ => go⟩⟩
theorem yx_5886 {x1 x2 s0 : Int32} {I : Nat → Nat → Int32} {J : Nat → Nat → Int64} {P : (Nat → Nat → Int32) → (Nat → Nat → Int64) → Option Nat → Prop} (h : ¬ I 44 10 = 0) (hP : ∀ I2, fr_off [(44, 45, 15, 19)] I I2 → P I2 J (some 86)) : wj_X7_takeClause_j58 x1 x2 s0 I J (some 86) P := by
  unfold wj_X7_takeClause_j58
  have go : wp_X9_length_86 I J (some 86) (fun v16 I16 J16 T16 => wp_X7_take 4 I16 J16 T16 (fun v17 I17 J17 T17 => ((v17 = 0 → wj_X7_takeClause_j81 x1 x2 s0 v16 I17 J17 T17 P) ∧ (¬ v17 = 0 → wp_X7_takeFormula 0 I17 J17 T17 (fun I75 J75 T75 => wj_X7_takeClause_j81 x1 x2 s0 v16 I75 J75 T75 P))))) := by
    unfold wp_X9_length_86
    exact yx_tk86 h ⟨fun _ => yx_8186 h hP, fun z => absurd rfl z⟩
  exact ⟨Or.inr (Or.inr (Or.inr rfl)), ⟨fun z => absurd z (by decide), fun z => absurd z (by decide), fun z => absurd z (by decide), fun _ => go⟩⟩
theorem yx_4186 {x1 s0 : Int32} {I : Nat → Nat → Int32} {J : Nat → Nat → Int64} {P : (Nat → Nat → Int32) → (Nat → Nat → Int64) → Option Nat → Prop} (h : ¬ I 44 10 = 0) (hP : ∀ I2, fr_off [(44, 45, 15, 19)] I I2 → P I2 J (some 86)) : wj_X7_takeClause_j41 x1 s0 I J (some 86) P := by
  unfold wj_X7_takeClause_j41
  exact yx_tk86 h ⟨fun _ => yx_5886 h hP, fun z => absurd rfl z⟩
theorem yx_2586 {x1 : Int32} {I : Nat → Nat → Int32} {J : Nat → Nat → Int64} {P : (Nat → Nat → Int32) → (Nat → Nat → Int64) → Option Nat → Prop} (h : ¬ I 44 10 = 0) (hP : ∀ I2, fr_off [(44, 45, 15, 19)] I I2 → P I2 J (some 86)) : wj_X7_takeClause_j25 x1 I J (some 86) P := by
  unfold wj_X7_takeClause_j25
  exact yx_tk86 h ⟨fun _ => yx_4186 h hP, fun z => absurd rfl z⟩
/-- the class within a treaty -/
def yB86 (b : Nat → Int32) (n L : Nat) (I0 : Nat → Nat → Int32) (c : Nat) (cd : List Int32) (I : Nat → Nat → Int32) (J : Nat → Nat → Int64) : Prop :=
  fr_off yDG86 I0 I ∧ ytok b n (L + 1) I J ∧ I 44 7 = nI (L + 1) ∧ I 44 8 = nI c ∧ c ≤ L ∧ I 44 9 = yk b n c ∧ I 44 10 = 0 ∧ I 86 1 = nI cd.length ∧ (∀ i x, cd[i]? = some x → I 93 i = x) ∧ I 44 11 = -1
theorem yB_st86 {b : Nat → Int32} {n L c : Nat} {I0 I : Nat → Nat → Int32} {J : Nat → Nat → Int64} {cd : List Int32} {T : Option Nat} {P : (Nat → Nat → Int32) → (Nat → Nat → Int64) → Option Nat → Prop} (hL : L ≤ 600) (h : yB86 b n L I0 c cd I J) (hc : c + 1 ≤ L) (hP : ∀ I2, fr_off [(44, 45, 8, 10)] I I2 → yB86 b n L I0 (c + 1) cd I2 J → P I2 J T) : wp_X7_step I J T P := by
  obtain ⟨o, tk, e7, e8, hcL, e9, e10, a1, a2, a3⟩ := h
  unfold wp_X7_step
  rw [e7, e8, nI_s1, nI_1, nI_clamp (show c + 1 < 2 ^ 31 by omega), (tk (c + 1) (by omega)).1]
  refine ⟨fun _ => ⟨nI_in2 (by omega) (by decide), hP _ (fr_put rfl (fr_put rfl fr_refl)) ⟨fr_put rfl (fr_put rfl o), ytok_u86 (ytok_u86 tk (by decide) (by decide)) (by decide) (by decide), ?_, ?_, hc, ?_, ?_, ?_, ?_, ?_⟩⟩, fun z => absurd ((yi_lt (by omega) (by omega)).mpr (by omega)) z⟩
  · simp [u2_e, e7]
  · simp [u2_e]
  · simp [u2_e]
  · simp [u2_e, e10]
  · simp [u2_e, a1]
  · intro i x hx; rw [u2_c (by decide), u2_c (by decide)]; exact a2 i x hx
  · simp [u2_e, a3]
theorem yB_bl86 {b : Nat → Int32} {n L c : Nat} {I0 I : Nat → Nat → Int32} {J : Nat → Nat → Int64} {cd : List Int32} {k : Int32} {T : Option Nat} {P : (Nat → Nat → Int32) → (Nat → Nat → Int64) → Option Nat → Prop} (hL : L ≤ 600) (h : yB86 b n L I0 c cd I J) (hP : ∀ I2, fr_off yDG86 I0 I2 → I2 44 10 = yft b n c k → I2 44 11 = nI (yps b n c) → P I2 J T) : wp_X7_blame k I J T P := by
  obtain ⟨o, tk, e7, e8, hcL, e9, e10, a1, a2, a3⟩ := h
  unfold wp_X7_blame
  rw [e8, e9, nI_clamp (show c < 2 ^ 31 by omega), (tk c (by omega)).2.1]
  have ii : ix_inb (nI c) 601 = true := nI_in2 (by omega) (by decide)
  refine ⟨fun _ => ⟨fun z => ⟨ii, hP _ (fr_put rfl (fr_put rfl o)) ?_ (by simp [u2_e])⟩, fun z => ⟨ii, hP _ (fr_put rfl (fr_put rfl o)) ?_ (by simp [u2_e])⟩⟩, fun z => absurd e10 z⟩
  · unfold yft; rw [if_pos z]; simp [u2_e]
  · unfold yft; rw [if_neg z]; simp [u2_e]
theorem yB_tk86 {b : Nat → Int32} {n L c : Nat} {I0 I : Nat → Nat → Int32} {J : Nat → Nat → Int64} {cd : List Int32} {w : Int32} {T : Option Nat} {P : Int32 → (Nat → Nat → Int32) → (Nat → Nat → Int64) → Option Nat → Prop} (hL : L ≤ 600) (hL1 : yk b n L = 21 ∨ yk b n L = 22) (hw : w ≠ 21 ∧ w ≠ 22) (h : yB86 b n L I0 c cd I J) (h1 : yk b n c = w → c + 1 ≤ L → ∀ I2, fr_off [(44, 45, 8, 10)] I I2 → yB86 b n L I0 (c + 1) cd I2 J → P 1 I2 J T) (h0 : ¬ yk b n c = w → P 0 I J T) : wp_X7_take w I J T P := by
  have e9 := h.2.2.2.2.2.1
  have e10 := h.2.2.2.2.2.2.1
  unfold wp_X7_take
  rw [e9]
  refine ⟨fun _ => ⟨fun y => ?_, h0⟩, fun z => absurd e10 z⟩
  have hcL := yKL hL1 h.2.2.2.2.1 y hw.1 hw.2
  exact yB_st86 hL h hcL (fun I2 o2 h2 => h1 y hcL I2 o2 h2)
theorem yB_nd86 {b : Nat → Int32} {n L c : Nat} {I0 I : Nat → Nat → Int32} {J : Nat → Nat → Int64} {cd : List Int32} {w : Int32} {T : Option Nat} {P : (Nat → Nat → Int32) → (Nat → Nat → Int64) → Option Nat → Prop} (hL : L ≤ 600) (hL1 : yk b n L = 21 ∨ yk b n L = 22) (hw : w ≠ 21 ∧ w ≠ 22) (h : yB86 b n L I0 c cd I J) (h1 : yk b n c = w → c + 1 ≤ L → ∀ I2, fr_off [(44, 45, 8, 10)] I I2 → yB86 b n L I0 (c + 1) cd I2 J → P I2 J T) (h0 : ¬ yk b n c = w → ∀ I2, fr_off yDG86 I0 I2 → I2 44 10 = yft b n c 2 → I2 44 11 = nI (yps b n c) → P I2 J T) : wp_X7_need w I J T P := by
  unfold wp_X7_need
  exact yB_tk86 hL hL1 hw h (fun y hc I2 o2 h2 => ⟨fun z => absurd z (by decide), fun _ => h1 y hc I2 o2 h2⟩) (fun y => ⟨fun _ => yB_bl86 hL h (h0 y), fun z => absurd rfl z⟩)
/-- into a formula, and out of it -/
theorem yB_A86 {b : Nat → Int32} {n L c : Nat} {I0 I : Nat → Nat → Int32} {J : Nat → Nat → Int64} {cd : List Int32} {w : Int32} (h : yB86 b n L I0 c cd I J) : yA86 b n L I c cd [] 0 w 1 (ix_u2 (ix_u2 (ix_u2 (ix_u2 I 44 15 0) 44 16 0) 44 17 w) 44 18 1) J := by
  obtain ⟨o, tk, e7, e8, hcL, e9, e10, a1, a2, a3⟩ := h
  refine ⟨fr_put rfl (fr_put rfl (fr_put rfl (fr_put rfl fr_refl))), ytok_u86 (ytok_u86 (ytok_u86 (ytok_u86 tk (by decide) (by decide)) (by decide) (by decide)) (by decide) (by decide)) (by decide) (by decide), by simp [u2_e, e7], by simp [u2_e, e8], hcL, by simp [u2_e, e9], by simp [u2_e, e10], ⟨by simp [u2_e, a1], ?_⟩, ⟨by simp [u2_e]; rfl, ?_⟩, by simp [u2_e]; rfl, by simp [u2_e], by simp [u2_e, a3]⟩
  · intro i x hx; rw [u2_c (by decide), u2_c (by decide), u2_c (by decide), u2_c (by decide)]; exact a2 i x hx
  · intro i x hx; cases hx
theorem yA_B86 {b : Nat → Int32} {n L c dp : Nat} {I0 I I2 : Nat → Nat → Int32} {J : Nat → Nat → Int64} {cd pd : List Int32} {pt wa : Int32} (hO : fr_off yDG86 I0 I) (h : yA86 b n L I c cd pd dp pt wa I2 J) : yB86 b n L I0 c cd I2 J := by
  obtain ⟨o, tk, e7, e8, hcL, e9, e10, ⟨a1, a2⟩, -, -, -, -, a3⟩ := h
  exact ⟨fr_trans hO (fr_mono (by decide) o), tk, e7, e8, hcL, e9, e10, a1, a2, a3⟩
set_option maxHeartbeats 4000000 in
theorem yf_li86 {b : Nat → Int32} {n L : Nat} {I0 : Nat → Nat → Int32} {J : Nat → Nat → Int64} {cd : List Int32} {T : Option Nat} {V : Int32 → Int32 → Int32 → (Nat → Nat → Int32) → (Nat → Nat → Int64) → Option Nat → Prop} {P : Int32 → (Nat → Nat → Int32) → (Nat → Nat → Int64) → Option Nat → Prop} (hL : L ≤ 600) (hL1 : yk b n L = 21 ∨ yk b n L = 22) (hv : ∀ c, yk b n c = 20 → ∃ m : Nat, m ≤ 9999999 ∧ yv b n c = lZ m) (hV : ∀ x1 x2 x3 I J T, wb_X7_takeList_6 x1 x2 x3 I J T V P → V x1 x2 x3 I J T) : ∀ m c mm I Is, L < c + m → mm < 128 → fr_off [(44, 45, 8, 10)] Is I → yB86 b n L I0 c cd I J → (∀ kk c' y I2, yli (yk b n) (yv b n) m c (nI mm) = .inl (kk, c') → fr_off yDG86 I0 I2 → I2 44 10 = yft b n c' kk → I2 44 11 = nI (yps b n c') → P y I2 J T) → (∀ y c' I2, yli (yk b n) (yv b n) m c (nI mm) = .inr (y, c') → fr_off [(44, 45, 8, 10)] Is I2 → yB86 b n L I0 c' cd I2 J → P y I2 J T) → V (nI mm) 1 (nI (ybt mm)) I J T := by
  intro m
  induction m with
  | zero => intro c mm I Is h1 _ _ h; have := h.2.2.2.2.1; omega
  | succ m ih =>
    intro c mm I Is hm hmm hIs h hbad hok
    have hc := h.2.2.2.2.1
    have e8 := h.2.2.2.1
    have e9 := h.2.2.2.2.2.1
    have e10 := h.2.2.2.2.2.2.1
    obtain ⟨b7, bj⟩ := ybt_1 ⟨mm, hmm⟩
    simp only at b7 bj
    have tk := h.2.1 c (by omega)
    have ov : ∀ (x y : Int32) (k : Nat) I2, P x I2 J T → V x 0 (nI k) I2 J T := by
      intro x y k I2 hp
      apply hV
      unfold wb_X7_takeList_6
      exact ⟨fun _ => ⟨fun _ => hp, fun z => absurd rfl z⟩, fun _ => hp⟩
    have fail : ∀ kk : Int32, ykp kk → (∀ I2, fr_off yDG86 I0 I2 → I2 44 10 = yft b n c kk → I2 44 11 = nI (yps b n c) → P (nI mm) I2 J T) → wp_X7_blame kk I J T (fun I15 J15 T15 => wp_X7_take 44 I15 J15 T15 (fun v16 I16 J16 T16 => V (nI mm) v16 (nI (ybt mm) + 1) I16 J16 T16)) := by
      intro kk hkk hb
      refine yB_bl86 hL h (fun I2 q1 q2 q3 => yx_tk86 (by rw [q2]; exact (yft_q hkk).2.1) ?_)
      rw [nI_1]
      exact ov _ 0 _ I2 (hb I2 q1 q2 q3)
    rw [yli] at hbad hok
    apply hV
    unfold wb_X7_takeList_6
    rw [e8, e9, nI_clamp (show c < 2 ^ 31 by omega), lz_7]
    refine ⟨fun _ => ⟨fun z => absurd z (by decide), fun _ => ⟨nI_in2 (by omega) (by decide), ?_⟩⟩, fun z => absurd ((yi_le (b := 7) (by omega) (by omega)).mpr b7) z⟩
    refine ⟨fun h20 => ?_, fun h20 => ?_⟩
    · rw [if_pos h20] at hbad hok
      rw [tk.2.2.1 h20]
      refine ⟨fun h6 => ?_, fun h6 => ?_⟩
      · rw [if_pos h6] at hbad hok
        obtain ⟨v, hv1, hv2⟩ := hv c h20
        have h6' : (v : Int) ≤ 6 := by
          rw [hv2, show (6 : Int64) = lZ 6 from rfl, lZ_le (by omega) (by omega)] at h6
          exact h6
        have e32 : (yv b n c).toInt32 = nI v := by rw [hv2, lZ_32]; rfl
        rw [e32] at hbad hok ⊢
        obtain ⟨b1, b2, b3⟩ := yli_b1 ⟨mm, hmm⟩ ⟨v, by omega⟩
        simp only at b1 b2 b3
        refine ⟨fun hz => ?_, fun hz => ?_⟩
        · rw [if_pos hz, b1] at hbad hok
          have bb := bj ⟨v, by omega⟩ hz
          simp only at bb
          rw [b1, nI_1, ← bb]
          refine yB_st86 hL h (yKL hL1 hc h20 (by decide) (by decide)) (fun I2 o2 h2 => ?_)
          refine yB_tk86 hL hL1 ⟨by decide, by decide⟩ h2 (fun y hcL I3 o3 h3 => ?_) (fun y => ?_)
          · rw [if_pos y] at hbad hok
            exact ih (c + 2) _ I3 Is (by omega) b3 (fr_trans hIs (fr_trans o2 o3)) h3 hbad hok
          · rw [if_neg y] at hok
            exact ov _ 0 _ I2 (hok _ (c + 1) I2 rfl (fr_trans hIs o2) h2)
        · rw [if_neg hz] at hbad
          exact fail 5 (Or.inr (Or.inr (Or.inr (Or.inl rfl)))) (fun I2 => hbad 5 c _ I2 rfl)
      · rw [if_neg h6] at hbad
        exact fail 5 (Or.inr (Or.inr (Or.inr (Or.inl rfl)))) (fun I2 => hbad 5 c _ I2 rfl)
    · rw [if_neg h20] at hbad
      exact fail 2 ykp2 (fun I2 => hbad 2 c _ I2 rfl)
/-- how a clause lies in the class -/
def yD186 (cd : List Int32) (x : YC) (i : Nat) (I : Nat → Nat → Int32) : Prop := I 87 i = s01_ x.2.1 ∧ I 88 i = x.2.2.1 ∧ I 89 i = x.2.2.2.1 ∧ ∃ te, I 90 i = nI te ∧ I 91 i = nI (te + (ytl x.2.2.2.2.1).length) ∧ I 92 i = nI (te + (ytl x.2.2.2.2.1).length + x.2.2.2.2.2.length) ∧ te + (ytl x.2.2.2.2.1).length + x.2.2.2.2.2.length ≤ cd.length ∧ ∀ j y, (ytl x.2.2.2.2.1 ++ yen_c x.2.2.2.2.2)[j]? = some y → cd[te + j]? = some y
def yE86 (b : Nat → Int32) (n : Nat) (cd : List Int32) (q : List YC) (I : Nat → Nat → Int32) (J : Nat → Nat → Int64) : Prop := I 86 0 = nI q.length ∧ ∀ i x, q[i]? = some x → yD186 cd x i I ∧ J 49 i = yn b n x.1
theorem yE_fr86 {b : Nat → Int32} {n : Nat} {cd cd2 : List Int32} {q : List YC} {I I2 : Nat → Nat → Int32} {J : Nat → Nat → Int64} {D : List fr_R} (h : yE86 b n cd q I J) (o : fr_off D I I2) (d : ((!fr_in D 86 0) && fr_rw D 87 93) = true) : yE86 b n (cd ++ cd2) q I2 J := by
  simp only [Bool.and_eq_true, Bool.not_eq_true'] at d
  have er : ∀ a, 87 ≤ a → a < 93 → I2 a = I a := fun a h1 h2 => fr_row o d.2 h1 h2
  obtain ⟨h1, h2⟩ := h
  refine ⟨by rw [fr_at 86 0 o d.1]; exact h1, fun i x hx => ?_⟩
  obtain ⟨⟨g1, g2, g3, te, g4, g5, g6, g7, g8⟩, g9⟩ := h2 i x hx
  refine ⟨⟨?_, ?_, ?_, te, ?_, ?_, ?_, by rw [List.length_append]; omega, fun j y hy => app_l (g8 j y hy)⟩, g9⟩
  · rw [er 87 (by decide) (by decide)]; exact g1
  · rw [er 88 (by decide) (by decide)]; exact g2
  · rw [er 89 (by decide) (by decide)]; exact g3
  · rw [er 90 (by decide) (by decide)]; exact g4
  · rw [er 91 (by decide) (by decide)]; exact g5
  · rw [er 92 (by decide) (by decide)]; exact g6
