def wp_X9_addClause_77 (a0 : Int32) (a1 : Int32) (a2 : Int32) (a3 : Int32) (a4 : Int32) (I : Nat → Nat → Int32) (J : Nat → Nat → Int64) (T : Option Nat) (P : (Nat → Nat → Int32) → (Nat → Nat → Int64) → Option Nat → Prop) : Prop := ((I 77 0 < (12 : Int32) → (false || (true && ix_01 (a0))) = true ∧ ix_inb (I 77 0) 12 = true ∧ ix_inb (I 77 0) 12 = true ∧ ix_inb (I 77 0) 12 = true ∧ ix_inb (I 77 0) 12 = true ∧ ix_inb (I 77 0) 12 = true ∧ ix_inb (I 77 0) 12 = true ∧ P (ix_u2 (ix_u2 (ix_u2 (ix_u2 (ix_u2 (ix_u2 (ix_u2 I 78 (I 77 0).toNatClampNeg (a0)) 79 (I 77 0).toNatClampNeg (a1)) 80 (I 77 0).toNatClampNeg (a2)) 81 (I 77 0).toNatClampNeg (a3)) 82 (I 77 0).toNatClampNeg (a4)) 83 (I 77 0).toNatClampNeg (I 77 1)) 77 0 ((I 77 0) + ((1 : Int32)))) J T) ∧ (¬ (I 77 0 < (12 : Int32)) → P I J T))
set_option maxRecDepth 20000 in
theorem tp_X9_addClause_77 {d : Nat} {a0 : Int32} {a1 : Int32} {a2 : Int32} {a3 : Int32} {a4 : Int32} {I : Nat → Nat → Int32} {J : Nat → Nat → Int64} {T : Option Nat} {P : (Nat → Nat → Int32) → (Nat → Nat → Int64) → Option Nat → Prop} {Q : ix_Q} (h : wp_X9_addClause_77 a0 a1 a2 a3 a4 I J T P) (hQ : ∀ I J T, P I J T → Q none (ix_mem 276 I J T)) : ix_C (d + 1) 126 [.inr (.inr (.inl (some (77)))), .inl (a0), .inl (a1), .inl (a2), .inl (a3), .inl (a4)] (ix_mem 276 I J T) Q := by
  unfold wp_X9_addClause_77 at h
  refine ix_enter (ls := [some (.inr (.inr (.inl (some (77))))), some (.inl (a0)), some (.inl (a1)), some (.inl (a2)), some (.inl (a3)), some (.inl (a4))]) rfl rfl rfl (Nat.le_of_ble_eq_true rfl) ?_
  refine ix_go 4 (x' := (if I 77 0 < (12 : Int32) then 10 else 9, [some (.inr (.inr (.inl (some (77))))), some (.inl (a0)), some (.inl (a1)), some (.inl (a2)), some (.inl (a3)), some (.inl (a4))], [], 0, 0, ix_mem 276 I J T)) rfl ⟨rfl, rfl⟩ ?_
  refine ix_br (fun c1 => ?_) (fun c1 => ?_)
  · have h2 := h.1 c1
    obtain ⟨p3, h4⟩ := h2
    obtain ⟨p5, h6⟩ := h4
    obtain ⟨p7, h8⟩ := h6
    obtain ⟨p9, h10⟩ := h8
    obtain ⟨p11, h12⟩ := h10
    obtain ⟨p13, h14⟩ := h12
    obtain ⟨p15, h16⟩ := h14
    refine ix_go 43 (x' := (85, [some (.inr (.inr (.inl (some (77))))), some (.inl (a0)), some (.inl (a1)), some (.inl (a2)), some (.inl (a3)), some (.inl (a4))], [], 0, 0, ix_mem 276 (ix_u2 (ix_u2 (ix_u2 (ix_u2 (ix_u2 (ix_u2 (ix_u2 I 78 (I 77 0).toNatClampNeg (a0)) 79 (I 77 0).toNatClampNeg (a1)) 80 (I 77 0).toNatClampNeg (a2)) 81 (I 77 0).toNatClampNeg (a3)) 82 (I 77 0).toNatClampNeg (a4)) 83 (I 77 0).toNatClampNeg (I 77 1)) 77 0 ((I 77 0) + ((1 : Int32)))) J T)) rfl ⟨rfl, rfl, rfl, rfl, rfl, p3, p5, rfl, rfl, rfl, rfl, rfl, rfl, p7, rfl, rfl, rfl, rfl, rfl, rfl, p9, rfl, rfl, rfl, rfl, rfl, rfl, p11, rfl, rfl, rfl, rfl, rfl, rfl, p13, rfl, rfl, rfl, rfl, rfl, rfl, rfl, rfl, p15, rfl, rfl, rfl, rfl⟩ ?_
    exact ix_sp rfl ⟨Nat.le_refl _, Nat.le_refl _, rfl, hQ _ _ _ h16⟩
  · have h2 := h.2 c1
    exact ix_sp rfl ⟨Nat.le_refl _, Nat.le_refl _, rfl, hQ _ _ _ h2⟩
def wp_X9_addClause_86 (a0 : Int32) (a1 : Int32) (a2 : Int32) (a3 : Int32) (a4 : Int32) (I : Nat → Nat → Int32) (J : Nat → Nat → Int64) (T : Option Nat) (P : (Nat → Nat → Int32) → (Nat → Nat → Int64) → Option Nat → Prop) : Prop := ((I 86 0 < (12 : Int32) → (false || (true && ix_01 (a0))) = true ∧ ix_inb (I 86 0) 12 = true ∧ ix_inb (I 86 0) 12 = true ∧ ix_inb (I 86 0) 12 = true ∧ ix_inb (I 86 0) 12 = true ∧ ix_inb (I 86 0) 12 = true ∧ ix_inb (I 86 0) 12 = true ∧ P (ix_u2 (ix_u2 (ix_u2 (ix_u2 (ix_u2 (ix_u2 (ix_u2 I 87 (I 86 0).toNatClampNeg (a0)) 88 (I 86 0).toNatClampNeg (a1)) 89 (I 86 0).toNatClampNeg (a2)) 90 (I 86 0).toNatClampNeg (a3)) 91 (I 86 0).toNatClampNeg (a4)) 92 (I 86 0).toNatClampNeg (I 86 1)) 86 0 ((I 86 0) + ((1 : Int32)))) J T) ∧ (¬ (I 86 0 < (12 : Int32)) → P I J T))
set_option maxRecDepth 20000 in
theorem tp_X9_addClause_86 {d : Nat} {a0 : Int32} {a1 : Int32} {a2 : Int32} {a3 : Int32} {a4 : Int32} {I : Nat → Nat → Int32} {J : Nat → Nat → Int64} {T : Option Nat} {P : (Nat → Nat → Int32) → (Nat → Nat → Int64) → Option Nat → Prop} {Q : ix_Q} (h : wp_X9_addClause_86 a0 a1 a2 a3 a4 I J T P) (hQ : ∀ I J T, P I J T → Q none (ix_mem 276 I J T)) : ix_C (d + 1) 126 [.inr (.inr (.inl (some (86)))), .inl (a0), .inl (a1), .inl (a2), .inl (a3), .inl (a4)] (ix_mem 276 I J T) Q := by
  unfold wp_X9_addClause_86 at h
  refine ix_enter (ls := [some (.inr (.inr (.inl (some (86))))), some (.inl (a0)), some (.inl (a1)), some (.inl (a2)), some (.inl (a3)), some (.inl (a4))]) rfl rfl rfl (Nat.le_of_ble_eq_true rfl) ?_
  refine ix_go 4 (x' := (if I 86 0 < (12 : Int32) then 10 else 9, [some (.inr (.inr (.inl (some (86))))), some (.inl (a0)), some (.inl (a1)), some (.inl (a2)), some (.inl (a3)), some (.inl (a4))], [], 0, 0, ix_mem 276 I J T)) rfl ⟨rfl, rfl⟩ ?_
  refine ix_br (fun c1 => ?_) (fun c1 => ?_)
  · have h2 := h.1 c1
    obtain ⟨p3, h4⟩ := h2
    obtain ⟨p5, h6⟩ := h4
    obtain ⟨p7, h8⟩ := h6
    obtain ⟨p9, h10⟩ := h8
    obtain ⟨p11, h12⟩ := h10
    obtain ⟨p13, h14⟩ := h12
    obtain ⟨p15, h16⟩ := h14
    refine ix_go 43 (x' := (85, [some (.inr (.inr (.inl (some (86))))), some (.inl (a0)), some (.inl (a1)), some (.inl (a2)), some (.inl (a3)), some (.inl (a4))], [], 0, 0, ix_mem 276 (ix_u2 (ix_u2 (ix_u2 (ix_u2 (ix_u2 (ix_u2 (ix_u2 I 87 (I 86 0).toNatClampNeg (a0)) 88 (I 86 0).toNatClampNeg (a1)) 89 (I 86 0).toNatClampNeg (a2)) 90 (I 86 0).toNatClampNeg (a3)) 91 (I 86 0).toNatClampNeg (a4)) 92 (I 86 0).toNatClampNeg (I 86 1)) 86 0 ((I 86 0) + ((1 : Int32)))) J T)) rfl ⟨rfl, rfl, rfl, rfl, rfl, p3, p5, rfl, rfl, rfl, rfl, rfl, rfl, p7, rfl, rfl, rfl, rfl, rfl, rfl, p9, rfl, rfl, rfl, rfl, rfl, rfl, p11, rfl, rfl, rfl, rfl, rfl, rfl, p13, rfl, rfl, rfl, rfl, rfl, rfl, rfl, rfl, p15, rfl, rfl, rfl, rfl⟩ ?_
    exact ix_sp rfl ⟨Nat.le_refl _, Nat.le_refl _, rfl, hQ _ _ _ h16⟩
  · have h2 := h.2 c1
    exact ix_sp rfl ⟨Nat.le_refl _, Nat.le_refl _, rfl, hQ _ _ _ h2⟩
def wj_X7_takeClause_j81 (x1 : Int32) (x2 : Int32) (x3 : Int32) (x4 : Int32) (I : Nat → Nat → Int32) (J : Nat → Nat → Int64) (T : Option Nat) (P : (Nat → Nat → Int32) → (Nat → Nat → Int64) → Option Nat → Prop) : Prop := ix_tn T ∧ ((T = some 59 → wp_X9_length_59 I J (some 59) (fun v23 I23 J23 T23 => wp_X7_need ((5 : Int32)) I23 J23 T23 (fun I24 J24 T24 => wp_X7_takeFormula ((3 : Int32)) I24 J24 T24 (fun I25 J25 T25 => wp_X7_need ((59 : Int32)) I25 J25 T25 (fun I26 J26 T26 => ((I26 44 10 = 0 → ix_tn T26 ∧ ((T26 = some 59 → wp_X9_addClause_59 (x1) (x2) (x3) (x4) (v23) I26 J26 (some 59) (fun I32 J32 T32 => P I32 J32 T32)) ∧ (T26 = some 68 → wp_X9_addClause_68 (x1) (x2) (x3) (x4) (v23) I26 J26 (some 68) (fun I33 J33 T33 => P I33 J33 T33)) ∧ (T26 = some 77 → wp_X9_addClause_77 (x1) (x2) (x3) (x4) (v23) I26 J26 (some 77) (fun I34 J34 T34 => P I34 J34 T34)) ∧ (T26 = some 86 → wp_X9_addClause_86 (x1) (x2) (x3) (x4) (v23) I26 J26 (some 86) (fun I35 J35 T35 => P I35 J35 T35)))) ∧ (¬ (I26 44 10 = 0) → P I26 J26 T26))))))) ∧ (T = some 68 → wp_X9_length_68 I J (some 68) (fun v36 I36 J36 T36 => wp_X7_need ((5 : Int32)) I36 J36 T36 (fun I37 J37 T37 => wp_X7_takeFormula ((3 : Int32)) I37 J37 T37 (fun I38 J38 T38 => wp_X7_need ((59 : Int32)) I38 J38 T38 (fun I39 J39 T39 => ((I39 44 10 = 0 → ix_tn T39 ∧ ((T39 = some 59 → wp_X9_addClause_59 (x1) (x2) (x3) (x4) (v36) I39 J39 (some 59) (fun I45 J45 T45 => P I45 J45 T45)) ∧ (T39 = some 68 → wp_X9_addClause_68 (x1) (x2) (x3) (x4) (v36) I39 J39 (some 68) (fun I46 J46 T46 => P I46 J46 T46)) ∧ (T39 = some 77 → wp_X9_addClause_77 (x1) (x2) (x3) (x4) (v36) I39 J39 (some 77) (fun I47 J47 T47 => P I47 J47 T47)) ∧ (T39 = some 86 → wp_X9_addClause_86 (x1) (x2) (x3) (x4) (v36) I39 J39 (some 86) (fun I48 J48 T48 => P I48 J48 T48)))) ∧ (¬ (I39 44 10 = 0) → P I39 J39 T39))))))) ∧ (T = some 77 → wp_X9_length_77 I J (some 77) (fun v49 I49 J49 T49 => wp_X7_need ((5 : Int32)) I49 J49 T49 (fun I50 J50 T50 => wp_X7_takeFormula ((3 : Int32)) I50 J50 T50 (fun I51 J51 T51 => wp_X7_need ((59 : Int32)) I51 J51 T51 (fun I52 J52 T52 => ((I52 44 10 = 0 → ix_tn T52 ∧ ((T52 = some 59 → wp_X9_addClause_59 (x1) (x2) (x3) (x4) (v49) I52 J52 (some 59) (fun I58 J58 T58 => P I58 J58 T58)) ∧ (T52 = some 68 → wp_X9_addClause_68 (x1) (x2) (x3) (x4) (v49) I52 J52 (some 68) (fun I59 J59 T59 => P I59 J59 T59)) ∧ (T52 = some 77 → wp_X9_addClause_77 (x1) (x2) (x3) (x4) (v49) I52 J52 (some 77) (fun I60 J60 T60 => P I60 J60 T60)) ∧ (T52 = some 86 → wp_X9_addClause_86 (x1) (x2) (x3) (x4) (v49) I52 J52 (some 86) (fun I61 J61 T61 => P I61 J61 T61)))) ∧ (¬ (I52 44 10 = 0) → P I52 J52 T52))))))) ∧ (T = some 86 → wp_X9_length_86 I J (some 86) (fun v62 I62 J62 T62 => wp_X7_need ((5 : Int32)) I62 J62 T62 (fun I63 J63 T63 => wp_X7_takeFormula ((3 : Int32)) I63 J63 T63 (fun I64 J64 T64 => wp_X7_need ((59 : Int32)) I64 J64 T64 (fun I65 J65 T65 => ((I65 44 10 = 0 → ix_tn T65 ∧ ((T65 = some 59 → wp_X9_addClause_59 (x1) (x2) (x3) (x4) (v62) I65 J65 (some 59) (fun I71 J71 T71 => P I71 J71 T71)) ∧ (T65 = some 68 → wp_X9_addClause_68 (x1) (x2) (x3) (x4) (v62) I65 J65 (some 68) (fun I72 J72 T72 => P I72 J72 T72)) ∧ (T65 = some 77 → wp_X9_addClause_77 (x1) (x2) (x3) (x4) (v62) I65 J65 (some 77) (fun I73 J73 T73 => P I73 J73 T73)) ∧ (T65 = some 86 → wp_X9_addClause_86 (x1) (x2) (x3) (x4) (v62) I65 J65 (some 86) (fun I74 J74 T74 => P I74 J74 T74)))) ∧ (¬ (I65 44 10 = 0) → P I65 J65 T65))))))))
set_option maxRecDepth 20000 in
theorem tj_X7_takeClause_j81 {d : Nat} {x1 : Int32} {x2 : Int32} {x3 : Int32} {x4 : Int32} {I : Nat → Nat → Int32} {J : Nat → Nat → Int64} {T : Option Nat} {P : (Nat → Nat → Int32) → (Nat → Nat → Int64) → Option Nat → Prop} {Q : ix_Q} (h : wj_X7_takeClause_j81 x1 x2 x3 x4 I J T P) (hQ : ∀ I J T, P I J T → Q none (ix_mem 276 I J T)) : ix_W (ix_C (d + 5)) (7, ix_lk ix_l127, none, 0, 0, Nat.blt 0 0, none) Q (81, [some (.inr (.inr (.inl (some (44))))), some (.inl (x1)), some (.inl (x2)), some (.inl (x3)), some (.inl (x4)), none], [], 0, 0, ix_mem 276 I J T) := by
  unfold wj_X7_takeClause_j81 at h
  refine ix_go 2 (x' := (85, [some (.inr (.inr (.inl (some (44))))), some (.inl (x1)), some (.inl (x2)), some (.inl (x3)), some (.inl (x4)), none], [.inr (.inr (.inl (T)))], 0, 0, ix_mem 276 I J T)) rfl ⟨rfl, rfl⟩ ?_
  obtain ⟨q20, h21⟩ := h
  rcases q20 with e | e | e | e
  · subst e
    have h22 := h21.1 rfl
    refine ix_sp rfl ⟨rfl, ⟨ix_lt rfl, ix_eq rfl, ix_lt rfl⟩, ix_le rfl, Nat.le_refl _, Nat.le_refl _, tp_X9_length_59 h22 (fun v23 I23 J23 T23 h23 => ?_)⟩
    change ix_W _ _ _ (88, [some (.inr (.inr (.inl (some (44))))), some (.inl (x1)), some (.inl (x2)), some (.inl (x3)), some (.inl (x4)), none], [.inl (v23)], 0, 0, ix_mem 276 I23 J23 T23)
    refine ix_go 3 (x' := (92, [some (.inr (.inr (.inl (some (44))))), some (.inl (x1)), some (.inl (x2)), some (.inl (x3)), some (.inl (x4)), some (.inl (v23))], [.inl ((5 : Int32)), .inr (.inr (.inl (some (44))))], 0, 0, ix_mem 276 I23 J23 T23)) rfl trivial ?_
    refine ix_sp rfl ⟨rfl, ⟨ix_lt rfl, ix_eq rfl, ix_lt rfl⟩, ix_le rfl, Nat.le_refl _, Nat.le_refl _, tp_X7_need h23 (fun I24 J24 T24 h24 => ?_)⟩
    change ix_W _ _ _ (95, [some (.inr (.inr (.inl (some (44))))), some (.inl (x1)), some (.inl (x2)), some (.inl (x3)), some (.inl (x4)), some (.inl (v23))], [], 0, 0, ix_mem 276 I24 J24 T24)
    refine ix_go 2 (x' := (97, [some (.inr (.inr (.inl (some (44))))), some (.inl (x1)), some (.inl (x2)), some (.inl (x3)), some (.inl (x4)), some (.inl (v23))], [.inl ((3 : Int32)), .inr (.inr (.inl (some (44))))], 0, 0, ix_mem 276 I24 J24 T24)) rfl trivial ?_
    refine ix_sp rfl ⟨rfl, ⟨ix_lt rfl, ix_eq rfl, ix_lt rfl⟩, ix_le rfl, Nat.le_refl _, Nat.le_refl _, tp_X7_takeFormula h24 (fun I25 J25 T25 h25 => ?_)⟩
    change ix_W _ _ _ (100, [some (.inr (.inr (.inl (some (44))))), some (.inl (x1)), some (.inl (x2)), some (.inl (x3)), some (.inl (x4)), some (.inl (v23))], [], 0, 0, ix_mem 276 I25 J25 T25)
    refine ix_go 2 (x' := (103, [some (.inr (.inr (.inl (some (44))))), some (.inl (x1)), some (.inl (x2)), some (.inl (x3)), some (.inl (x4)), some (.inl (v23))], [.inl ((59 : Int32)), .inr (.inr (.inl (some (44))))], 0, 0, ix_mem 276 I25 J25 T25)) rfl trivial ?_
    refine ix_sp rfl ⟨rfl, ⟨ix_lt rfl, ix_eq rfl, ix_lt rfl⟩, ix_le rfl, Nat.le_refl _, Nat.le_refl _, tp_X7_need h25 (fun I26 J26 T26 h26 => ?_)⟩
    change ix_W _ _ _ (106, [some (.inr (.inr (.inl (some (44))))), some (.inl (x1)), some (.inl (x2)), some (.inl (x3)), some (.inl (x4)), some (.inl (v23))], [], 0, 0, ix_mem 276 I26 J26 T26)
    refine ix_go 3 (x' := (if I26 44 10 = 0 then 113 else 127, [some (.inr (.inr (.inl (some (44))))), some (.inl (x1)), some (.inl (x2)), some (.inl (x3)), some (.inl (x4)), some (.inl (v23))], [], 0, 0, ix_mem 276 I26 J26 T26)) rfl ⟨rfl, rfl⟩ ?_
    refine ix_br (fun c27 => ?_) (fun c27 => ?_)
    · have h28 := h26.1 c27
      refine ix_go 2 (x' := (117, [some (.inr (.inr (.inl (some (44))))), some (.inl (x1)), some (.inl (x2)), some (.inl (x3)), some (.inl (x4)), some (.inl (v23))], [.inr (.inr (.inl (T26)))], 0, 0, ix_mem 276 I26 J26 T26)) rfl ⟨rfl, rfl⟩ ?_
      obtain ⟨q29, h30⟩ := h28
      rcases q29 with e | e | e | e
      · subst e
        have h31 := h30.1 rfl
        refine ix_go 5 (x' := (124, [some (.inr (.inr (.inl (some (44))))), some (.inl (x1)), some (.inl (x2)), some (.inl (x3)), some (.inl (x4)), some (.inl (v23))], [.inl (v23), .inl (x4), .inl (x3), .inl (x2), .inl (x1), .inr (.inr (.inl (some (59))))], 0, 0, ix_mem 276 I26 J26 (some 59))) rfl trivial ?_
        refine ix_sp rfl ⟨rfl, ⟨ix_lt rfl, ix_eq rfl, ix_lt rfl⟩, ix_le rfl, Nat.le_refl _, Nat.le_refl _, tp_X9_addClause_59 h31 (fun I32 J32 T32 h32 => ?_)⟩
        change ix_W _ _ _ (127, [some (.inr (.inr (.inl (some (44))))), some (.inl (x1)), some (.inl (x2)), some (.inl (x3)), some (.inl (x4)), some (.inl (v23))], [], 0, 0, ix_mem 276 I32 J32 T32)
        exact ix_sp rfl ⟨Nat.le_refl _, Nat.le_refl _, rfl, hQ _ _ _ h32⟩
      · subst e
        have h31 := h30.2.1 rfl
        refine ix_go 5 (x' := (124, [some (.inr (.inr (.inl (some (44))))), some (.inl (x1)), some (.inl (x2)), some (.inl (x3)), some (.inl (x4)), some (.inl (v23))], [.inl (v23), .inl (x4), .inl (x3), .inl (x2), .inl (x1), .inr (.inr (.inl (some (68))))], 0, 0, ix_mem 276 I26 J26 (some 68))) rfl trivial ?_
        refine ix_sp rfl ⟨rfl, ⟨ix_lt rfl, ix_eq rfl, ix_lt rfl⟩, ix_le rfl, Nat.le_refl _, Nat.le_refl _, tp_X9_addClause_68 h31 (fun I33 J33 T33 h33 => ?_)⟩
        change ix_W _ _ _ (127, [some (.inr (.inr (.inl (some (44))))), some (.inl (x1)), some (.inl (x2)), some (.inl (x3)), some (.inl (x4)), some (.inl (v23))], [], 0, 0, ix_mem 276 I33 J33 T33)
        exact ix_sp rfl ⟨Nat.le_refl _, Nat.le_refl _, rfl, hQ _ _ _ h33⟩
      · subst e
        have h31 := h30.2.2.1 rfl
        refine ix_go 5 (x' := (124, [some (.inr (.inr (.inl (some (44))))), some (.inl (x1)), some (.inl (x2)), some (.inl (x3)), some (.inl (x4)), some (.inl (v23))], [.inl (v23), .inl (x4), .inl (x3), .inl (x2), .inl (x1), .inr (.inr (.inl (some (77))))], 0, 0, ix_mem 276 I26 J26 (some 77))) rfl trivial ?_
        refine ix_sp rfl ⟨rfl, ⟨ix_lt rfl, ix_eq rfl, ix_lt rfl⟩, ix_le rfl, Nat.le_refl _, Nat.le_refl _, tp_X9_addClause_77 h31 (fun I34 J34 T34 h34 => ?_)⟩
        change ix_W _ _ _ (127, [some (.inr (.inr (.inl (some (44))))), some (.inl (x1)), some (.inl (x2)), some (.inl (x3)), some (.inl (x4)), some (.inl (v23))], [], 0, 0, ix_mem 276 I34 J34 T34)
        exact ix_sp rfl ⟨Nat.le_refl _, Nat.le_refl _, rfl, hQ _ _ _ h34⟩
      · subst e
        have h31 := h30.2.2.2 rfl
        refine ix_go 5 (x' := (124, [some (.inr (.inr (.inl (some (44))))), some (.inl (x1)), some (.inl (x2)), some (.inl (x3)), some (.inl (x4)), some (.inl (v23))], [.inl (v23), .inl (x4), .inl (x3), .inl (x2), .inl (x1), .inr (.inr (.inl (some (86))))], 0, 0, ix_mem 276 I26 J26 (some 86))) rfl trivial ?_
        refine ix_sp rfl ⟨rfl, ⟨ix_lt rfl, ix_eq rfl, ix_lt rfl⟩, ix_le rfl, Nat.le_refl _, Nat.le_refl _, tp_X9_addClause_86 h31 (fun I35 J35 T35 h35 => ?_)⟩
        change ix_W _ _ _ (127, [some (.inr (.inr (.inl (some (44))))), some (.inl (x1)), some (.inl (x2)), some (.inl (x3)), some (.inl (x4)), some (.inl (v23))], [], 0, 0, ix_mem 276 I35 J35 T35)
        exact ix_sp rfl ⟨Nat.le_refl _, Nat.le_refl _, rfl, hQ _ _ _ h35⟩
    · have h28 := h26.2 c27
      exact ix_sp rfl ⟨Nat.le_refl _, Nat.le_refl _, rfl, hQ _ _ _ h28⟩
  · subst e
    have h22 := h21.2.1 rfl
    refine ix_sp rfl ⟨rfl, ⟨ix_lt rfl, ix_eq rfl, ix_lt rfl⟩, ix_le rfl, Nat.le_refl _, Nat.le_refl _, tp_X9_length_68 h22 (fun v36 I36 J36 T36 h36 => ?_)⟩
    change ix_W _ _ _ (88, [some (.inr (.inr (.inl (some (44))))), some (.inl (x1)), some (.inl (x2)), some (.inl (x3)), some (.inl (x4)), none], [.inl (v36)], 0, 0, ix_mem 276 I36 J36 T36)
    refine ix_go 3 (x' := (92, [some (.inr (.inr (.inl (some (44))))), some (.inl (x1)), some (.inl (x2)), some (.inl (x3)), some (.inl (x4)), some (.inl (v36))], [.inl ((5 : Int32)), .inr (.inr (.inl (some (44))))], 0, 0, ix_mem 276 I36 J36 T36)) rfl trivial ?_
    refine ix_sp rfl ⟨rfl, ⟨ix_lt rfl, ix_eq rfl, ix_lt rfl⟩, ix_le rfl, Nat.le_refl _, Nat.le_refl _, tp_X7_need h36 (fun I37 J37 T37 h37 => ?_)⟩
    change ix_W _ _ _ (95, [some (.inr (.inr (.inl (some (44))))), some (.inl (x1)), some (.inl (x2)), some (.inl (x3)), some (.inl (x4)), some (.inl (v36))], [], 0, 0, ix_mem 276 I37 J37 T37)
    refine ix_go 2 (x' := (97, [some (.inr (.inr (.inl (some (44))))), some (.inl (x1)), some (.inl (x2)), some (.inl (x3)), some (.inl (x4)), some (.inl (v36))], [.inl ((3 : Int32)), .inr (.inr (.inl (some (44))))], 0, 0, ix_mem 276 I37 J37 T37)) rfl trivial ?_
    refine ix_sp rfl ⟨rfl, ⟨ix_lt rfl, ix_eq rfl, ix_lt rfl⟩, ix_le rfl, Nat.le_refl _, Nat.le_refl _, tp_X7_takeFormula h37 (fun I38 J38 T38 h38 => ?_)⟩
    change ix_W _ _ _ (100, [some (.inr (.inr (.inl (some (44))))), some (.inl (x1)), some (.inl (x2)), some (.inl (x3)), some (.inl (x4)), some (.inl (v36))], [], 0, 0, ix_mem 276 I38 J38 T38)
    refine ix_go 2 (x' := (103, [some (.inr (.inr (.inl (some (44))))), some (.inl (x1)), some (.inl (x2)), some (.inl (x3)), some (.inl (x4)), some (.inl (v36))], [.inl ((59 : Int32)), .inr (.inr (.inl (some (44))))], 0, 0, ix_mem 276 I38 J38 T38)) rfl trivial ?_
    refine ix_sp rfl ⟨rfl, ⟨ix_lt rfl, ix_eq rfl, ix_lt rfl⟩, ix_le rfl, Nat.le_refl _, Nat.le_refl _, tp_X7_need h38 (fun I39 J39 T39 h39 => ?_)⟩
    change ix_W _ _ _ (106, [some (.inr (.inr (.inl (some (44))))), some (.inl (x1)), some (.inl (x2)), some (.inl (x3)), some (.inl (x4)), some (.inl (v36))], [], 0, 0, ix_mem 276 I39 J39 T39)
    refine ix_go 3 (x' := (if I39 44 10 = 0 then 113 else 127, [some (.inr (.inr (.inl (some (44))))), some (.inl (x1)), some (.inl (x2)), some (.inl (x3)), some (.inl (x4)), some (.inl (v36))], [], 0, 0, ix_mem 276 I39 J39 T39)) rfl ⟨rfl, rfl⟩ ?_
    refine ix_br (fun c40 => ?_) (fun c40 => ?_)
    · have h41 := h39.1 c40
      refine ix_go 2 (x' := (117, [some (.inr (.inr (.inl (some (44))))), some (.inl (x1)), some (.inl (x2)), some (.inl (x3)), some (.inl (x4)), some (.inl (v36))], [.inr (.inr (.inl (T39)))], 0, 0, ix_mem 276 I39 J39 T39)) rfl ⟨rfl, rfl⟩ ?_
      obtain ⟨q42, h43⟩ := h41
      rcases q42 with e | e | e | e
      · subst e
        have h44 := h43.1 rfl
        refine ix_go 5 (x' := (124, [some (.inr (.inr (.inl (some (44))))), some (.inl (x1)), some (.inl (x2)), some (.inl (x3)), some (.inl (x4)), some (.inl (v36))], [.inl (v36), .inl (x4), .inl (x3), .inl (x2), .inl (x1), .inr (.inr (.inl (some (59))))], 0, 0, ix_mem 276 I39 J39 (some 59))) rfl trivial ?_
        refine ix_sp rfl ⟨rfl, ⟨ix_lt rfl, ix_eq rfl, ix_lt rfl⟩, ix_le rfl, Nat.le_refl _, Nat.le_refl _, tp_X9_addClause_59 h44 (fun I45 J45 T45 h45 => ?_)⟩
        change ix_W _ _ _ (127, [some (.inr (.inr (.inl (some (44))))), some (.inl (x1)), some (.inl (x2)), some (.inl (x3)), some (.inl (x4)), some (.inl (v36))], [], 0, 0, ix_mem 276 I45 J45 T45)
        exact ix_sp rfl ⟨Nat.le_refl _, Nat.le_refl _, rfl, hQ _ _ _ h45⟩
      · subst e
        have h44 := h43.2.1 rfl
        refine ix_go 5 (x' := (124, [some (.inr (.inr (.inl (some (44))))), some (.inl (x1)), some (.inl (x2)), some (.inl (x3)), some (.inl (x4)), some (.inl (v36))], [.inl (v36), .inl (x4), .inl (x3), .inl (x2), .inl (x1), .inr (.inr (.inl (some (68))))], 0, 0, ix_mem 276 I39 J39 (some 68))) rfl trivial ?_
        refine ix_sp rfl ⟨rfl, ⟨ix_lt rfl, ix_eq rfl, ix_lt rfl⟩, ix_le rfl, Nat.le_refl _, Nat.le_refl _, tp_X9_addClause_68 h44 (fun I46 J46 T46 h46 => ?_)⟩
        change ix_W _ _ _ (127, [some (.inr (.inr (.inl (some (44))))), some (.inl (x1)), some (.inl (x2)), some (.inl (x3)), some (.inl (x4)), some (.inl (v36))], [], 0, 0, ix_mem 276 I46 J46 T46)
        exact ix_sp rfl ⟨Nat.le_refl _, Nat.le_refl _, rfl, hQ _ _ _ h46⟩
      · subst e
        have h44 := h43.2.2.1 rfl
        refine ix_go 5 (x' := (124, [some (.inr (.inr (.inl (some (44))))), some (.inl (x1)), some (.inl (x2)), some (.inl (x3)), some (.inl (x4)), some (.inl (v36))], [.inl (v36), .inl (x4), .inl (x3), .inl (x2), .inl (x1), .inr (.inr (.inl (some (77))))], 0, 0, ix_mem 276 I39 J39 (some 77))) rfl trivial ?_
        refine ix_sp rfl ⟨rfl, ⟨ix_lt rfl, ix_eq rfl, ix_lt rfl⟩, ix_le rfl, Nat.le_refl _, Nat.le_refl _, tp_X9_addClause_77 h44 (fun I47 J47 T47 h47 => ?_)⟩
        change ix_W _ _ _ (127, [some (.inr (.inr (.inl (some (44))))), some (.inl (x1)), some (.inl (x2)), some (.inl (x3)), some (.inl (x4)), some (.inl (v36))], [], 0, 0, ix_mem 276 I47 J47 T47)
        exact ix_sp rfl ⟨Nat.le_refl _, Nat.le_refl _, rfl, hQ _ _ _ h47⟩
      · subst e
        have h44 := h43.2.2.2 rfl
        refine ix_go 5 (x' := (124, [some (.inr (.inr (.inl (some (44))))), some (.inl (x1)), some (.inl (x2)), some (.inl (x3)), some (.inl (x4)), some (.inl (v36))], [.inl (v36), .inl (x4), .inl (x3), .inl (x2), .inl (x1), .inr (.inr (.inl (some (86))))], 0, 0, ix_mem 276 I39 J39 (some 86))) rfl trivial ?_
        refine ix_sp rfl ⟨rfl, ⟨ix_lt rfl, ix_eq rfl, ix_lt rfl⟩, ix_le rfl, Nat.le_refl _, Nat.le_refl _, tp_X9_addClause_86 h44 (fun I48 J48 T48 h48 => ?_)⟩
        change ix_W _ _ _ (127, [some (.inr (.inr (.inl (some (44))))), some (.inl (x1)), some (.inl (x2)), some (.inl (x3)), some (.inl (x4)), some (.inl (v36))], [], 0, 0, ix_mem 276 I48 J48 T48)
        exact ix_sp rfl ⟨Nat.le_refl _, Nat.le_refl _, rfl, hQ _ _ _ h48⟩
    · have h41 := h39.2 c40
      exact ix_sp rfl ⟨Nat.le_refl _, Nat.le_refl _, rfl, hQ _ _ _ h41⟩
  · subst e
    have h22 := h21.2.2.1 rfl
    refine ix_sp rfl ⟨rfl, ⟨ix_lt rfl, ix_eq rfl, ix_lt rfl⟩, ix_le rfl, Nat.le_refl _, Nat.le_refl _, tp_X9_length_77 h22 (fun v49 I49 J49 T49 h49 => ?_)⟩
    change ix_W _ _ _ (88, [some (.inr (.inr (.inl (some (44))))), some (.inl (x1)), some (.inl (x2)), some (.inl (x3)), some (.inl (x4)), none], [.inl (v49)], 0, 0, ix_mem 276 I49 J49 T49)
    refine ix_go 3 (x' := (92, [some (.inr (.inr (.inl (some (44))))), some (.inl (x1)), some (.inl (x2)), some (.inl (x3)), some (.inl (x4)), some (.inl (v49))], [.inl ((5 : Int32)), .inr (.inr (.inl (some (44))))], 0, 0, ix_mem 276 I49 J49 T49)) rfl trivial ?_
    refine ix_sp rfl ⟨rfl, ⟨ix_lt rfl, ix_eq rfl, ix_lt rfl⟩, ix_le rfl, Nat.le_refl _, Nat.le_refl _, tp_X7_need h49 (fun I50 J50 T50 h50 => ?_)⟩
    change ix_W _ _ _ (95, [some (.inr (.inr (.inl (some (44))))), some (.inl (x1)), some (.inl (x2)), some (.inl (x3)), some (.inl (x4)), some (.inl (v49))], [], 0, 0, ix_mem 276 I50 J50 T50)
    refine ix_go 2 (x' := (97, [some (.inr (.inr (.inl (some (44))))), some (.inl (x1)), some (.inl (x2)), some (.inl (x3)), some (.inl (x4)), some (.inl (v49))], [.inl ((3 : Int32)), .inr (.inr (.inl (some (44))))], 0, 0, ix_mem 276 I50 J50 T50)) rfl trivial ?_
    refine ix_sp rfl ⟨rfl, ⟨ix_lt rfl, ix_eq rfl, ix_lt rfl⟩, ix_le rfl, Nat.le_refl _, Nat.le_refl _, tp_X7_takeFormula h50 (fun I51 J51 T51 h51 => ?_)⟩
    change ix_W _ _ _ (100, [some (.inr (.inr (.inl (some (44))))), some (.inl (x1)), some (.inl (x2)), some (.inl (x3)), some (.inl (x4)), some (.inl (v49))], [], 0, 0, ix_mem 276 I51 J51 T51)
    refine ix_go 2 (x' := (103, [some (.inr (.inr (.inl (some (44))))), some (.inl (x1)), some (.inl (x2)), some (.inl (x3)), some (.inl (x4)), some (.inl (v49))], [.inl ((59 : Int32)), .inr (.inr (.inl (some (44))))], 0, 0, ix_mem 276 I51 J51 T51)) rfl trivial ?_
    refine ix_sp rfl ⟨rfl, ⟨ix_lt rfl, ix_eq rfl, ix_lt rfl⟩, ix_le rfl, Nat.le_refl _, Nat.le_refl _, tp_X7_need h51 (fun I52 J52 T52 h52 => ?_)⟩
    change ix_W _ _ _ (106, [some (.inr (.inr (.inl (some (44))))), some (.inl (x1)), some (.inl (x2)), some (.inl (x3)), some (.inl (x4)), some (.inl (v49))], [], 0, 0, ix_mem 276 I52 J52 T52)
    refine ix_go 3 (x' := (if I52 44 10 = 0 then 113 else 127, [some (.inr (.inr (.inl (some (44))))), some (.inl (x1)), some (.inl (x2)), some (.inl (x3)), some (.inl (x4)), some (.inl (v49))], [], 0, 0, ix_mem 276 I52 J52 T52)) rfl ⟨rfl, rfl⟩ ?_
    refine ix_br (fun c53 => ?_) (fun c53 => ?_)
    · have h54 := h52.1 c53
      refine ix_go 2 (x' := (117, [some (.inr (.inr (.inl (some (44))))), some (.inl (x1)), some (.inl (x2)), some (.inl (x3)), some (.inl (x4)), some (.inl (v49))], [.inr (.inr (.inl (T52)))], 0, 0, ix_mem 276 I52 J52 T52)) rfl ⟨rfl, rfl⟩ ?_
      obtain ⟨q55, h56⟩ := h54
      rcases q55 with e | e | e | e
      · subst e
        have h57 := h56.1 rfl
        refine ix_go 5 (x' := (124, [some (.inr (.inr (.inl (some (44))))), some (.inl (x1)), some (.inl (x2)), some (.inl (x3)), some (.inl (x4)), some (.inl (v49))], [.inl (v49), .inl (x4), .inl (x3), .inl (x2), .inl (x1), .inr (.inr (.inl (some (59))))], 0, 0, ix_mem 276 I52 J52 (some 59))) rfl trivial ?_
        refine ix_sp rfl ⟨rfl, ⟨ix_lt rfl, ix_eq rfl, ix_lt rfl⟩, ix_le rfl, Nat.le_refl _, Nat.le_refl _, tp_X9_addClause_59 h57 (fun I58 J58 T58 h58 => ?_)⟩
        change ix_W _ _ _ (127, [some (.inr (.inr (.inl (some (44))))), some (.inl (x1)), some (.inl (x2)), some (.inl (x3)), some (.inl (x4)), some (.inl (v49))], [], 0, 0, ix_mem 276 I58 J58 T58)
        exact ix_sp rfl ⟨Nat.le_refl _, Nat.le_refl _, rfl, hQ _ _ _ h58⟩
      · subst e
        have h57 := h56.2.1 rfl
        refine ix_go 5 (x' := (124, [some (.inr (.inr (.inl (some (44))))), some (.inl (x1)), some (.inl (x2)), some (.inl (x3)), some (.inl (x4)), some (.inl (v49))], [.inl (v49), .inl (x4), .inl (x3), .inl (x2), .inl (x1), .inr (.inr (.inl (some (68))))], 0, 0, ix_mem 276 I52 J52 (some 68))) rfl trivial ?_
        refine ix_sp rfl ⟨rfl, ⟨ix_lt rfl, ix_eq rfl, ix_lt rfl⟩, ix_le rfl, Nat.le_refl _, Nat.le_refl _, tp_X9_addClause_68 h57 (fun I59 J59 T59 h59 => ?_)⟩
        change ix_W _ _ _ (127, [some (.inr (.inr (.inl (some (44))))), some (.inl (x1)), some (.inl (x2)), some (.inl (x3)), some (.inl (x4)), some (.inl (v49))], [], 0, 0, ix_mem 276 I59 J59 T59)
        exact ix_sp rfl ⟨Nat.le_refl _, Nat.le_refl _, rfl, hQ _ _ _ h59⟩
      · subst e
        have h57 := h56.2.2.1 rfl
        refine ix_go 5 (x' := (124, [some (.inr (.inr (.inl (some (44))))), some (.inl (x1)), some (.inl (x2)), some (.inl (x3)), some (.inl (x4)), some (.inl (v49))], [.inl (v49), .inl (x4), .inl (x3), .inl (x2), .inl (x1), .inr (.inr (.inl (some (77))))], 0, 0, ix_mem 276 I52 J52 (some 77))) rfl trivial ?_
        refine ix_sp rfl ⟨rfl, ⟨ix_lt rfl, ix_eq rfl, ix_lt rfl⟩, ix_le rfl, Nat.le_refl _, Nat.le_refl _, tp_X9_addClause_77 h57 (fun I60 J60 T60 h60 => ?_)⟩
        change ix_W _ _ _ (127, [some (.inr (.inr (.inl (some (44))))), some (.inl (x1)), some (.inl (x2)), some (.inl (x3)), some (.inl (x4)), some (.inl (v49))], [], 0, 0, ix_mem 276 I60 J60 T60)
        exact ix_sp rfl ⟨Nat.le_refl _, Nat.le_refl _, rfl, hQ _ _ _ h60⟩
      · subst e
        have h57 := h56.2.2.2 rfl
        refine ix_go 5 (x' := (124, [some (.inr (.inr (.inl (some (44))))), some (.inl (x1)), some (.inl (x2)), some (.inl (x3)), some (.inl (x4)), some (.inl (v49))], [.inl (v49), .inl (x4), .inl (x3), .inl (x2), .inl (x1), .inr (.inr (.inl (some (86))))], 0, 0, ix_mem 276 I52 J52 (some 86))) rfl trivial ?_
        refine ix_sp rfl ⟨rfl, ⟨ix_lt rfl, ix_eq rfl, ix_lt rfl⟩, ix_le rfl, Nat.le_refl _, Nat.le_refl _, tp_X9_addClause_86 h57 (fun I61 J61 T61 h61 => ?_)⟩
        change ix_W _ _ _ (127, [some (.inr (.inr (.inl (some (44))))), some (.inl (x1)), some (.inl (x2)), some (.inl (x3)), some (.inl (x4)), some (.inl (v49))], [], 0, 0, ix_mem 276 I61 J61 T61)
        exact ix_sp rfl ⟨Nat.le_refl _, Nat.le_refl _, rfl, hQ _ _ _ h61⟩
    · have h54 := h52.2 c53
      exact ix_sp rfl ⟨Nat.le_refl _, Nat.le_refl _, rfl, hQ _ _ _ h54⟩
  · subst e
    have h22 := h21.2.2.2 rfl
    refine ix_sp rfl ⟨rfl, ⟨ix_lt rfl, ix_eq rfl, ix_lt rfl⟩, ix_le rfl, Nat.le_refl _, Nat.le_refl _, tp_X9_length_86 h22 (fun v62 I62 J62 T62 h62 => ?_)⟩
    change ix_W _ _ _ (88, [some (.inr (.inr (.inl (some (44))))), some (.inl (x1)), some (.inl (x2)), some (.inl (x3)), some (.inl (x4)), none], [.inl (v62)], 0, 0, ix_mem 276 I62 J62 T62)
    refine ix_go 3 (x' := (92, [some (.inr (.inr (.inl (some (44))))), some (.inl (x1)), some (.inl (x2)), some (.inl (x3)), some (.inl (x4)), some (.inl (v62))], [.inl ((5 : Int32)), .inr (.inr (.inl (some (44))))], 0, 0, ix_mem 276 I62 J62 T62)) rfl trivial ?_
    refine ix_sp rfl ⟨rfl, ⟨ix_lt rfl, ix_eq rfl, ix_lt rfl⟩, ix_le rfl, Nat.le_refl _, Nat.le_refl _, tp_X7_need h62 (fun I63 J63 T63 h63 => ?_)⟩
    change ix_W _ _ _ (95, [some (.inr (.inr (.inl (some (44))))), some (.inl (x1)), some (.inl (x2)), some (.inl (x3)), some (.inl (x4)), some (.inl (v62))], [], 0, 0, ix_mem 276 I63 J63 T63)
    refine ix_go 2 (x' := (97, [some (.inr (.inr (.inl (some (44))))), some (.inl (x1)), some (.inl (x2)), some (.inl (x3)), some (.inl (x4)), some (.inl (v62))], [.inl ((3 : Int32)), .inr (.inr (.inl (some (44))))], 0, 0, ix_mem 276 I63 J63 T63)) rfl trivial ?_
    refine ix_sp rfl ⟨rfl, ⟨ix_lt rfl, ix_eq rfl, ix_lt rfl⟩, ix_le rfl, Nat.le_refl _, Nat.le_refl _, tp_X7_takeFormula h63 (fun I64 J64 T64 h64 => ?_)⟩
    change ix_W _ _ _ (100, [some (.inr (.inr (.inl (some (44))))), some (.inl (x1)), some (.inl (x2)), some (.inl (x3)), some (.inl (x4)), some (.inl (v62))], [], 0, 0, ix_mem 276 I64 J64 T64)
    refine ix_go 2 (x' := (103, [some (.inr (.inr (.inl (some (44))))), some (.inl (x1)), some (.inl (x2)), some (.inl (x3)), some (.inl (x4)), some (.inl (v62))], [.inl ((59 : Int32)), .inr (.inr (.inl (some (44))))], 0, 0, ix_mem 276 I64 J64 T64)) rfl trivial ?_
    refine ix_sp rfl ⟨rfl, ⟨ix_lt rfl, ix_eq rfl, ix_lt rfl⟩, ix_le rfl, Nat.le_refl _, Nat.le_refl _, tp_X7_need h64 (fun I65 J65 T65 h65 => ?_)⟩
    change ix_W _ _ _ (106, [some (.inr (.inr (.inl (some (44))))), some (.inl (x1)), some (.inl (x2)), some (.inl (x3)), some (.inl (x4)), some (.inl (v62))], [], 0, 0, ix_mem 276 I65 J65 T65)
    refine ix_go 3 (x' := (if I65 44 10 = 0 then 113 else 127, [some (.inr (.inr (.inl (some (44))))), some (.inl (x1)), some (.inl (x2)), some (.inl (x3)), some (.inl (x4)), some (.inl (v62))], [], 0, 0, ix_mem 276 I65 J65 T65)) rfl ⟨rfl, rfl⟩ ?_
    refine ix_br (fun c66 => ?_) (fun c66 => ?_)
    · have h67 := h65.1 c66
      refine ix_go 2 (x' := (117, [some (.inr (.inr (.inl (some (44))))), some (.inl (x1)), some (.inl (x2)), some (.inl (x3)), some (.inl (x4)), some (.inl (v62))], [.inr (.inr (.inl (T65)))], 0, 0, ix_mem 276 I65 J65 T65)) rfl ⟨rfl, rfl⟩ ?_
      obtain ⟨q68, h69⟩ := h67
      rcases q68 with e | e | e | e
      · subst e
        have h70 := h69.1 rfl
        refine ix_go 5 (x' := (124, [some (.inr (.inr (.inl (some (44))))), some (.inl (x1)), some (.inl (x2)), some (.inl (x3)), some (.inl (x4)), some (.inl (v62))], [.inl (v62), .inl (x4), .inl (x3), .inl (x2), .inl (x1), .inr (.inr (.inl (some (59))))], 0, 0, ix_mem 276 I65 J65 (some 59))) rfl trivial ?_
        refine ix_sp rfl ⟨rfl, ⟨ix_lt rfl, ix_eq rfl, ix_lt rfl⟩, ix_le rfl, Nat.le_refl _, Nat.le_refl _, tp_X9_addClause_59 h70 (fun I71 J71 T71 h71 => ?_)⟩
        change ix_W _ _ _ (127, [some (.inr (.inr (.inl (some (44))))), some (.inl (x1)), some (.inl (x2)), some (.inl (x3)), some (.inl (x4)), some (.inl (v62))], [], 0, 0, ix_mem 276 I71 J71 T71)
        exact ix_sp rfl ⟨Nat.le_refl _, Nat.le_refl _, rfl, hQ _ _ _ h71⟩
      · subst e
        have h70 := h69.2.1 rfl
        refine ix_go 5 (x' := (124, [some (.inr (.inr (.inl (some (44))))), some (.inl (x1)), some (.inl (x2)), some (.inl (x3)), some (.inl (x4)), some (.inl (v62))], [.inl (v62), .inl (x4), .inl (x3), .inl (x2), .inl (x1), .inr (.inr (.inl (some (68))))], 0, 0, ix_mem 276 I65 J65 (some 68))) rfl trivial ?_
        refine ix_sp rfl ⟨rfl, ⟨ix_lt rfl, ix_eq rfl, ix_lt rfl⟩, ix_le rfl, Nat.le_refl _, Nat.le_refl _, tp_X9_addClause_68 h70 (fun I72 J72 T72 h72 => ?_)⟩
        change ix_W _ _ _ (127, [some (.inr (.inr (.inl (some (44))))), some (.inl (x1)), some (.inl (x2)), some (.inl (x3)), some (.inl (x4)), some (.inl (v62))], [], 0, 0, ix_mem 276 I72 J72 T72)
        exact ix_sp rfl ⟨Nat.le_refl _, Nat.le_refl _, rfl, hQ _ _ _ h72⟩
      · subst e
        have h70 := h69.2.2.1 rfl
        refine ix_go 5 (x' := (124, [some (.inr (.inr (.inl (some (44))))), some (.inl (x1)), some (.inl (x2)), some (.inl (x3)), some (.inl (x4)), some (.inl (v62))], [.inl (v62), .inl (x4), .inl (x3), .inl (x2), .inl (x1), .inr (.inr (.inl (some (77))))], 0, 0, ix_mem 276 I65 J65 (some 77))) rfl trivial ?_
        refine ix_sp rfl ⟨rfl, ⟨ix_lt rfl, ix_eq rfl, ix_lt rfl⟩, ix_le rfl, Nat.le_refl _, Nat.le_refl _, tp_X9_addClause_77 h70 (fun I73 J73 T73 h73 => ?_)⟩
        change ix_W _ _ _ (127, [some (.inr (.inr (.inl (some (44))))), some (.inl (x1)), some (.inl (x2)), some (.inl (x3)), some (.inl (x4)), some (.inl (v62))], [], 0, 0, ix_mem 276 I73 J73 T73)
        exact ix_sp rfl ⟨Nat.le_refl _, Nat.le_refl _, rfl, hQ _ _ _ h73⟩
      · subst e
        have h70 := h69.2.2.2 rfl
        refine ix_go 5 (x' := (124, [some (.inr (.inr (.inl (some (44))))), some (.inl (x1)), some (.inl (x2)), some (.inl (x3)), some (.inl (x4)), some (.inl (v62))], [.inl (v62), .inl (x4), .inl (x3), .inl (x2), .inl (x1), .inr (.inr (.inl (some (86))))], 0, 0, ix_mem 276 I65 J65 (some 86))) rfl trivial ?_
        refine ix_sp rfl ⟨rfl, ⟨ix_lt rfl, ix_eq rfl, ix_lt rfl⟩, ix_le rfl, Nat.le_refl _, Nat.le_refl _, tp_X9_addClause_86 h70 (fun I74 J74 T74 h74 => ?_)⟩
        change ix_W _ _ _ (127, [some (.inr (.inr (.inl (some (44))))), some (.inl (x1)), some (.inl (x2)), some (.inl (x3)), some (.inl (x4)), some (.inl (v62))], [], 0, 0, ix_mem 276 I74 J74 T74)
        exact ix_sp rfl ⟨Nat.le_refl _, Nat.le_refl _, rfl, hQ _ _ _ h74⟩
    · have h67 := h65.2 c66
      exact ix_sp rfl ⟨Nat.le_refl _, Nat.le_refl _, rfl, hQ _ _ _ h67⟩
def wj_X7_takeClause_j58 (x1 : Int32) (x2 : Int32) (s0 : Int32) (I : Nat → Nat → Int32) (J : Nat → Nat → Int64) (T : Option Nat) (P : (Nat → Nat → Int32) → (Nat → Nat → Int64) → Option Nat → Prop) : Prop := ix_tn T ∧ ((T = some 59 → wp_X9_length_59 I J (some 59) (fun v16 I16 J16 T16 => wp_X7_take ((4 : Int32)) I16 J16 T16 (fun v17 I17 J17 T17 => ((v17 = 0 → wj_X7_takeClause_j81 (x1) (x2) (s0) (v16) I17 J17 T17 P) ∧ (¬ (v17 = 0) → wp_X7_takeFormula ((0 : Int32)) I17 J17 T17 (fun I75 J75 T75 => wj_X7_takeClause_j81 (x1) (x2) (s0) (v16) I75 J75 T75 P)))))) ∧ (T = some 68 → wp_X9_length_68 I J (some 68) (fun v76 I76 J76 T76 => wp_X7_take ((4 : Int32)) I76 J76 T76 (fun v77 I77 J77 T77 => ((v77 = 0 → wj_X7_takeClause_j81 (x1) (x2) (s0) (v76) I77 J77 T77 P) ∧ (¬ (v77 = 0) → wp_X7_takeFormula ((0 : Int32)) I77 J77 T77 (fun I80 J80 T80 => wj_X7_takeClause_j81 (x1) (x2) (s0) (v76) I80 J80 T80 P)))))) ∧ (T = some 77 → wp_X9_length_77 I J (some 77) (fun v81 I81 J81 T81 => wp_X7_take ((4 : Int32)) I81 J81 T81 (fun v82 I82 J82 T82 => ((v82 = 0 → wj_X7_takeClause_j81 (x1) (x2) (s0) (v81) I82 J82 T82 P) ∧ (¬ (v82 = 0) → wp_X7_takeFormula ((0 : Int32)) I82 J82 T82 (fun I85 J85 T85 => wj_X7_takeClause_j81 (x1) (x2) (s0) (v81) I85 J85 T85 P)))))) ∧ (T = some 86 → wp_X9_length_86 I J (some 86) (fun v86 I86 J86 T86 => wp_X7_take ((4 : Int32)) I86 J86 T86 (fun v87 I87 J87 T87 => ((v87 = 0 → wj_X7_takeClause_j81 (x1) (x2) (s0) (v86) I87 J87 T87 P) ∧ (¬ (v87 = 0) → wp_X7_takeFormula ((0 : Int32)) I87 J87 T87 (fun I90 J90 T90 => wj_X7_takeClause_j81 (x1) (x2) (s0) (v86) I90 J90 T90 P)))))))
set_option maxRecDepth 20000 in
theorem tj_X7_takeClause_j58 {d : Nat} {x1 : Int32} {x2 : Int32} {s0 : Int32} {I : Nat → Nat → Int32} {J : Nat → Nat → Int64} {T : Option Nat} {P : (Nat → Nat → Int32) → (Nat → Nat → Int64) → Option Nat → Prop} {Q : ix_Q} (h : wj_X7_takeClause_j58 x1 x2 s0 I J T P) (hQ : ∀ I J T, P I J T → Q none (ix_mem 276 I J T)) : ix_W (ix_C (d + 5)) (7, ix_lk ix_l127, none, 0, 0, Nat.blt 0 0, none) Q (58, [some (.inr (.inr (.inl (some (44))))), some (.inl (x1)), some (.inl (x2)), none, none, none], [.inl (s0)], 0, 0, ix_mem 276 I J T) := by
  unfold wj_X7_takeClause_j58 at h
  refine ix_go 3 (x' := (63, [some (.inr (.inr (.inl (some (44))))), some (.inl (x1)), some (.inl (x2)), some (.inl (s0)), none, none], [.inr (.inr (.inl (T)))], 0, 0, ix_mem 276 I J T)) rfl ⟨rfl, rfl⟩ ?_
  obtain ⟨q13, h14⟩ := h
  rcases q13 with e | e | e | e
  · subst e
    have h15 := h14.1 rfl
    refine ix_sp rfl ⟨rfl, ⟨ix_lt rfl, ix_eq rfl, ix_lt rfl⟩, ix_le rfl, Nat.le_refl _, Nat.le_refl _, tp_X9_length_59 h15 (fun v16 I16 J16 T16 h16 => ?_)⟩
    change ix_W _ _ _ (66, [some (.inr (.inr (.inl (some (44))))), some (.inl (x1)), some (.inl (x2)), some (.inl (s0)), none, none], [.inl (v16)], 0, 0, ix_mem 276 I16 J16 T16)
    refine ix_go 3 (x' := (70, [some (.inr (.inr (.inl (some (44))))), some (.inl (x1)), some (.inl (x2)), some (.inl (s0)), some (.inl (v16)), none], [.inl ((4 : Int32)), .inr (.inr (.inl (some (44))))], 0, 0, ix_mem 276 I16 J16 T16)) rfl trivial ?_
    refine ix_sp rfl ⟨rfl, ⟨ix_lt rfl, ix_eq rfl, ix_lt rfl⟩, ix_le rfl, Nat.le_refl _, Nat.le_refl _, tp_X7_take h16 (fun v17 I17 J17 T17 h17 => ?_)⟩
    change ix_W _ _ _ (73, [some (.inr (.inr (.inl (some (44))))), some (.inl (x1)), some (.inl (x2)), some (.inl (s0)), some (.inl (v16)), none], [.inl (v17)], 0, 0, ix_mem 276 I17 J17 T17)
    refine ix_go 1 (x' := (if v17 = 0 then 81 else 76, [some (.inr (.inr (.inl (some (44))))), some (.inl (x1)), some (.inl (x2)), some (.inl (s0)), some (.inl (v16)), none], [], 0, 0, ix_mem 276 I17 J17 T17)) rfl trivial ?_
    refine ix_br (fun c18 => ?_) (fun c18 => ?_)
    · have h19 := h17.1 c18
      refine ix_subW ([some (.inr (.inr (.inl (some (44))))), some (.inl (x1)), some (.inl (x2)), some (.inl (s0)), some (.inl (v16)), none]) (ix_subS (ix_subS (ix_subS (ix_subS (ix_subS (ix_subS (ix_sub0))))))) ?_
      exact tj_X7_takeClause_j81 h19 hQ
    · have h19 := h17.2 c18
      refine ix_go 2 (x' := (78, [some (.inr (.inr (.inl (some (44))))), some (.inl (x1)), some (.inl (x2)), some (.inl (s0)), some (.inl (v16)), none], [.inl ((0 : Int32)), .inr (.inr (.inl (some (44))))], 0, 0, ix_mem 276 I17 J17 T17)) rfl trivial ?_
      refine ix_sp rfl ⟨rfl, ⟨ix_lt rfl, ix_eq rfl, ix_lt rfl⟩, ix_le rfl, Nat.le_refl _, Nat.le_refl _, tp_X7_takeFormula h19 (fun I75 J75 T75 h75 => ?_)⟩
      change ix_W _ _ _ (81, [some (.inr (.inr (.inl (some (44))))), some (.inl (x1)), some (.inl (x2)), some (.inl (s0)), some (.inl (v16)), none], [], 0, 0, ix_mem 276 I75 J75 T75)
      refine ix_subW ([some (.inr (.inr (.inl (some (44))))), some (.inl (x1)), some (.inl (x2)), some (.inl (s0)), some (.inl (v16)), none]) (ix_subS (ix_subS (ix_subS (ix_subS (ix_subS (ix_subS (ix_sub0))))))) ?_
      exact tj_X7_takeClause_j81 h75 hQ
  · subst e
    have h15 := h14.2.1 rfl
    refine ix_sp rfl ⟨rfl, ⟨ix_lt rfl, ix_eq rfl, ix_lt rfl⟩, ix_le rfl, Nat.le_refl _, Nat.le_refl _, tp_X9_length_68 h15 (fun v76 I76 J76 T76 h76 => ?_)⟩
    change ix_W _ _ _ (66, [some (.inr (.inr (.inl (some (44))))), some (.inl (x1)), some (.inl (x2)), some (.inl (s0)), none, none], [.inl (v76)], 0, 0, ix_mem 276 I76 J76 T76)
    refine ix_go 3 (x' := (70, [some (.inr (.inr (.inl (some (44))))), some (.inl (x1)), some (.inl (x2)), some (.inl (s0)), some (.inl (v76)), none], [.inl ((4 : Int32)), .inr (.inr (.inl (some (44))))], 0, 0, ix_mem 276 I76 J76 T76)) rfl trivial ?_
    refine ix_sp rfl ⟨rfl, ⟨ix_lt rfl, ix_eq rfl, ix_lt rfl⟩, ix_le rfl, Nat.le_refl _, Nat.le_refl _, tp_X7_take h76 (fun v77 I77 J77 T77 h77 => ?_)⟩
    change ix_W _ _ _ (73, [some (.inr (.inr (.inl (some (44))))), some (.inl (x1)), some (.inl (x2)), some (.inl (s0)), some (.inl (v76)), none], [.inl (v77)], 0, 0, ix_mem 276 I77 J77 T77)
    refine ix_go 1 (x' := (if v77 = 0 then 81 else 76, [some (.inr (.inr (.inl (some (44))))), some (.inl (x1)), some (.inl (x2)), some (.inl (s0)), some (.inl (v76)), none], [], 0, 0, ix_mem 276 I77 J77 T77)) rfl trivial ?_
    refine ix_br (fun c78 => ?_) (fun c78 => ?_)
    · have h79 := h77.1 c78
      refine ix_subW ([some (.inr (.inr (.inl (some (44))))), some (.inl (x1)), some (.inl (x2)), some (.inl (s0)), some (.inl (v76)), none]) (ix_subS (ix_subS (ix_subS (ix_subS (ix_subS (ix_subS (ix_sub0))))))) ?_
      exact tj_X7_takeClause_j81 h79 hQ
    · have h79 := h77.2 c78
      refine ix_go 2 (x' := (78, [some (.inr (.inr (.inl (some (44))))), some (.inl (x1)), some (.inl (x2)), some (.inl (s0)), some (.inl (v76)), none], [.inl ((0 : Int32)), .inr (.inr (.inl (some (44))))], 0, 0, ix_mem 276 I77 J77 T77)) rfl trivial ?_
      refine ix_sp rfl ⟨rfl, ⟨ix_lt rfl, ix_eq rfl, ix_lt rfl⟩, ix_le rfl, Nat.le_refl _, Nat.le_refl _, tp_X7_takeFormula h79 (fun I80 J80 T80 h80 => ?_)⟩
      change ix_W _ _ _ (81, [some (.inr (.inr (.inl (some (44))))), some (.inl (x1)), some (.inl (x2)), some (.inl (s0)), some (.inl (v76)), none], [], 0, 0, ix_mem 276 I80 J80 T80)
      refine ix_subW ([some (.inr (.inr (.inl (some (44))))), some (.inl (x1)), some (.inl (x2)), some (.inl (s0)), some (.inl (v76)), none]) (ix_subS (ix_subS (ix_subS (ix_subS (ix_subS (ix_subS (ix_sub0))))))) ?_
      exact tj_X7_takeClause_j81 h80 hQ
  · subst e
    have h15 := h14.2.2.1 rfl
    refine ix_sp rfl ⟨rfl, ⟨ix_lt rfl, ix_eq rfl, ix_lt rfl⟩, ix_le rfl, Nat.le_refl _, Nat.le_refl _, tp_X9_length_77 h15 (fun v81 I81 J81 T81 h81 => ?_)⟩
    change ix_W _ _ _ (66, [some (.inr (.inr (.inl (some (44))))), some (.inl (x1)), some (.inl (x2)), some (.inl (s0)), none, none], [.inl (v81)], 0, 0, ix_mem 276 I81 J81 T81)
    refine ix_go 3 (x' := (70, [some (.inr (.inr (.inl (some (44))))), some (.inl (x1)), some (.inl (x2)), some (.inl (s0)), some (.inl (v81)), none], [.inl ((4 : Int32)), .inr (.inr (.inl (some (44))))], 0, 0, ix_mem 276 I81 J81 T81)) rfl trivial ?_
    refine ix_sp rfl ⟨rfl, ⟨ix_lt rfl, ix_eq rfl, ix_lt rfl⟩, ix_le rfl, Nat.le_refl _, Nat.le_refl _, tp_X7_take h81 (fun v82 I82 J82 T82 h82 => ?_)⟩
    change ix_W _ _ _ (73, [some (.inr (.inr (.inl (some (44))))), some (.inl (x1)), some (.inl (x2)), some (.inl (s0)), some (.inl (v81)), none], [.inl (v82)], 0, 0, ix_mem 276 I82 J82 T82)
    refine ix_go 1 (x' := (if v82 = 0 then 81 else 76, [some (.inr (.inr (.inl (some (44))))), some (.inl (x1)), some (.inl (x2)), some (.inl (s0)), some (.inl (v81)), none], [], 0, 0, ix_mem 276 I82 J82 T82)) rfl trivial ?_
    refine ix_br (fun c83 => ?_) (fun c83 => ?_)
    · have h84 := h82.1 c83
      refine ix_subW ([some (.inr (.inr (.inl (some (44))))), some (.inl (x1)), some (.inl (x2)), some (.inl (s0)), some (.inl (v81)), none]) (ix_subS (ix_subS (ix_subS (ix_subS (ix_subS (ix_subS (ix_sub0))))))) ?_
      exact tj_X7_takeClause_j81 h84 hQ
    · have h84 := h82.2 c83
      refine ix_go 2 (x' := (78, [some (.inr (.inr (.inl (some (44))))), some (.inl (x1)), some (.inl (x2)), some (.inl (s0)), some (.inl (v81)), none], [.inl ((0 : Int32)), .inr (.inr (.inl (some (44))))], 0, 0, ix_mem 276 I82 J82 T82)) rfl trivial ?_
      refine ix_sp rfl ⟨rfl, ⟨ix_lt rfl, ix_eq rfl, ix_lt rfl⟩, ix_le rfl, Nat.le_refl _, Nat.le_refl _, tp_X7_takeFormula h84 (fun I85 J85 T85 h85 => ?_)⟩
      change ix_W _ _ _ (81, [some (.inr (.inr (.inl (some (44))))), some (.inl (x1)), some (.inl (x2)), some (.inl (s0)), some (.inl (v81)), none], [], 0, 0, ix_mem 276 I85 J85 T85)
      refine ix_subW ([some (.inr (.inr (.inl (some (44))))), some (.inl (x1)), some (.inl (x2)), some (.inl (s0)), some (.inl (v81)), none]) (ix_subS (ix_subS (ix_subS (ix_subS (ix_subS (ix_subS (ix_sub0))))))) ?_
      exact tj_X7_takeClause_j81 h85 hQ
  · subst e
    have h15 := h14.2.2.2 rfl
    refine ix_sp rfl ⟨rfl, ⟨ix_lt rfl, ix_eq rfl, ix_lt rfl⟩, ix_le rfl, Nat.le_refl _, Nat.le_refl _, tp_X9_length_86 h15 (fun v86 I86 J86 T86 h86 => ?_)⟩
    change ix_W _ _ _ (66, [some (.inr (.inr (.inl (some (44))))), some (.inl (x1)), some (.inl (x2)), some (.inl (s0)), none, none], [.inl (v86)], 0, 0, ix_mem 276 I86 J86 T86)
    refine ix_go 3 (x' := (70, [some (.inr (.inr (.inl (some (44))))), some (.inl (x1)), some (.inl (x2)), some (.inl (s0)), some (.inl (v86)), none], [.inl ((4 : Int32)), .inr (.inr (.inl (some (44))))], 0, 0, ix_mem 276 I86 J86 T86)) rfl trivial ?_
    refine ix_sp rfl ⟨rfl, ⟨ix_lt rfl, ix_eq rfl, ix_lt rfl⟩, ix_le rfl, Nat.le_refl _, Nat.le_refl _, tp_X7_take h86 (fun v87 I87 J87 T87 h87 => ?_)⟩
    change ix_W _ _ _ (73, [some (.inr (.inr (.inl (some (44))))), some (.inl (x1)), some (.inl (x2)), some (.inl (s0)), some (.inl (v86)), none], [.inl (v87)], 0, 0, ix_mem 276 I87 J87 T87)
    refine ix_go 1 (x' := (if v87 = 0 then 81 else 76, [some (.inr (.inr (.inl (some (44))))), some (.inl (x1)), some (.inl (x2)), some (.inl (s0)), some (.inl (v86)), none], [], 0, 0, ix_mem 276 I87 J87 T87)) rfl trivial ?_
    refine ix_br (fun c88 => ?_) (fun c88 => ?_)
    · have h89 := h87.1 c88
      refine ix_subW ([some (.inr (.inr (.inl (some (44))))), some (.inl (x1)), some (.inl (x2)), some (.inl (s0)), some (.inl (v86)), none]) (ix_subS (ix_subS (ix_subS (ix_subS (ix_subS (ix_subS (ix_sub0))))))) ?_
      exact tj_X7_takeClause_j81 h89 hQ
    · have h89 := h87.2 c88
      refine ix_go 2 (x' := (78, [some (.inr (.inr (.inl (some (44))))), some (.inl (x1)), some (.inl (x2)), some (.inl (s0)), some (.inl (v86)), none], [.inl ((0 : Int32)), .inr (.inr (.inl (some (44))))], 0, 0, ix_mem 276 I87 J87 T87)) rfl trivial ?_
      refine ix_sp rfl ⟨rfl, ⟨ix_lt rfl, ix_eq rfl, ix_lt rfl⟩, ix_le rfl, Nat.le_refl _, Nat.le_refl _, tp_X7_takeFormula h89 (fun I90 J90 T90 h90 => ?_)⟩
      change ix_W _ _ _ (81, [some (.inr (.inr (.inl (some (44))))), some (.inl (x1)), some (.inl (x2)), some (.inl (s0)), some (.inl (v86)), none], [], 0, 0, ix_mem 276 I90 J90 T90)
      refine ix_subW ([some (.inr (.inr (.inl (some (44))))), some (.inl (x1)), some (.inl (x2)), some (.inl (s0)), some (.inl (v86)), none]) (ix_subS (ix_subS (ix_subS (ix_subS (ix_subS (ix_subS (ix_sub0))))))) ?_
      exact tj_X7_takeClause_j81 h90 hQ
def wj_X7_takeClause_j41 (x1 : Int32) (s0 : Int32) (I : Nat → Nat → Int32) (J : Nat → Nat → Int64) (T : Option Nat) (P : (Nat → Nat → Int32) → (Nat → Nat → Int64) → Option Nat → Prop) : Prop := wp_X7_take ((3 : Int32)) I J T (fun v10 I10 J10 T10 => ((v10 = 0 → wj_X7_takeClause_j58 (x1) (s0) ((0 : Int32)) I10 J10 T10 P) ∧ (¬ (v10 = 0) → wp_X7_takeList I10 J10 T10 (fun v91 I91 J91 T91 => wj_X7_takeClause_j58 (x1) (s0) (v91) I91 J91 T91 P))))
set_option maxRecDepth 20000 in
theorem tj_X7_takeClause_j41 {d : Nat} {x1 : Int32} {s0 : Int32} {I : Nat → Nat → Int32} {J : Nat → Nat → Int64} {T : Option Nat} {P : (Nat → Nat → Int32) → (Nat → Nat → Int64) → Option Nat → Prop} {Q : ix_Q} (h : wj_X7_takeClause_j41 x1 s0 I J T P) (hQ : ∀ I J T, P I J T → Q none (ix_mem 276 I J T)) : ix_W (ix_C (d + 5)) (7, ix_lk ix_l127, none, 0, 0, Nat.blt 0 0, none) Q (41, [some (.inr (.inr (.inl (some (44))))), some (.inl (x1)), none, none, none, none], [.inl (s0)], 0, 0, ix_mem 276 I J T) := by
  unfold wj_X7_takeClause_j41 at h
  refine ix_go 3 (x' := (44, [some (.inr (.inr (.inl (some (44))))), some (.inl (x1)), some (.inl (s0)), none, none, none], [.inl ((3 : Int32)), .inr (.inr (.inl (some (44))))], 0, 0, ix_mem 276 I J T)) rfl trivial ?_
  refine ix_sp rfl ⟨rfl, ⟨ix_lt rfl, ix_eq rfl, ix_lt rfl⟩, ix_le rfl, Nat.le_refl _, Nat.le_refl _, tp_X7_take h (fun v10 I10 J10 T10 h10 => ?_)⟩
  change ix_W _ _ _ (47, [some (.inr (.inr (.inl (some (44))))), some (.inl (x1)), some (.inl (s0)), none, none, none], [.inl (v10)], 0, 0, ix_mem 276 I10 J10 T10)
  refine ix_go 1 (x' := (if v10 = 0 then 57 else 50, [some (.inr (.inr (.inl (some (44))))), some (.inl (x1)), some (.inl (s0)), none, none, none], [], 0, 0, ix_mem 276 I10 J10 T10)) rfl trivial ?_
  refine ix_br (fun c11 => ?_) (fun c11 => ?_)
  · have h12 := h10.1 c11
    refine ix_go 1 (x' := (58, [some (.inr (.inr (.inl (some (44))))), some (.inl (x1)), some (.inl (s0)), none, none, none], [.inl ((0 : Int32))], 0, 0, ix_mem 276 I10 J10 T10)) rfl trivial ?_
    refine ix_subW ([some (.inr (.inr (.inl (some (44))))), some (.inl (x1)), some (.inl (s0)), none, none, none]) (ix_subS (ix_subS (ix_subS (ix_subS (ix_subS (ix_subS (ix_sub0))))))) ?_
    exact tj_X7_takeClause_j58 h12 hQ
  · have h12 := h10.2 c11
    refine ix_go 1 (x' := (51, [some (.inr (.inr (.inl (some (44))))), some (.inl (x1)), some (.inl (s0)), none, none, none], [.inr (.inr (.inl (some (44))))], 0, 0, ix_mem 276 I10 J10 T10)) rfl trivial ?_
    refine ix_sp rfl ⟨rfl, ⟨ix_lt rfl, ix_eq rfl, ix_lt rfl⟩, ix_le rfl, Nat.le_refl _, Nat.le_refl _, tp_X7_takeList h12 (fun v91 I91 J91 T91 h91 => ?_)⟩
    change ix_W _ _ _ (54, [some (.inr (.inr (.inl (some (44))))), some (.inl (x1)), some (.inl (s0)), none, none, none], [.inl (v91)], 0, 0, ix_mem 276 I91 J91 T91)
    refine ix_go 1 (x' := (58, [some (.inr (.inr (.inl (some (44))))), some (.inl (x1)), some (.inl (s0)), none, none, none], [.inl (v91)], 0, 0, ix_mem 276 I91 J91 T91)) rfl trivial ?_
    refine ix_subW ([some (.inr (.inr (.inl (some (44))))), some (.inl (x1)), some (.inl (s0)), none, none, none]) (ix_subS (ix_subS (ix_subS (ix_subS (ix_subS (ix_subS (ix_sub0))))))) ?_
    exact tj_X7_takeClause_j58 h91 hQ
def wj_X7_takeClause_j25 (x1 : Int32) (I : Nat → Nat → Int32) (J : Nat → Nat → Int64) (T : Option Nat) (P : (Nat → Nat → Int32) → (Nat → Nat → Int64) → Option Nat → Prop) : Prop := wp_X7_take ((2 : Int32)) I J T (fun v7 I7 J7 T7 => ((v7 = 0 → wj_X7_takeClause_j41 (x1) ((0 : Int32)) I7 J7 T7 P) ∧ (¬ (v7 = 0) → wp_X7_takeList I7 J7 T7 (fun v92 I92 J92 T92 => wj_X7_takeClause_j41 (x1) (v92) I92 J92 T92 P))))
set_option maxRecDepth 20000 in
theorem tj_X7_takeClause_j25 {d : Nat} {x1 : Int32} {I : Nat → Nat → Int32} {J : Nat → Nat → Int64} {T : Option Nat} {P : (Nat → Nat → Int32) → (Nat → Nat → Int64) → Option Nat → Prop} {Q : ix_Q} (h : wj_X7_takeClause_j25 x1 I J T P) (hQ : ∀ I J T, P I J T → Q none (ix_mem 276 I J T)) : ix_W (ix_C (d + 5)) (7, ix_lk ix_l127, none, 0, 0, Nat.blt 0 0, none) Q (25, [some (.inr (.inr (.inl (some (44))))), some (.inl (x1)), none, none, none, none], [], 0, 0, ix_mem 276 I J T) := by
  unfold wj_X7_takeClause_j25 at h
  refine ix_go 2 (x' := (27, [some (.inr (.inr (.inl (some (44))))), some (.inl (x1)), none, none, none, none], [.inl ((2 : Int32)), .inr (.inr (.inl (some (44))))], 0, 0, ix_mem 276 I J T)) rfl trivial ?_
  refine ix_sp rfl ⟨rfl, ⟨ix_lt rfl, ix_eq rfl, ix_lt rfl⟩, ix_le rfl, Nat.le_refl _, Nat.le_refl _, tp_X7_take h (fun v7 I7 J7 T7 h7 => ?_)⟩
  change ix_W _ _ _ (30, [some (.inr (.inr (.inl (some (44))))), some (.inl (x1)), none, none, none, none], [.inl (v7)], 0, 0, ix_mem 276 I7 J7 T7)
  refine ix_go 1 (x' := (if v7 = 0 then 40 else 33, [some (.inr (.inr (.inl (some (44))))), some (.inl (x1)), none, none, none, none], [], 0, 0, ix_mem 276 I7 J7 T7)) rfl trivial ?_
  refine ix_br (fun c8 => ?_) (fun c8 => ?_)
  · have h9 := h7.1 c8
    refine ix_go 1 (x' := (41, [some (.inr (.inr (.inl (some (44))))), some (.inl (x1)), none, none, none, none], [.inl ((0 : Int32))], 0, 0, ix_mem 276 I7 J7 T7)) rfl trivial ?_
    refine ix_subW ([some (.inr (.inr (.inl (some (44))))), some (.inl (x1)), none, none, none, none]) (ix_subS (ix_subS (ix_subS (ix_subS (ix_subS (ix_subS (ix_sub0))))))) ?_
    exact tj_X7_takeClause_j41 h9 hQ
  · have h9 := h7.2 c8
    refine ix_go 1 (x' := (34, [some (.inr (.inr (.inl (some (44))))), some (.inl (x1)), none, none, none, none], [.inr (.inr (.inl (some (44))))], 0, 0, ix_mem 276 I7 J7 T7)) rfl trivial ?_
    refine ix_sp rfl ⟨rfl, ⟨ix_lt rfl, ix_eq rfl, ix_lt rfl⟩, ix_le rfl, Nat.le_refl _, Nat.le_refl _, tp_X7_takeList h9 (fun v92 I92 J92 T92 h92 => ?_)⟩
    change ix_W _ _ _ (37, [some (.inr (.inr (.inl (some (44))))), some (.inl (x1)), none, none, none, none], [.inl (v92)], 0, 0, ix_mem 276 I92 J92 T92)
    refine ix_go 1 (x' := (41, [some (.inr (.inr (.inl (some (44))))), some (.inl (x1)), none, none, none, none], [.inl (v92)], 0, 0, ix_mem 276 I92 J92 T92)) rfl trivial ?_
    refine ix_subW ([some (.inr (.inr (.inl (some (44))))), some (.inl (x1)), none, none, none, none]) (ix_subS (ix_subS (ix_subS (ix_subS (ix_subS (ix_subS (ix_sub0))))))) ?_
    exact tj_X7_takeClause_j41 h92 hQ
def wp_X7_takeClause (I : Nat → Nat → Int32) (J : Nat → Nat → Int64) (T : Option Nat) (P : (Nat → Nat → Int32) → (Nat → Nat → Int64) → Option Nat → Prop) : Prop := wp_X7_takeName I J T (fun I1 J1 T1 => wp_X7_need ((58 : Int32)) I1 J1 T1 (fun I2 J2 T2 => wp_X7_take ((1 : Int32)) I2 J2 T2 (fun v3 I3 J3 T3 => ((v3 = 0 → wp_X7_need ((0 : Int32)) I3 J3 T3 (fun I6 J6 T6 => wj_X7_takeClause_j25 (v3) I6 J6 T6 P)) ∧ (¬ (v3 = 0) → wj_X7_takeClause_j25 (v3) I3 J3 T3 P)))))
set_option maxRecDepth 20000 in
theorem tp_X7_takeClause {d : Nat} {I : Nat → Nat → Int32} {J : Nat → Nat → Int64} {T : Option Nat} {P : (Nat → Nat → Int32) → (Nat → Nat → Int64) → Option Nat → Prop} {Q : ix_Q} (h : wp_X7_takeClause I J T P) (hQ : ∀ I J T, P I J T → Q none (ix_mem 276 I J T)) : ix_C (d + 6) 127 [.inr (.inr (.inl (some (44))))] (ix_mem 276 I J T) Q := by
  unfold wp_X7_takeClause at h
  refine ix_enter (ls := [some (.inr (.inr (.inl (some (44))))), none, none, none, none, none]) rfl rfl rfl (Nat.le_of_ble_eq_true rfl) ?_
  refine ix_go 1 (x' := (1, [some (.inr (.inr (.inl (some (44))))), none, none, none, none, none], [.inr (.inr (.inl (some (44))))], 0, 0, ix_mem 276 I J T)) rfl trivial ?_
  refine ix_sp rfl ⟨rfl, ⟨ix_lt rfl, ix_eq rfl, ix_lt rfl⟩, ix_le rfl, Nat.le_refl _, Nat.le_refl _, tp_X7_takeName h (fun I1 J1 T1 h1 => ?_)⟩
  change ix_W _ _ _ (4, [some (.inr (.inr (.inl (some (44))))), none, none, none, none, none], [], 0, 0, ix_mem 276 I1 J1 T1)
  refine ix_go 2 (x' := (7, [some (.inr (.inr (.inl (some (44))))), none, none, none, none, none], [.inl ((58 : Int32)), .inr (.inr (.inl (some (44))))], 0, 0, ix_mem 276 I1 J1 T1)) rfl trivial ?_
  refine ix_sp rfl ⟨rfl, ⟨ix_lt rfl, ix_eq rfl, ix_lt rfl⟩, ix_le rfl, Nat.le_refl _, Nat.le_refl _, tp_X7_need h1 (fun I2 J2 T2 h2 => ?_)⟩
  change ix_W _ _ _ (10, [some (.inr (.inr (.inl (some (44))))), none, none, none, none, none], [], 0, 0, ix_mem 276 I2 J2 T2)
  refine ix_go 2 (x' := (12, [some (.inr (.inr (.inl (some (44))))), none, none, none, none, none], [.inl ((1 : Int32)), .inr (.inr (.inl (some (44))))], 0, 0, ix_mem 276 I2 J2 T2)) rfl trivial ?_
  refine ix_sp rfl ⟨rfl, ⟨ix_lt rfl, ix_eq rfl, ix_lt rfl⟩, ix_le rfl, Nat.le_refl _, Nat.le_refl _, tp_X7_take h2 (fun v3 I3 J3 T3 h3 => ?_)⟩
  change ix_W _ _ _ (15, [some (.inr (.inr (.inl (some (44))))), none, none, none, none, none], [.inl (v3)], 0, 0, ix_mem 276 I3 J3 T3)
  refine ix_go 3 (x' := (if v3 = 0 then 20 else 25, [some (.inr (.inr (.inl (some (44))))), some (.inl (v3)), none, none, none, none], [], 0, 0, ix_mem 276 I3 J3 T3)) rfl trivial ?_
  refine ix_br (fun c4 => ?_) (fun c4 => ?_)
  · have h5 := h3.1 c4
    refine ix_go 2 (x' := (22, [some (.inr (.inr (.inl (some (44))))), some (.inl (v3)), none, none, none, none], [.inl ((0 : Int32)), .inr (.inr (.inl (some (44))))], 0, 0, ix_mem 276 I3 J3 T3)) rfl trivial ?_
    refine ix_sp rfl ⟨rfl, ⟨ix_lt rfl, ix_eq rfl, ix_lt rfl⟩, ix_le rfl, Nat.le_refl _, Nat.le_refl _, tp_X7_need h5 (fun I6 J6 T6 h6 => ?_)⟩
    change ix_W _ _ _ (25, [some (.inr (.inr (.inl (some (44))))), some (.inl (v3)), none, none, none, none], [], 0, 0, ix_mem 276 I6 J6 T6)
    refine ix_subW ([some (.inr (.inr (.inl (some (44))))), some (.inl (v3)), none, none, none, none]) (ix_subS (ix_subS (ix_subS (ix_subS (ix_subS (ix_subS (ix_sub0))))))) ?_
    exact tj_X7_takeClause_j25 h6 hQ
  · have h5 := h3.2 c4
    refine ix_subW ([some (.inr (.inr (.inl (some (44))))), some (.inl (v3)), none, none, none, none]) (ix_subS (ix_subS (ix_subS (ix_subS (ix_subS (ix_subS (ix_sub0))))))) ?_
    exact tj_X7_takeClause_j25 h5 hQ
