def wp_X7_take (a0 : Int32) (I : Nat → Nat → Int32) (J : Nat → Nat → Int64) (T : Option Nat) (P : Int32 → (Nat → Nat → Int32) → (Nat → Nat → Int64) → Option Nat → Prop) : Prop := ((I 44 10 = 0 → ((I 44 9 = a0 → wp_X7_step I J T (fun I5 J5 T5 => P ((1 : Int32)) I5 J5 T5)) ∧ (¬ (I 44 9 = a0) → P ((0 : Int32)) I J T))) ∧ (¬ (I 44 10 = 0) → P ((0 : Int32)) I J T))
set_option maxRecDepth 20000 in
theorem tp_X7_take {d : Nat} {a0 : Int32} {I : Nat → Nat → Int32} {J : Nat → Nat → Int64} {T : Option Nat} {P : Int32 → (Nat → Nat → Int32) → (Nat → Nat → Int64) → Option Nat → Prop} {Q : ix_Q} (h : wp_X7_take a0 I J T P) (hQ : ∀ v I J T, P v I J T → Q (some (.inl v)) (ix_mem 276 I J T)) : ix_C (d + 2) 112 [.inr (.inr (.inl (some (44)))), .inl (a0)] (ix_mem 276 I J T) Q := by
  unfold wp_X7_take at h
  refine ix_enter (ls := [some (.inr (.inr (.inl (some (44))))), some (.inl (a0))]) rfl rfl rfl (Nat.le_of_ble_eq_true rfl) ?_
  refine ix_go 3 (x' := (if I 44 10 = 0 then 7 else 15, [some (.inr (.inr (.inl (some (44))))), some (.inl (a0))], [], 0, 0, ix_mem 276 I J T)) rfl ⟨rfl, rfl⟩ ?_
  refine ix_br (fun c1 => ?_) (fun c1 => ?_)
  · have h2 := h.1 c1
    refine ix_go 4 (x' := (if I 44 9 = a0 then 17 else 15, [some (.inr (.inr (.inl (some (44))))), some (.inl (a0))], [], 0, 0, ix_mem 276 I J T)) rfl ⟨rfl, rfl⟩ ?_
    refine ix_br (fun c3 => ?_) (fun c3 => ?_)
    · have h4 := h2.1 c3
      refine ix_go 1 (x' := (18, [some (.inr (.inr (.inl (some (44))))), some (.inl (a0))], [.inr (.inr (.inl (some (44))))], 0, 0, ix_mem 276 I J T)) rfl trivial ?_
      refine ix_sp rfl ⟨rfl, ⟨ix_lt rfl, ix_eq rfl, ix_lt rfl⟩, ix_le rfl, Nat.le_refl _, Nat.le_refl _, tp_X7_step h4 (fun I5 J5 T5 h5 => ?_)⟩
      change ix_W _ _ _ (21, [some (.inr (.inr (.inl (some (44))))), some (.inl (a0))], [], 0, 0, ix_mem 276 I5 J5 T5)
      refine ix_go 1 (x' := (22, [some (.inr (.inr (.inl (some (44))))), some (.inl (a0))], [.inl ((1 : Int32))], 0, 0, ix_mem 276 I5 J5 T5)) rfl trivial ?_
      exact ix_sp rfl ⟨Nat.le_refl _, Nat.le_refl _, ix_01_ok rfl, hQ _ _ _ _ h5⟩
    · have h4 := h2.2 c3
      refine ix_go 1 (x' := (16, [some (.inr (.inr (.inl (some (44))))), some (.inl (a0))], [.inl ((0 : Int32))], 0, 0, ix_mem 276 I J T)) rfl trivial ?_
      exact ix_sp rfl ⟨Nat.le_refl _, Nat.le_refl _, ix_01_ok rfl, hQ _ _ _ _ h4⟩
  · have h2 := h.2 c1
    refine ix_go 1 (x' := (16, [some (.inr (.inr (.inl (some (44))))), some (.inl (a0))], [.inl ((0 : Int32))], 0, 0, ix_mem 276 I J T)) rfl trivial ?_
    exact ix_sp rfl ⟨Nat.le_refl _, Nat.le_refl _, ix_01_ok rfl, hQ _ _ _ _ h2⟩
def wp_X7_need (a0 : Int32) (I : Nat → Nat → Int32) (J : Nat → Nat → Int64) (T : Option Nat) (P : (Nat → Nat → Int32) → (Nat → Nat → Int64) → Option Nat → Prop) : Prop := wp_X7_take (a0) I J T (fun v1 I1 J1 T1 => ((v1 = 0 → wp_X7_blame ((2 : Int32)) I1 J1 T1 (fun I4 J4 T4 => P I4 J4 T4)) ∧ (¬ (v1 = 0) → P I1 J1 T1)))
set_option maxRecDepth 20000 in
theorem tp_X7_need {d : Nat} {a0 : Int32} {I : Nat → Nat → Int32} {J : Nat → Nat → Int64} {T : Option Nat} {P : (Nat → Nat → Int32) → (Nat → Nat → Int64) → Option Nat → Prop} {Q : ix_Q} (h : wp_X7_need a0 I J T P) (hQ : ∀ I J T, P I J T → Q none (ix_mem 276 I J T)) : ix_C (d + 3) 113 [.inr (.inr (.inl (some (44)))), .inl (a0)] (ix_mem 276 I J T) Q := by
  unfold wp_X7_need at h
  refine ix_enter (ls := [some (.inr (.inr (.inl (some (44))))), some (.inl (a0))]) rfl rfl rfl (Nat.le_of_ble_eq_true rfl) ?_
  refine ix_go 2 (x' := (2, [some (.inr (.inr (.inl (some (44))))), some (.inl (a0))], [.inl (a0), .inr (.inr (.inl (some (44))))], 0, 0, ix_mem 276 I J T)) rfl trivial ?_
  refine ix_sp rfl ⟨rfl, ⟨ix_lt rfl, ix_eq rfl, ix_lt rfl⟩, ix_le rfl, Nat.le_refl _, Nat.le_refl _, tp_X7_take h (fun v1 I1 J1 T1 h1 => ?_)⟩
  change ix_W _ _ _ (5, [some (.inr (.inr (.inl (some (44))))), some (.inl (a0))], [.inl (v1)], 0, 0, ix_mem 276 I1 J1 T1)
  refine ix_go 1 (x' := (if v1 = 0 then 8 else 13, [some (.inr (.inr (.inl (some (44))))), some (.inl (a0))], [], 0, 0, ix_mem 276 I1 J1 T1)) rfl trivial ?_
  refine ix_br (fun c2 => ?_) (fun c2 => ?_)
  · have h3 := h1.1 c2
    refine ix_go 2 (x' := (10, [some (.inr (.inr (.inl (some (44))))), some (.inl (a0))], [.inl ((2 : Int32)), .inr (.inr (.inl (some (44))))], 0, 0, ix_mem 276 I1 J1 T1)) rfl trivial ?_
    refine ix_sp rfl ⟨rfl, ⟨ix_lt rfl, ix_eq rfl, ix_lt rfl⟩, ix_le rfl, Nat.le_refl _, Nat.le_refl _, tp_X7_blame h3 (fun I4 J4 T4 h4 => ?_)⟩
    change ix_W _ _ _ (13, [some (.inr (.inr (.inl (some (44))))), some (.inl (a0))], [], 0, 0, ix_mem 276 I4 J4 T4)
    exact ix_sp rfl ⟨Nat.le_refl _, Nat.le_refl _, rfl, hQ _ _ _ h4⟩
  · have h3 := h1.2 c2
    exact ix_sp rfl ⟨Nat.le_refl _, Nat.le_refl _, rfl, hQ _ _ _ h3⟩
def wb_X7_takeList_6 (x1 : Int32) (x2 : Int32) (x3 : Int32) (I : Nat → Nat → Int32) (J : Nat → Nat → Int64) (T : Option Nat) (V6 : Int32 → Int32 → Int32 → (Nat → Nat → Int32) → (Nat → Nat → Int64) → Option Nat → Prop) (P : Int32 → (Nat → Nat → Int32) → (Nat → Nat → Int64) → Option Nat → Prop) : Prop := ((x3 ≤ (7 : Int32) → ((x2 = 0 → P (x1) I J T) ∧ (¬ (x2 = 0) → ix_inb (I 44 8) 601 = true ∧ ((I 44 9 = (20 : Int32) → ((lg_cmp (J 48 (I 44 8).toNatClampNeg) ((7 : Int64)) < 0 → ((((x1) >>> (((J 48 (I 44 8).toNatClampNeg).toInt32) &&& 31)) &&& ((1 : Int32)) = 0 → wp_X7_step I J T (fun I13 J13 T13 => wp_X7_take ((44 : Int32)) I13 J13 T13 (fun v14 I14 J14 T14 => V6 ((x1) ||| (((1 : Int32)) <<< (((J 48 (I 44 8).toNatClampNeg).toInt32) &&& 31))) (v14) (x3 + (1 : Int32)) I14 J14 T14))) ∧ (¬ (((x1) >>> (((J 48 (I 44 8).toNatClampNeg).toInt32) &&& 31)) &&& ((1 : Int32)) = 0) → wp_X7_blame ((5 : Int32)) I J T (fun I15 J15 T15 => wp_X7_take ((44 : Int32)) I15 J15 T15 (fun v16 I16 J16 T16 => V6 (x1) (v16) (x3 + (1 : Int32)) I16 J16 T16))))) ∧ (¬ (lg_cmp (J 48 (I 44 8).toNatClampNeg) ((7 : Int64)) < 0) → wp_X7_blame ((5 : Int32)) I J T (fun I17 J17 T17 => wp_X7_take ((44 : Int32)) I17 J17 T17 (fun v18 I18 J18 T18 => V6 (x1) (v18) (x3 + (1 : Int32)) I18 J18 T18))))) ∧ (¬ (I 44 9 = (20 : Int32)) → wp_X7_blame ((2 : Int32)) I J T (fun I19 J19 T19 => wp_X7_take ((44 : Int32)) I19 J19 T19 (fun v20 I20 J20 T20 => V6 (x1) (v20) (x3 + (1 : Int32)) I20 J20 T20))))))) ∧ (¬ (x3 ≤ (7 : Int32)) → P (x1) I J T))
def wl_X7_takeList_6 (x1 : Int32) (x2 : Int32) (x3 : Int32) (I : Nat → Nat → Int32) (J : Nat → Nat → Int64) (T : Option Nat) (P : Int32 → (Nat → Nat → Int32) → (Nat → Nat → Int64) → Option Nat → Prop) : Prop := ∀ V : Int32 → Int32 → Int32 → (Nat → Nat → Int32) → (Nat → Nat → Int64) → Option Nat → Prop, (∀ (x1 : Int32) (x2 : Int32) (x3 : Int32) (I : Nat → Nat → Int32) (J : Nat → Nat → Int64) (T : Option Nat), wb_X7_takeList_6 x1 x2 x3 I J T V P → V x1 x2 x3 I J T) → V x1 x2 x3 I J T
set_option maxRecDepth 20000 in
theorem tl_X7_takeList_6 {d : Nat} {x1 : Int32} {x2 : Int32} {x3 : Int32} {I : Nat → Nat → Int32} {J : Nat → Nat → Int64} {T : Option Nat} {P : Int32 → (Nat → Nat → Int32) → (Nat → Nat → Int64) → Option Nat → Prop} {Q : ix_Q} (h : wl_X7_takeList_6 x1 x2 x3 I J T P) (hQ : ∀ v I J T, P v I J T → Q (some (.inl v)) (ix_mem 276 I J T)) : ix_W (ix_C (d + 2)) (7, ix_lk ix_l114, (some .int), 0, 0, Nat.blt 0 0, none) Q (6, [some (.inr (.inr (.inl (some (44))))), some (.inl (x1)), some (.inl (x2)), some (.inl (x3)), none, none], [], 0, 0, ix_mem 276 I J T) := by
  refine h (fun x1 x2 x3 I J T => ix_W (ix_C (d + 2)) (7, ix_lk ix_l114, (some .int), 0, 0, Nat.blt 0 0, none) Q (6, [some (.inr (.inr (.inl (some (44))))), some (.inl (x1)), some (.inl (x2)), some (.inl (x3)), none, none], [], 0, 0, ix_mem 276 I J T)) ?_
  intro x1 x2 x3 I J T hb
  unfold wb_X7_takeList_6 at hb
  refine ix_go 3 (x' := (if x3 ≤ (7 : Int32) then 12 else 96, [some (.inr (.inr (.inl (some (44))))), some (.inl (x1)), some (.inl (x2)), some (.inl (x3)), none, none], [], 0, 0, ix_mem 276 I J T)) rfl trivial ?_
  refine ix_br (fun c1 => ?_) (fun c1 => ?_)
  · have h2 := hb.1 c1
    refine ix_go 2 (x' := (if x2 = 0 then 96 else 16, [some (.inr (.inr (.inl (some (44))))), some (.inl (x1)), some (.inl (x2)), some (.inl (x3)), none, none], [], 0, 0, ix_mem 276 I J T)) rfl trivial ?_
    refine ix_br (fun c3 => ?_) (fun c3 => ?_)
    · have h4 := h2.1 c3
      refine ix_go 1 (x' := (97, [some (.inr (.inr (.inl (some (44))))), some (.inl (x1)), some (.inl (x2)), some (.inl (x3)), none, none], [.inl (x1)], 0, 0, ix_mem 276 I J T)) rfl trivial ?_
      exact ix_sp rfl ⟨Nat.le_refl _, Nat.le_refl _, trivial, hQ _ _ _ _ h4⟩
    · have h4 := h2.2 c3
      obtain ⟨p5, h6⟩ := h4
      refine ix_go 10 (x' := (if I 44 9 = (20 : Int32) then 44 else 36, [some (.inr (.inr (.inl (some (44))))), some (.inl (x1)), some (.inl (x2)), some (.inl (x3)), some (.inr (.inl (J 48 (I 44 8).toNatClampNeg))), none], [], 0, 0, ix_mem 276 I J T)) rfl ⟨rfl, rfl, rfl, rfl, rfl, rfl, p5, rfl, rfl⟩ ?_
      refine ix_br (fun c7 => ?_) (fun c7 => ?_)
      · have h8 := h6.1 c7
        refine ix_go 4 (x' := (if lg_cmp (J 48 (I 44 8).toNatClampNeg) ((7 : Int64)) < 0 then 53 else 63, [some (.inr (.inr (.inl (some (44))))), some (.inl (x1)), some (.inl (x2)), some (.inl (x3)), some (.inr (.inl (J 48 (I 44 8).toNatClampNeg))), none], [], 0, 0, ix_mem 276 I J T)) rfl trivial ?_
        refine ix_br (fun c9 => ?_) (fun c9 => ?_)
        · have h10 := h8.1 c9
          refine ix_go 7 (x' := (if ((x1) >>> (((J 48 (I 44 8).toNatClampNeg).toInt32) &&& 31)) &&& ((1 : Int32)) = 0 then 71 else 63, [some (.inr (.inr (.inl (some (44))))), some (.inl (x1)), some (.inl (x2)), some (.inl (x3)), some (.inr (.inl (J 48 (I 44 8).toNatClampNeg))), none], [], 0, 0, ix_mem 276 I J T)) rfl trivial ?_
          refine ix_br (fun c11 => ?_) (fun c11 => ?_)
          · have h12 := h10.1 c11
            refine ix_go 8 (x' := (80, [some (.inr (.inr (.inl (some (44))))), some (.inl ((x1) ||| (((1 : Int32)) <<< (((J 48 (I 44 8).toNatClampNeg).toInt32) &&& 31)))), some (.inl (x2)), some (.inl (x3)), some (.inr (.inl (J 48 (I 44 8).toNatClampNeg))), none], [.inr (.inr (.inl (some (44))))], 0, 0, ix_mem 276 I J T)) rfl trivial ?_
            refine ix_sp rfl ⟨rfl, ⟨ix_lt rfl, ix_eq rfl, ix_lt rfl⟩, ix_le rfl, Nat.le_refl _, Nat.le_refl _, tp_X7_step h12 (fun I13 J13 T13 h13 => ?_)⟩
            change ix_W _ _ _ (83, [some (.inr (.inr (.inl (some (44))))), some (.inl ((x1) ||| (((1 : Int32)) <<< (((J 48 (I 44 8).toNatClampNeg).toInt32) &&& 31)))), some (.inl (x2)), some (.inl (x3)), some (.inr (.inl (J 48 (I 44 8).toNatClampNeg))), none], [], 0, 0, ix_mem 276 I13 J13 T13)
            refine ix_go 2 (x' := (86, [some (.inr (.inr (.inl (some (44))))), some (.inl ((x1) ||| (((1 : Int32)) <<< (((J 48 (I 44 8).toNatClampNeg).toInt32) &&& 31)))), some (.inl (x2)), some (.inl (x3)), some (.inr (.inl (J 48 (I 44 8).toNatClampNeg))), none], [.inl ((44 : Int32)), .inr (.inr (.inl (some (44))))], 0, 0, ix_mem 276 I13 J13 T13)) rfl trivial ?_
            refine ix_sp rfl ⟨rfl, ⟨ix_lt rfl, ix_eq rfl, ix_lt rfl⟩, ix_le rfl, Nat.le_refl _, Nat.le_refl _, tp_X7_take h13 (fun v14 I14 J14 T14 h14 => ?_)⟩
            change ix_W _ _ _ (89, [some (.inr (.inr (.inl (some (44))))), some (.inl ((x1) ||| (((1 : Int32)) <<< (((J 48 (I 44 8).toNatClampNeg).toInt32) &&& 31)))), some (.inl (x2)), some (.inl (x3)), some (.inr (.inl (J 48 (I 44 8).toNatClampNeg))), none], [.inl (v14)], 0, 0, ix_mem 276 I14 J14 T14)
            refine ix_go 3 (x' := (6, [some (.inr (.inr (.inl (some (44))))), some (.inl ((x1) ||| (((1 : Int32)) <<< (((J 48 (I 44 8).toNatClampNeg).toInt32) &&& 31)))), some (.inl (v14)), some (.inl (x3 + (1 : Int32))), some (.inr (.inl (J 48 (I 44 8).toNatClampNeg))), none], [], 0, 0, ix_mem 276 I14 J14 T14)) rfl trivial ?_
            refine ix_subW ([some (.inr (.inr (.inl (some (44))))), some (.inl ((x1) ||| (((1 : Int32)) <<< (((J 48 (I 44 8).toNatClampNeg).toInt32) &&& 31)))), some (.inl (v14)), some (.inl (x3 + (1 : Int32))), none, none]) (ix_subS (ix_subS (ix_subS (ix_subS (ix_subN (ix_subS (ix_sub0))))))) ?_
            exact h14
          · have h12 := h10.2 c11
            refine ix_go 2 (x' := (65, [some (.inr (.inr (.inl (some (44))))), some (.inl (x1)), some (.inl (x2)), some (.inl (x3)), some (.inr (.inl (J 48 (I 44 8).toNatClampNeg))), none], [.inl ((5 : Int32)), .inr (.inr (.inl (some (44))))], 0, 0, ix_mem 276 I J T)) rfl trivial ?_
            refine ix_sp rfl ⟨rfl, ⟨ix_lt rfl, ix_eq rfl, ix_lt rfl⟩, ix_le rfl, Nat.le_refl _, Nat.le_refl _, tp_X7_blame h12 (fun I15 J15 T15 h15 => ?_)⟩
            change ix_W _ _ _ (68, [some (.inr (.inr (.inl (some (44))))), some (.inl (x1)), some (.inl (x2)), some (.inl (x3)), some (.inr (.inl (J 48 (I 44 8).toNatClampNeg))), none], [], 0, 0, ix_mem 276 I15 J15 T15)
            refine ix_go 3 (x' := (86, [some (.inr (.inr (.inl (some (44))))), some (.inl (x1)), some (.inl (x2)), some (.inl (x3)), some (.inr (.inl (J 48 (I 44 8).toNatClampNeg))), none], [.inl ((44 : Int32)), .inr (.inr (.inl (some (44))))], 0, 0, ix_mem 276 I15 J15 T15)) rfl trivial ?_
            refine ix_sp rfl ⟨rfl, ⟨ix_lt rfl, ix_eq rfl, ix_lt rfl⟩, ix_le rfl, Nat.le_refl _, Nat.le_refl _, tp_X7_take h15 (fun v16 I16 J16 T16 h16 => ?_)⟩
            change ix_W _ _ _ (89, [some (.inr (.inr (.inl (some (44))))), some (.inl (x1)), some (.inl (x2)), some (.inl (x3)), some (.inr (.inl (J 48 (I 44 8).toNatClampNeg))), none], [.inl (v16)], 0, 0, ix_mem 276 I16 J16 T16)
            refine ix_go 3 (x' := (6, [some (.inr (.inr (.inl (some (44))))), some (.inl (x1)), some (.inl (v16)), some (.inl (x3 + (1 : Int32))), some (.inr (.inl (J 48 (I 44 8).toNatClampNeg))), none], [], 0, 0, ix_mem 276 I16 J16 T16)) rfl trivial ?_
            refine ix_subW ([some (.inr (.inr (.inl (some (44))))), some (.inl (x1)), some (.inl (v16)), some (.inl (x3 + (1 : Int32))), none, none]) (ix_subS (ix_subS (ix_subS (ix_subS (ix_subN (ix_subS (ix_sub0))))))) ?_
            exact h16
        · have h10 := h8.2 c9
          refine ix_go 2 (x' := (65, [some (.inr (.inr (.inl (some (44))))), some (.inl (x1)), some (.inl (x2)), some (.inl (x3)), some (.inr (.inl (J 48 (I 44 8).toNatClampNeg))), none], [.inl ((5 : Int32)), .inr (.inr (.inl (some (44))))], 0, 0, ix_mem 276 I J T)) rfl trivial ?_
          refine ix_sp rfl ⟨rfl, ⟨ix_lt rfl, ix_eq rfl, ix_lt rfl⟩, ix_le rfl, Nat.le_refl _, Nat.le_refl _, tp_X7_blame h10 (fun I17 J17 T17 h17 => ?_)⟩
          change ix_W _ _ _ (68, [some (.inr (.inr (.inl (some (44))))), some (.inl (x1)), some (.inl (x2)), some (.inl (x3)), some (.inr (.inl (J 48 (I 44 8).toNatClampNeg))), none], [], 0, 0, ix_mem 276 I17 J17 T17)
          refine ix_go 3 (x' := (86, [some (.inr (.inr (.inl (some (44))))), some (.inl (x1)), some (.inl (x2)), some (.inl (x3)), some (.inr (.inl (J 48 (I 44 8).toNatClampNeg))), none], [.inl ((44 : Int32)), .inr (.inr (.inl (some (44))))], 0, 0, ix_mem 276 I17 J17 T17)) rfl trivial ?_
          refine ix_sp rfl ⟨rfl, ⟨ix_lt rfl, ix_eq rfl, ix_lt rfl⟩, ix_le rfl, Nat.le_refl _, Nat.le_refl _, tp_X7_take h17 (fun v18 I18 J18 T18 h18 => ?_)⟩
          change ix_W _ _ _ (89, [some (.inr (.inr (.inl (some (44))))), some (.inl (x1)), some (.inl (x2)), some (.inl (x3)), some (.inr (.inl (J 48 (I 44 8).toNatClampNeg))), none], [.inl (v18)], 0, 0, ix_mem 276 I18 J18 T18)
          refine ix_go 3 (x' := (6, [some (.inr (.inr (.inl (some (44))))), some (.inl (x1)), some (.inl (v18)), some (.inl (x3 + (1 : Int32))), some (.inr (.inl (J 48 (I 44 8).toNatClampNeg))), none], [], 0, 0, ix_mem 276 I18 J18 T18)) rfl trivial ?_
          refine ix_subW ([some (.inr (.inr (.inl (some (44))))), some (.inl (x1)), some (.inl (v18)), some (.inl (x3 + (1 : Int32))), none, none]) (ix_subS (ix_subS (ix_subS (ix_subS (ix_subN (ix_subS (ix_sub0))))))) ?_
          exact h18
      · have h8 := h6.2 c7
        refine ix_go 2 (x' := (38, [some (.inr (.inr (.inl (some (44))))), some (.inl (x1)), some (.inl (x2)), some (.inl (x3)), some (.inr (.inl (J 48 (I 44 8).toNatClampNeg))), none], [.inl ((2 : Int32)), .inr (.inr (.inl (some (44))))], 0, 0, ix_mem 276 I J T)) rfl trivial ?_
        refine ix_sp rfl ⟨rfl, ⟨ix_lt rfl, ix_eq rfl, ix_lt rfl⟩, ix_le rfl, Nat.le_refl _, Nat.le_refl _, tp_X7_blame h8 (fun I19 J19 T19 h19 => ?_)⟩
        change ix_W _ _ _ (41, [some (.inr (.inr (.inl (some (44))))), some (.inl (x1)), some (.inl (x2)), some (.inl (x3)), some (.inr (.inl (J 48 (I 44 8).toNatClampNeg))), none], [], 0, 0, ix_mem 276 I19 J19 T19)
        refine ix_go 3 (x' := (86, [some (.inr (.inr (.inl (some (44))))), some (.inl (x1)), some (.inl (x2)), some (.inl (x3)), some (.inr (.inl (J 48 (I 44 8).toNatClampNeg))), none], [.inl ((44 : Int32)), .inr (.inr (.inl (some (44))))], 0, 0, ix_mem 276 I19 J19 T19)) rfl trivial ?_
        refine ix_sp rfl ⟨rfl, ⟨ix_lt rfl, ix_eq rfl, ix_lt rfl⟩, ix_le rfl, Nat.le_refl _, Nat.le_refl _, tp_X7_take h19 (fun v20 I20 J20 T20 h20 => ?_)⟩
        change ix_W _ _ _ (89, [some (.inr (.inr (.inl (some (44))))), some (.inl (x1)), some (.inl (x2)), some (.inl (x3)), some (.inr (.inl (J 48 (I 44 8).toNatClampNeg))), none], [.inl (v20)], 0, 0, ix_mem 276 I20 J20 T20)
        refine ix_go 3 (x' := (6, [some (.inr (.inr (.inl (some (44))))), some (.inl (x1)), some (.inl (v20)), some (.inl (x3 + (1 : Int32))), some (.inr (.inl (J 48 (I 44 8).toNatClampNeg))), none], [], 0, 0, ix_mem 276 I20 J20 T20)) rfl trivial ?_
        refine ix_subW ([some (.inr (.inr (.inl (some (44))))), some (.inl (x1)), some (.inl (v20)), some (.inl (x3 + (1 : Int32))), none, none]) (ix_subS (ix_subS (ix_subS (ix_subS (ix_subN (ix_subS (ix_sub0))))))) ?_
        exact h20
  · have h2 := hb.2 c1
    refine ix_go 1 (x' := (97, [some (.inr (.inr (.inl (some (44))))), some (.inl (x1)), some (.inl (x2)), some (.inl (x3)), none, none], [.inl (x1)], 0, 0, ix_mem 276 I J T)) rfl trivial ?_
    exact ix_sp rfl ⟨Nat.le_refl _, Nat.le_refl _, trivial, hQ _ _ _ _ h2⟩
def wp_X7_takeList (I : Nat → Nat → Int32) (J : Nat → Nat → Int64) (T : Option Nat) (P : Int32 → (Nat → Nat → Int32) → (Nat → Nat → Int64) → Option Nat → Prop) : Prop := wl_X7_takeList_6 ((0 : Int32)) ((1 : Int32)) ((0 : Int32)) I J T P
set_option maxRecDepth 20000 in
theorem tp_X7_takeList {d : Nat} {I : Nat → Nat → Int32} {J : Nat → Nat → Int64} {T : Option Nat} {P : Int32 → (Nat → Nat → Int32) → (Nat → Nat → Int64) → Option Nat → Prop} {Q : ix_Q} (h : wp_X7_takeList I J T P) (hQ : ∀ v I J T, P v I J T → Q (some (.inl v)) (ix_mem 276 I J T)) : ix_C (d + 3) 114 [.inr (.inr (.inl (some (44))))] (ix_mem 276 I J T) Q := by
  unfold wp_X7_takeList at h
  refine ix_enter (ls := [some (.inr (.inr (.inl (some (44))))), none, none, none, none, none]) rfl rfl rfl (Nat.le_of_ble_eq_true rfl) ?_
  refine ix_go 6 (x' := (6, [some (.inr (.inr (.inl (some (44))))), some (.inl ((0 : Int32))), some (.inl ((1 : Int32))), some (.inl ((0 : Int32))), none, none], [], 0, 0, ix_mem 276 I J T)) rfl trivial ?_
  refine ix_subW ([some (.inr (.inr (.inl (some (44))))), some (.inl ((0 : Int32))), some (.inl ((1 : Int32))), some (.inl ((0 : Int32))), none, none]) (ix_subS (ix_subS (ix_subS (ix_subS (ix_subS (ix_subS (ix_sub0))))))) ?_
  exact tl_X7_takeList_6 h hQ
def wp_X9_length_59 (I : Nat → Nat → Int32) (J : Nat → Nat → Int64) (T : Option Nat) (P : Int32 → (Nat → Nat → Int32) → (Nat → Nat → Int64) → Option Nat → Prop) : Prop := P (I 59 1) I J T
set_option maxRecDepth 20000 in
theorem tp_X9_length_59 {d : Nat} {I : Nat → Nat → Int32} {J : Nat → Nat → Int64} {T : Option Nat} {P : Int32 → (Nat → Nat → Int32) → (Nat → Nat → Int64) → Option Nat → Prop} {Q : ix_Q} (h : wp_X9_length_59 I J T P) (hQ : ∀ v I J T, P v I J T → Q (some (.inl v)) (ix_mem 276 I J T)) : ix_C (d + 1) 115 [.inr (.inr (.inl (some (59))))] (ix_mem 276 I J T) Q := by
  unfold wp_X9_length_59 at h
  refine ix_enter (ls := [some (.inr (.inr (.inl (some (59)))))]) rfl rfl rfl (Nat.le_of_ble_eq_true rfl) ?_
  refine ix_go 2 (x' := (4, [some (.inr (.inr (.inl (some (59)))))], [.inl (I 59 1)], 0, 0, ix_mem 276 I J T)) rfl ⟨rfl, rfl⟩ ?_
  exact ix_sp rfl ⟨Nat.le_refl _, Nat.le_refl _, trivial, hQ _ _ _ _ h⟩
def wp_X9_length_68 (I : Nat → Nat → Int32) (J : Nat → Nat → Int64) (T : Option Nat) (P : Int32 → (Nat → Nat → Int32) → (Nat → Nat → Int64) → Option Nat → Prop) : Prop := P (I 68 1) I J T
set_option maxRecDepth 20000 in
theorem tp_X9_length_68 {d : Nat} {I : Nat → Nat → Int32} {J : Nat → Nat → Int64} {T : Option Nat} {P : Int32 → (Nat → Nat → Int32) → (Nat → Nat → Int64) → Option Nat → Prop} {Q : ix_Q} (h : wp_X9_length_68 I J T P) (hQ : ∀ v I J T, P v I J T → Q (some (.inl v)) (ix_mem 276 I J T)) : ix_C (d + 1) 115 [.inr (.inr (.inl (some (68))))] (ix_mem 276 I J T) Q := by
  unfold wp_X9_length_68 at h
  refine ix_enter (ls := [some (.inr (.inr (.inl (some (68)))))]) rfl rfl rfl (Nat.le_of_ble_eq_true rfl) ?_
  refine ix_go 2 (x' := (4, [some (.inr (.inr (.inl (some (68)))))], [.inl (I 68 1)], 0, 0, ix_mem 276 I J T)) rfl ⟨rfl, rfl⟩ ?_
  exact ix_sp rfl ⟨Nat.le_refl _, Nat.le_refl _, trivial, hQ _ _ _ _ h⟩
def wp_X9_length_77 (I : Nat → Nat → Int32) (J : Nat → Nat → Int64) (T : Option Nat) (P : Int32 → (Nat → Nat → Int32) → (Nat → Nat → Int64) → Option Nat → Prop) : Prop := P (I 77 1) I J T
set_option maxRecDepth 20000 in
theorem tp_X9_length_77 {d : Nat} {I : Nat → Nat → Int32} {J : Nat → Nat → Int64} {T : Option Nat} {P : Int32 → (Nat → Nat → Int32) → (Nat → Nat → Int64) → Option Nat → Prop} {Q : ix_Q} (h : wp_X9_length_77 I J T P) (hQ : ∀ v I J T, P v I J T → Q (some (.inl v)) (ix_mem 276 I J T)) : ix_C (d + 1) 115 [.inr (.inr (.inl (some (77))))] (ix_mem 276 I J T) Q := by
  unfold wp_X9_length_77 at h
  refine ix_enter (ls := [some (.inr (.inr (.inl (some (77)))))]) rfl rfl rfl (Nat.le_of_ble_eq_true rfl) ?_
  refine ix_go 2 (x' := (4, [some (.inr (.inr (.inl (some (77)))))], [.inl (I 77 1)], 0, 0, ix_mem 276 I J T)) rfl ⟨rfl, rfl⟩ ?_
  exact ix_sp rfl ⟨Nat.le_refl _, Nat.le_refl _, trivial, hQ _ _ _ _ h⟩
def wp_X9_length_86 (I : Nat → Nat → Int32) (J : Nat → Nat → Int64) (T : Option Nat) (P : Int32 → (Nat → Nat → Int32) → (Nat → Nat → Int64) → Option Nat → Prop) : Prop := P (I 86 1) I J T
set_option maxRecDepth 20000 in
theorem tp_X9_length_86 {d : Nat} {I : Nat → Nat → Int32} {J : Nat → Nat → Int64} {T : Option Nat} {P : Int32 → (Nat → Nat → Int32) → (Nat → Nat → Int64) → Option Nat → Prop} {Q : ix_Q} (h : wp_X9_length_86 I J T P) (hQ : ∀ v I J T, P v I J T → Q (some (.inl v)) (ix_mem 276 I J T)) : ix_C (d + 1) 115 [.inr (.inr (.inl (some (86))))] (ix_mem 276 I J T) Q := by
  unfold wp_X9_length_86 at h
  refine ix_enter (ls := [some (.inr (.inr (.inl (some (86)))))]) rfl rfl rfl (Nat.le_of_ble_eq_true rfl) ?_
  refine ix_go 2 (x' := (4, [some (.inr (.inr (.inl (some (86)))))], [.inl (I 86 1)], 0, 0, ix_mem 276 I J T)) rfl ⟨rfl, rfl⟩ ?_
  exact ix_sp rfl ⟨Nat.le_refl _, Nat.le_refl _, trivial, hQ _ _ _ _ h⟩
def wp_X9_emit_59 (a0 : Int32) (I : Nat → Nat → Int32) (J : Nat → Nat → Int64) (T : Option Nat) (P : (Nat → Nat → Int32) → (Nat → Nat → Int64) → Option Nat → Prop) : Prop := ((I 59 1 < (600 : Int32) → ix_inb (I 59 1) 600 = true ∧ P (ix_u2 (ix_u2 I 66 (I 59 1).toNatClampNeg (a0)) 59 1 ((I 59 1) + ((1 : Int32)))) J T) ∧ (¬ (I 59 1 < (600 : Int32)) → P I J T))
set_option maxRecDepth 20000 in
theorem tp_X9_emit_59 {d : Nat} {a0 : Int32} {I : Nat → Nat → Int32} {J : Nat → Nat → Int64} {T : Option Nat} {P : (Nat → Nat → Int32) → (Nat → Nat → Int64) → Option Nat → Prop} {Q : ix_Q} (h : wp_X9_emit_59 a0 I J T P) (hQ : ∀ I J T, P I J T → Q none (ix_mem 276 I J T)) : ix_C (d + 1) 116 [.inr (.inr (.inl (some (59)))), .inl (a0)] (ix_mem 276 I J T) Q := by
  unfold wp_X9_emit_59 at h
  refine ix_enter (ls := [some (.inr (.inr (.inl (some (59))))), some (.inl (a0))]) rfl rfl rfl (Nat.le_of_ble_eq_true rfl) ?_
  refine ix_go 4 (x' := (if I 59 1 < (600 : Int32) then 10 else 30, [some (.inr (.inr (.inl (some (59))))), some (.inl (a0))], [], 0, 0, ix_mem 276 I J T)) rfl ⟨rfl, rfl⟩ ?_
  refine ix_br (fun c1 => ?_) (fun c1 => ?_)
  · have h2 := h.1 c1
    obtain ⟨p3, h4⟩ := h2
    refine ix_go 12 (x' := (30, [some (.inr (.inr (.inl (some (59))))), some (.inl (a0))], [], 0, 0, ix_mem 276 (ix_u2 (ix_u2 I 66 (I 59 1).toNatClampNeg (a0)) 59 1 ((I 59 1) + ((1 : Int32)))) J T)) rfl ⟨rfl, rfl, rfl, rfl, rfl, rfl, p3, rfl, rfl, rfl, rfl⟩ ?_
    exact ix_sp rfl ⟨Nat.le_refl _, Nat.le_refl _, rfl, hQ _ _ _ h4⟩
  · have h2 := h.2 c1
    exact ix_sp rfl ⟨Nat.le_refl _, Nat.le_refl _, rfl, hQ _ _ _ h2⟩
def wp_X9_emit_68 (a0 : Int32) (I : Nat → Nat → Int32) (J : Nat → Nat → Int64) (T : Option Nat) (P : (Nat → Nat → Int32) → (Nat → Nat → Int64) → Option Nat → Prop) : Prop := ((I 68 1 < (600 : Int32) → ix_inb (I 68 1) 600 = true ∧ P (ix_u2 (ix_u2 I 75 (I 68 1).toNatClampNeg (a0)) 68 1 ((I 68 1) + ((1 : Int32)))) J T) ∧ (¬ (I 68 1 < (600 : Int32)) → P I J T))
set_option maxRecDepth 20000 in
theorem tp_X9_emit_68 {d : Nat} {a0 : Int32} {I : Nat → Nat → Int32} {J : Nat → Nat → Int64} {T : Option Nat} {P : (Nat → Nat → Int32) → (Nat → Nat → Int64) → Option Nat → Prop} {Q : ix_Q} (h : wp_X9_emit_68 a0 I J T P) (hQ : ∀ I J T, P I J T → Q none (ix_mem 276 I J T)) : ix_C (d + 1) 116 [.inr (.inr (.inl (some (68)))), .inl (a0)] (ix_mem 276 I J T) Q := by
  unfold wp_X9_emit_68 at h
  refine ix_enter (ls := [some (.inr (.inr (.inl (some (68))))), some (.inl (a0))]) rfl rfl rfl (Nat.le_of_ble_eq_true rfl) ?_
  refine ix_go 4 (x' := (if I 68 1 < (600 : Int32) then 10 else 30, [some (.inr (.inr (.inl (some (68))))), some (.inl (a0))], [], 0, 0, ix_mem 276 I J T)) rfl ⟨rfl, rfl⟩ ?_
  refine ix_br (fun c1 => ?_) (fun c1 => ?_)
  · have h2 := h.1 c1
    obtain ⟨p3, h4⟩ := h2
    refine ix_go 12 (x' := (30, [some (.inr (.inr (.inl (some (68))))), some (.inl (a0))], [], 0, 0, ix_mem 276 (ix_u2 (ix_u2 I 75 (I 68 1).toNatClampNeg (a0)) 68 1 ((I 68 1) + ((1 : Int32)))) J T)) rfl ⟨rfl, rfl, rfl, rfl, rfl, rfl, p3, rfl, rfl, rfl, rfl⟩ ?_
    exact ix_sp rfl ⟨Nat.le_refl _, Nat.le_refl _, rfl, hQ _ _ _ h4⟩
  · have h2 := h.2 c1
    exact ix_sp rfl ⟨Nat.le_refl _, Nat.le_refl _, rfl, hQ _ _ _ h2⟩
def wp_X9_emit_77 (a0 : Int32) (I : Nat → Nat → Int32) (J : Nat → Nat → Int64) (T : Option Nat) (P : (Nat → Nat → Int32) → (Nat → Nat → Int64) → Option Nat → Prop) : Prop := ((I 77 1 < (600 : Int32) → ix_inb (I 77 1) 600 = true ∧ P (ix_u2 (ix_u2 I 84 (I 77 1).toNatClampNeg (a0)) 77 1 ((I 77 1) + ((1 : Int32)))) J T) ∧ (¬ (I 77 1 < (600 : Int32)) → P I J T))
set_option maxRecDepth 20000 in
theorem tp_X9_emit_77 {d : Nat} {a0 : Int32} {I : Nat → Nat → Int32} {J : Nat → Nat → Int64} {T : Option Nat} {P : (Nat → Nat → Int32) → (Nat → Nat → Int64) → Option Nat → Prop} {Q : ix_Q} (h : wp_X9_emit_77 a0 I J T P) (hQ : ∀ I J T, P I J T → Q none (ix_mem 276 I J T)) : ix_C (d + 1) 116 [.inr (.inr (.inl (some (77)))), .inl (a0)] (ix_mem 276 I J T) Q := by
  unfold wp_X9_emit_77 at h
  refine ix_enter (ls := [some (.inr (.inr (.inl (some (77))))), some (.inl (a0))]) rfl rfl rfl (Nat.le_of_ble_eq_true rfl) ?_
  refine ix_go 4 (x' := (if I 77 1 < (600 : Int32) then 10 else 30, [some (.inr (.inr (.inl (some (77))))), some (.inl (a0))], [], 0, 0, ix_mem 276 I J T)) rfl ⟨rfl, rfl⟩ ?_
  refine ix_br (fun c1 => ?_) (fun c1 => ?_)
  · have h2 := h.1 c1
    obtain ⟨p3, h4⟩ := h2
    refine ix_go 12 (x' := (30, [some (.inr (.inr (.inl (some (77))))), some (.inl (a0))], [], 0, 0, ix_mem 276 (ix_u2 (ix_u2 I 84 (I 77 1).toNatClampNeg (a0)) 77 1 ((I 77 1) + ((1 : Int32)))) J T)) rfl ⟨rfl, rfl, rfl, rfl, rfl, rfl, p3, rfl, rfl, rfl, rfl⟩ ?_
    exact ix_sp rfl ⟨Nat.le_refl _, Nat.le_refl _, rfl, hQ _ _ _ h4⟩
  · have h2 := h.2 c1
    exact ix_sp rfl ⟨Nat.le_refl _, Nat.le_refl _, rfl, hQ _ _ _ h2⟩
def wp_X9_emit_86 (a0 : Int32) (I : Nat → Nat → Int32) (J : Nat → Nat → Int64) (T : Option Nat) (P : (Nat → Nat → Int32) → (Nat → Nat → Int64) → Option Nat → Prop) : Prop := ((I 86 1 < (600 : Int32) → ix_inb (I 86 1) 600 = true ∧ P (ix_u2 (ix_u2 I 93 (I 86 1).toNatClampNeg (a0)) 86 1 ((I 86 1) + ((1 : Int32)))) J T) ∧ (¬ (I 86 1 < (600 : Int32)) → P I J T))
set_option maxRecDepth 20000 in
theorem tp_X9_emit_86 {d : Nat} {a0 : Int32} {I : Nat → Nat → Int32} {J : Nat → Nat → Int64} {T : Option Nat} {P : (Nat → Nat → Int32) → (Nat → Nat → Int64) → Option Nat → Prop} {Q : ix_Q} (h : wp_X9_emit_86 a0 I J T P) (hQ : ∀ I J T, P I J T → Q none (ix_mem 276 I J T)) : ix_C (d + 1) 116 [.inr (.inr (.inl (some (86)))), .inl (a0)] (ix_mem 276 I J T) Q := by
  unfold wp_X9_emit_86 at h
  refine ix_enter (ls := [some (.inr (.inr (.inl (some (86))))), some (.inl (a0))]) rfl rfl rfl (Nat.le_of_ble_eq_true rfl) ?_
  refine ix_go 4 (x' := (if I 86 1 < (600 : Int32) then 10 else 30, [some (.inr (.inr (.inl (some (86))))), some (.inl (a0))], [], 0, 0, ix_mem 276 I J T)) rfl ⟨rfl, rfl⟩ ?_
  refine ix_br (fun c1 => ?_) (fun c1 => ?_)
  · have h2 := h.1 c1
    obtain ⟨p3, h4⟩ := h2
    refine ix_go 12 (x' := (30, [some (.inr (.inr (.inl (some (86))))), some (.inl (a0))], [], 0, 0, ix_mem 276 (ix_u2 (ix_u2 I 93 (I 86 1).toNatClampNeg (a0)) 86 1 ((I 86 1) + ((1 : Int32)))) J T)) rfl ⟨rfl, rfl, rfl, rfl, rfl, rfl, p3, rfl, rfl, rfl, rfl⟩ ?_
    exact ix_sp rfl ⟨Nat.le_refl _, Nat.le_refl _, rfl, hQ _ _ _ h4⟩
  · have h2 := h.2 c1
    exact ix_sp rfl ⟨Nat.le_refl _, Nat.le_refl _, rfl, hQ _ _ _ h2⟩
def wp_X7_hold (a0 : Int32) (I : Nat → Nat → Int32) (J : Nat → Nat → Int64) (T : Option Nat) (P : (Nat → Nat → Int32) → (Nat → Nat → Int64) → Option Nat → Prop) : Prop := ((I 44 15 < (48 : Int32) → ix_inb (I 44 15) 48 = true ∧ P (ix_u2 (ix_u2 I 50 (I 44 15).toNatClampNeg (a0)) 44 15 ((I 44 15) + ((1 : Int32)))) J T) ∧ (¬ (I 44 15 < (48 : Int32)) → P I J T))
set_option maxRecDepth 20000 in
theorem tp_X7_hold {d : Nat} {a0 : Int32} {I : Nat → Nat → Int32} {J : Nat → Nat → Int64} {T : Option Nat} {P : (Nat → Nat → Int32) → (Nat → Nat → Int64) → Option Nat → Prop} {Q : ix_Q} (h : wp_X7_hold a0 I J T P) (hQ : ∀ I J T, P I J T → Q none (ix_mem 276 I J T)) : ix_C (d + 1) 117 [.inr (.inr (.inl (some (44)))), .inl (a0)] (ix_mem 276 I J T) Q := by
  unfold wp_X7_hold at h
  refine ix_enter (ls := [some (.inr (.inr (.inl (some (44))))), some (.inl (a0))]) rfl rfl rfl (Nat.le_of_ble_eq_true rfl) ?_
  refine ix_go 4 (x' := (if I 44 15 < (48 : Int32) then 9 else 29, [some (.inr (.inr (.inl (some (44))))), some (.inl (a0))], [], 0, 0, ix_mem 276 I J T)) rfl ⟨rfl, rfl⟩ ?_
  refine ix_br (fun c1 => ?_) (fun c1 => ?_)
  · have h2 := h.1 c1
    obtain ⟨p3, h4⟩ := h2
    refine ix_go 12 (x' := (29, [some (.inr (.inr (.inl (some (44))))), some (.inl (a0))], [], 0, 0, ix_mem 276 (ix_u2 (ix_u2 I 50 (I 44 15).toNatClampNeg (a0)) 44 15 ((I 44 15) + ((1 : Int32)))) J T)) rfl ⟨rfl, rfl, rfl, rfl, rfl, rfl, p3, rfl, rfl, rfl, rfl⟩ ?_
    exact ix_sp rfl ⟨Nat.le_refl _, Nat.le_refl _, rfl, hQ _ _ _ h4⟩
  · have h2 := h.2 c1
    exact ix_sp rfl ⟨Nat.le_refl _, Nat.le_refl _, rfl, hQ _ _ _ h2⟩
def wp_X7_openBracket (a0 : Int32) (I : Nat → Nat → Int32) (J : Nat → Nat → Int64) (T : Option Nat) (P : (Nat → Nat → Int32) → (Nat → Nat → Int64) → Option Nat → Prop) : Prop := ((I 44 9 = (40 : Int32) → ((I 44 16 < (10 : Int32) → wp_X7_hold (a0) (ix_u2 I 44 16 ((I 44 16) + ((1 : Int32)))) J T (fun I5 J5 T5 => wp_X7_step I5 J5 T5 (fun I6 J6 T6 => P I6 J6 T6))) ∧ (¬ (I 44 16 < (10 : Int32)) → wp_X7_blame ((6 : Int32)) I J T (fun I7 J7 T7 => P I7 J7 T7)))) ∧ (¬ (I 44 9 = (40 : Int32)) → wp_X7_blame ((2 : Int32)) I J T (fun I8 J8 T8 => P I8 J8 T8)))
set_option maxRecDepth 20000 in
theorem tp_X7_openBracket {d : Nat} {a0 : Int32} {I : Nat → Nat → Int32} {J : Nat → Nat → Int64} {T : Option Nat} {P : (Nat → Nat → Int32) → (Nat → Nat → Int64) → Option Nat → Prop} {Q : ix_Q} (h : wp_X7_openBracket a0 I J T P) (hQ : ∀ I J T, P I J T → Q none (ix_mem 276 I J T)) : ix_C (d + 2) 118 [.inr (.inr (.inl (some (44)))), .inl (a0)] (ix_mem 276 I J T) Q := by
  unfold wp_X7_openBracket at h
  refine ix_enter (ls := [some (.inr (.inr (.inl (some (44))))), some (.inl (a0))]) rfl rfl rfl (Nat.le_of_ble_eq_true rfl) ?_
  refine ix_go 4 (x' := (if I 44 9 = (40 : Int32) then 17 else 9, [some (.inr (.inr (.inl (some (44))))), some (.inl (a0))], [], 0, 0, ix_mem 276 I J T)) rfl ⟨rfl, rfl⟩ ?_
  refine ix_br (fun c1 => ?_) (fun c1 => ?_)
  · have h2 := h.1 c1
    refine ix_go 4 (x' := (if I 44 16 < (10 : Int32) then 35 else 26, [some (.inr (.inr (.inl (some (44))))), some (.inl (a0))], [], 0, 0, ix_mem 276 I J T)) rfl ⟨rfl, rfl⟩ ?_
    refine ix_br (fun c3 => ?_) (fun c3 => ?_)
    · have h4 := h2.1 c3
      refine ix_go 8 (x' := (47, [some (.inr (.inr (.inl (some (44))))), some (.inl (a0))], [.inl (a0), .inr (.inr (.inl (some (44))))], 0, 0, ix_mem 276 (ix_u2 I 44 16 ((I 44 16) + ((1 : Int32)))) J T)) rfl ⟨rfl, rfl, rfl, rfl⟩ ?_
      refine ix_sp rfl ⟨rfl, ⟨ix_lt rfl, ix_eq rfl, ix_lt rfl⟩, ix_le rfl, Nat.le_refl _, Nat.le_refl _, tp_X7_hold h4 (fun I5 J5 T5 h5 => ?_)⟩
      change ix_W _ _ _ (50, [some (.inr (.inr (.inl (some (44))))), some (.inl (a0))], [], 0, 0, ix_mem 276 I5 J5 T5)
      refine ix_go 1 (x' := (51, [some (.inr (.inr (.inl (some (44))))), some (.inl (a0))], [.inr (.inr (.inl (some (44))))], 0, 0, ix_mem 276 I5 J5 T5)) rfl trivial ?_
      refine ix_sp rfl ⟨rfl, ⟨ix_lt rfl, ix_eq rfl, ix_lt rfl⟩, ix_le rfl, Nat.le_refl _, Nat.le_refl _, tp_X7_step h5 (fun I6 J6 T6 h6 => ?_)⟩
      change ix_W _ _ _ (54, [some (.inr (.inr (.inl (some (44))))), some (.inl (a0))], [], 0, 0, ix_mem 276 I6 J6 T6)
      exact ix_sp rfl ⟨Nat.le_refl _, Nat.le_refl _, rfl, hQ _ _ _ h6⟩
    · have h4 := h2.2 c3
      refine ix_go 2 (x' := (29, [some (.inr (.inr (.inl (some (44))))), some (.inl (a0))], [.inl ((6 : Int32)), .inr (.inr (.inl (some (44))))], 0, 0, ix_mem 276 I J T)) rfl trivial ?_
      refine ix_sp rfl ⟨rfl, ⟨ix_lt rfl, ix_eq rfl, ix_lt rfl⟩, ix_le rfl, Nat.le_refl _, Nat.le_refl _, tp_X7_blame h4 (fun I7 J7 T7 h7 => ?_)⟩
      change ix_W _ _ _ (32, [some (.inr (.inr (.inl (some (44))))), some (.inl (a0))], [], 0, 0, ix_mem 276 I7 J7 T7)
      refine ix_go 1 (x' := (54, [some (.inr (.inr (.inl (some (44))))), some (.inl (a0))], [], 0, 0, ix_mem 276 I7 J7 T7)) rfl trivial ?_
      exact ix_sp rfl ⟨Nat.le_refl _, Nat.le_refl _, rfl, hQ _ _ _ h7⟩
  · have h2 := h.2 c1
    refine ix_go 2 (x' := (11, [some (.inr (.inr (.inl (some (44))))), some (.inl (a0))], [.inl ((2 : Int32)), .inr (.inr (.inl (some (44))))], 0, 0, ix_mem 276 I J T)) rfl trivial ?_
    refine ix_sp rfl ⟨rfl, ⟨ix_lt rfl, ix_eq rfl, ix_lt rfl⟩, ix_le rfl, Nat.le_refl _, Nat.le_refl _, tp_X7_blame h2 (fun I8 J8 T8 h8 => ?_)⟩
    change ix_W _ _ _ (14, [some (.inr (.inr (.inl (some (44))))), some (.inl (a0))], [], 0, 0, ix_mem 276 I8 J8 T8)
    refine ix_go 1 (x' := (54, [some (.inr (.inr (.inl (some (44))))), some (.inl (a0))], [], 0, 0, ix_mem 276 I8 J8 T8)) rfl trivial ?_
    exact ix_sp rfl ⟨Nat.le_refl _, Nat.le_refl _, rfl, hQ _ _ _ h8⟩
def wj_X7_takeAtom_j80_k59_t59 (s1 : Int32) (I : Nat → Nat → Int32) (J : Nat → Nat → Int64) (T : Option Nat) (P : (Nat → Nat → Int32) → (Nat → Nat → Int64) → Option Nat → Prop) : Prop := wp_X9_emit_59 (s1) I J (some 59) (fun I14 J14 T14 => wp_X7_step (ix_u2 I14 44 18 ((0 : Int32))) J14 T14 (fun I15 J15 T15 => P I15 J15 T15))
set_option maxRecDepth 20000 in
theorem tj_X7_takeAtom_j80_k59_t59 {d : Nat} {s1 : Int32} {I : Nat → Nat → Int32} {J : Nat → Nat → Int64} {P : (Nat → Nat → Int32) → (Nat → Nat → Int64) → Option Nat → Prop} {Q : ix_Q} (h : wj_X7_takeAtom_j80_k59_t59 s1 I J (some 59) P) (hQ : ∀ I J T, P I J T → Q none (ix_mem 276 I J T)) : ix_W (ix_C (d + 1)) (7, ix_lk ix_l119, none, 0, 0, Nat.blt 0 0, none) Q (80, [some (.inr (.inr (.inl (some (44))))), none, none], [.inl (s1), .inr (.inr (.inl (some (59))))], 0, 0, ix_mem 276 I J (some 59)) := by
  unfold wj_X7_takeAtom_j80_k59_t59 at h
  refine ix_sp rfl ⟨rfl, ⟨ix_lt rfl, ix_eq rfl, ix_lt rfl⟩, ix_le rfl, Nat.le_refl _, Nat.le_refl _, tp_X9_emit_59 h (fun I14 J14 T14 h14 => ?_)⟩
  change ix_W _ _ _ (83, [some (.inr (.inr (.inl (some (44))))), none, none], [], 0, 0, ix_mem 276 I14 J14 T14)
  refine ix_go 4 (x' := (89, [some (.inr (.inr (.inl (some (44))))), none, none], [.inr (.inr (.inl (some (44))))], 0, 0, ix_mem 276 (ix_u2 I14 44 18 ((0 : Int32))) J14 T14)) rfl ⟨rfl, rfl, rfl⟩ ?_
  refine ix_sp rfl ⟨rfl, ⟨ix_lt rfl, ix_eq rfl, ix_lt rfl⟩, ix_le rfl, Nat.le_refl _, Nat.le_refl _, tp_X7_step h14 (fun I15 J15 T15 h15 => ?_)⟩
  change ix_W _ _ _ (92, [some (.inr (.inr (.inl (some (44))))), none, none], [], 0, 0, ix_mem 276 I15 J15 T15)
  refine ix_go 1 (x' := (186, [some (.inr (.inr (.inl (some (44))))), none, none], [], 0, 0, ix_mem 276 I15 J15 T15)) rfl trivial ?_
  exact ix_sp rfl ⟨Nat.le_refl _, Nat.le_refl _, rfl, hQ _ _ _ h15⟩
def wj_X7_takeAtom_j80_k68_t68 (s1 : Int32) (I : Nat → Nat → Int32) (J : Nat → Nat → Int64) (T : Option Nat) (P : (Nat → Nat → Int32) → (Nat → Nat → Int64) → Option Nat → Prop) : Prop := wp_X9_emit_68 (s1) I J (some 68) (fun I20 J20 T20 => wp_X7_step (ix_u2 I20 44 18 ((0 : Int32))) J20 T20 (fun I21 J21 T21 => P I21 J21 T21))
set_option maxRecDepth 20000 in
theorem tj_X7_takeAtom_j80_k68_t68 {d : Nat} {s1 : Int32} {I : Nat → Nat → Int32} {J : Nat → Nat → Int64} {P : (Nat → Nat → Int32) → (Nat → Nat → Int64) → Option Nat → Prop} {Q : ix_Q} (h : wj_X7_takeAtom_j80_k68_t68 s1 I J (some 68) P) (hQ : ∀ I J T, P I J T → Q none (ix_mem 276 I J T)) : ix_W (ix_C (d + 1)) (7, ix_lk ix_l119, none, 0, 0, Nat.blt 0 0, none) Q (80, [some (.inr (.inr (.inl (some (44))))), none, none], [.inl (s1), .inr (.inr (.inl (some (68))))], 0, 0, ix_mem 276 I J (some 68)) := by
  unfold wj_X7_takeAtom_j80_k68_t68 at h
  refine ix_sp rfl ⟨rfl, ⟨ix_lt rfl, ix_eq rfl, ix_lt rfl⟩, ix_le rfl, Nat.le_refl _, Nat.le_refl _, tp_X9_emit_68 h (fun I20 J20 T20 h20 => ?_)⟩
  change ix_W _ _ _ (83, [some (.inr (.inr (.inl (some (44))))), none, none], [], 0, 0, ix_mem 276 I20 J20 T20)
  refine ix_go 4 (x' := (89, [some (.inr (.inr (.inl (some (44))))), none, none], [.inr (.inr (.inl (some (44))))], 0, 0, ix_mem 276 (ix_u2 I20 44 18 ((0 : Int32))) J20 T20)) rfl ⟨rfl, rfl, rfl⟩ ?_
  refine ix_sp rfl ⟨rfl, ⟨ix_lt rfl, ix_eq rfl, ix_lt rfl⟩, ix_le rfl, Nat.le_refl _, Nat.le_refl _, tp_X7_step h20 (fun I21 J21 T21 h21 => ?_)⟩
  change ix_W _ _ _ (92, [some (.inr (.inr (.inl (some (44))))), none, none], [], 0, 0, ix_mem 276 I21 J21 T21)
  refine ix_go 1 (x' := (186, [some (.inr (.inr (.inl (some (44))))), none, none], [], 0, 0, ix_mem 276 I21 J21 T21)) rfl trivial ?_
  exact ix_sp rfl ⟨Nat.le_refl _, Nat.le_refl _, rfl, hQ _ _ _ h21⟩
def wj_X7_takeAtom_j80_k77_t77 (s1 : Int32) (I : Nat → Nat → Int32) (J : Nat → Nat → Int64) (T : Option Nat) (P : (Nat → Nat → Int32) → (Nat → Nat → Int64) → Option Nat → Prop) : Prop := wp_X9_emit_77 (s1) I J (some 77) (fun I26 J26 T26 => wp_X7_step (ix_u2 I26 44 18 ((0 : Int32))) J26 T26 (fun I27 J27 T27 => P I27 J27 T27))
set_option maxRecDepth 20000 in
theorem tj_X7_takeAtom_j80_k77_t77 {d : Nat} {s1 : Int32} {I : Nat → Nat → Int32} {J : Nat → Nat → Int64} {P : (Nat → Nat → Int32) → (Nat → Nat → Int64) → Option Nat → Prop} {Q : ix_Q} (h : wj_X7_takeAtom_j80_k77_t77 s1 I J (some 77) P) (hQ : ∀ I J T, P I J T → Q none (ix_mem 276 I J T)) : ix_W (ix_C (d + 1)) (7, ix_lk ix_l119, none, 0, 0, Nat.blt 0 0, none) Q (80, [some (.inr (.inr (.inl (some (44))))), none, none], [.inl (s1), .inr (.inr (.inl (some (77))))], 0, 0, ix_mem 276 I J (some 77)) := by
  unfold wj_X7_takeAtom_j80_k77_t77 at h
  refine ix_sp rfl ⟨rfl, ⟨ix_lt rfl, ix_eq rfl, ix_lt rfl⟩, ix_le rfl, Nat.le_refl _, Nat.le_refl _, tp_X9_emit_77 h (fun I26 J26 T26 h26 => ?_)⟩
  change ix_W _ _ _ (83, [some (.inr (.inr (.inl (some (44))))), none, none], [], 0, 0, ix_mem 276 I26 J26 T26)
  refine ix_go 4 (x' := (89, [some (.inr (.inr (.inl (some (44))))), none, none], [.inr (.inr (.inl (some (44))))], 0, 0, ix_mem 276 (ix_u2 I26 44 18 ((0 : Int32))) J26 T26)) rfl ⟨rfl, rfl, rfl⟩ ?_
  refine ix_sp rfl ⟨rfl, ⟨ix_lt rfl, ix_eq rfl, ix_lt rfl⟩, ix_le rfl, Nat.le_refl _, Nat.le_refl _, tp_X7_step h26 (fun I27 J27 T27 h27 => ?_)⟩
  change ix_W _ _ _ (92, [some (.inr (.inr (.inl (some (44))))), none, none], [], 0, 0, ix_mem 276 I27 J27 T27)
  refine ix_go 1 (x' := (186, [some (.inr (.inr (.inl (some (44))))), none, none], [], 0, 0, ix_mem 276 I27 J27 T27)) rfl trivial ?_
  exact ix_sp rfl ⟨Nat.le_refl _, Nat.le_refl _, rfl, hQ _ _ _ h27⟩
def wj_X7_takeAtom_j80_k86_t86 (s1 : Int32) (I : Nat → Nat → Int32) (J : Nat → Nat → Int64) (T : Option Nat) (P : (Nat → Nat → Int32) → (Nat → Nat → Int64) → Option Nat → Prop) : Prop := wp_X9_emit_86 (s1) I J (some 86) (fun I32 J32 T32 => wp_X7_step (ix_u2 I32 44 18 ((0 : Int32))) J32 T32 (fun I33 J33 T33 => P I33 J33 T33))
set_option maxRecDepth 20000 in
theorem tj_X7_takeAtom_j80_k86_t86 {d : Nat} {s1 : Int32} {I : Nat → Nat → Int32} {J : Nat → Nat → Int64} {P : (Nat → Nat → Int32) → (Nat → Nat → Int64) → Option Nat → Prop} {Q : ix_Q} (h : wj_X7_takeAtom_j80_k86_t86 s1 I J (some 86) P) (hQ : ∀ I J T, P I J T → Q none (ix_mem 276 I J T)) : ix_W (ix_C (d + 1)) (7, ix_lk ix_l119, none, 0, 0, Nat.blt 0 0, none) Q (80, [some (.inr (.inr (.inl (some (44))))), none, none], [.inl (s1), .inr (.inr (.inl (some (86))))], 0, 0, ix_mem 276 I J (some 86)) := by
  unfold wj_X7_takeAtom_j80_k86_t86 at h
  refine ix_sp rfl ⟨rfl, ⟨ix_lt rfl, ix_eq rfl, ix_lt rfl⟩, ix_le rfl, Nat.le_refl _, Nat.le_refl _, tp_X9_emit_86 h (fun I32 J32 T32 h32 => ?_)⟩
  change ix_W _ _ _ (83, [some (.inr (.inr (.inl (some (44))))), none, none], [], 0, 0, ix_mem 276 I32 J32 T32)
  refine ix_go 4 (x' := (89, [some (.inr (.inr (.inl (some (44))))), none, none], [.inr (.inr (.inl (some (44))))], 0, 0, ix_mem 276 (ix_u2 I32 44 18 ((0 : Int32))) J32 T32)) rfl ⟨rfl, rfl, rfl⟩ ?_
  refine ix_sp rfl ⟨rfl, ⟨ix_lt rfl, ix_eq rfl, ix_lt rfl⟩, ix_le rfl, Nat.le_refl _, Nat.le_refl _, tp_X7_step h32 (fun I33 J33 T33 h33 => ?_)⟩
  change ix_W _ _ _ (92, [some (.inr (.inr (.inl (some (44))))), none, none], [], 0, 0, ix_mem 276 I33 J33 T33)
  refine ix_go 1 (x' := (186, [some (.inr (.inr (.inl (some (44))))), none, none], [], 0, 0, ix_mem 276 I33 J33 T33)) rfl trivial ?_
  exact ix_sp rfl ⟨Nat.le_refl _, Nat.le_refl _, rfl, hQ _ _ _ h33⟩
def wj_X7_takeAtom_j48 (I : Nat → Nat → Int32) (J : Nat → Nat → Int64) (T : Option Nat) (P : (Nat → Nat → Int32) → (Nat → Nat → Int64) → Option Nat → Prop) : Prop := ix_tn T ∧ ((T = some 59 → ((I 44 9 = (20 : Int32) → ix_inb (I 44 8) 601 = true ∧ wj_X7_takeAtom_j80_k59_t59 ((J 48 (I 44 8).toNatClampNeg).toInt32) I J (some 59) P) ∧ (¬ (I 44 9 = (20 : Int32)) → wj_X7_takeAtom_j80_k59_t59 (((-1 : Int32)) - (I 44 9)) I J (some 59) P))) ∧ (T = some 68 → ((I 44 9 = (20 : Int32) → ix_inb (I 44 8) 601 = true ∧ wj_X7_takeAtom_j80_k68_t68 ((J 48 (I 44 8).toNatClampNeg).toInt32) I J (some 68) P) ∧ (¬ (I 44 9 = (20 : Int32)) → wj_X7_takeAtom_j80_k68_t68 (((-1 : Int32)) - (I 44 9)) I J (some 68) P))) ∧ (T = some 77 → ((I 44 9 = (20 : Int32) → ix_inb (I 44 8) 601 = true ∧ wj_X7_takeAtom_j80_k77_t77 ((J 48 (I 44 8).toNatClampNeg).toInt32) I J (some 77) P) ∧ (¬ (I 44 9 = (20 : Int32)) → wj_X7_takeAtom_j80_k77_t77 (((-1 : Int32)) - (I 44 9)) I J (some 77) P))) ∧ (T = some 86 → ((I 44 9 = (20 : Int32) → ix_inb (I 44 8) 601 = true ∧ wj_X7_takeAtom_j80_k86_t86 ((J 48 (I 44 8).toNatClampNeg).toInt32) I J (some 86) P) ∧ (¬ (I 44 9 = (20 : Int32)) → wj_X7_takeAtom_j80_k86_t86 (((-1 : Int32)) - (I 44 9)) I J (some 86) P))))
set_option maxRecDepth 20000 in
theorem tj_X7_takeAtom_j48 {d : Nat} {I : Nat → Nat → Int32} {J : Nat → Nat → Int64} {T : Option Nat} {P : (Nat → Nat → Int32) → (Nat → Nat → Int64) → Option Nat → Prop} {Q : ix_Q} (h : wj_X7_takeAtom_j48 I J T P) (hQ : ∀ I J T, P I J T → Q none (ix_mem 276 I J T)) : ix_W (ix_C (d + 1)) (7, ix_lk ix_l119, none, 0, 0, Nat.blt 0 0, none) Q (48, [some (.inr (.inr (.inl (some (44))))), none, none], [], 0, 0, ix_mem 276 I J T) := by
  unfold wj_X7_takeAtom_j48 at h
  refine ix_go 2 (x' := (52, [some (.inr (.inr (.inl (some (44))))), none, none], [.inr (.inr (.inl (T)))], 0, 0, ix_mem 276 I J T)) rfl ⟨rfl, rfl⟩ ?_
  obtain ⟨q7, h8⟩ := h
  rcases q7 with e | e | e | e
  · subst e
    have h9 := h8.1 rfl
    refine ix_go 4 (x' := (if I 44 9 = (20 : Int32) then 61 else 74, [some (.inr (.inr (.inl (some (44))))), none, none], [.inr (.inr (.inl (some (59))))], 0, 0, ix_mem 276 I J (some 59))) rfl ⟨rfl, rfl⟩ ?_
    refine ix_br (fun c10 => ?_) (fun c10 => ?_)
    · have h11 := h9.1 c10
      obtain ⟨p12, h13⟩ := h11
      refine ix_go 7 (x' := (80, [some (.inr (.inr (.inl (some (44))))), none, none], [.inl ((J 48 (I 44 8).toNatClampNeg).toInt32), .inr (.inr (.inl (some (59))))], 0, 0, ix_mem 276 I J (some 59))) rfl ⟨rfl, rfl, rfl, rfl, rfl, rfl, p12⟩ ?_
      refine ix_subW ([some (.inr (.inr (.inl (some (44))))), none, none]) (ix_subS (ix_subS (ix_subS (ix_sub0)))) ?_
      exact tj_X7_takeAtom_j80_k59_t59 h13 hQ
    · have h11 := h9.2 c10
      refine ix_go 4 (x' := (80, [some (.inr (.inr (.inl (some (44))))), none, none], [.inl (((-1 : Int32)) - (I 44 9)), .inr (.inr (.inl (some (59))))], 0, 0, ix_mem 276 I J (some 59))) rfl ⟨rfl, rfl⟩ ?_
      refine ix_subW ([some (.inr (.inr (.inl (some (44))))), none, none]) (ix_subS (ix_subS (ix_subS (ix_sub0)))) ?_
      exact tj_X7_takeAtom_j80_k59_t59 h11 hQ
  · subst e
    have h9 := h8.2.1 rfl
    refine ix_go 4 (x' := (if I 44 9 = (20 : Int32) then 61 else 74, [some (.inr (.inr (.inl (some (44))))), none, none], [.inr (.inr (.inl (some (68))))], 0, 0, ix_mem 276 I J (some 68))) rfl ⟨rfl, rfl⟩ ?_
    refine ix_br (fun c16 => ?_) (fun c16 => ?_)
    · have h17 := h9.1 c16
      obtain ⟨p18, h19⟩ := h17
      refine ix_go 7 (x' := (80, [some (.inr (.inr (.inl (some (44))))), none, none], [.inl ((J 48 (I 44 8).toNatClampNeg).toInt32), .inr (.inr (.inl (some (68))))], 0, 0, ix_mem 276 I J (some 68))) rfl ⟨rfl, rfl, rfl, rfl, rfl, rfl, p18⟩ ?_
      refine ix_subW ([some (.inr (.inr (.inl (some (44))))), none, none]) (ix_subS (ix_subS (ix_subS (ix_sub0)))) ?_
      exact tj_X7_takeAtom_j80_k68_t68 h19 hQ
    · have h17 := h9.2 c16
      refine ix_go 4 (x' := (80, [some (.inr (.inr (.inl (some (44))))), none, none], [.inl (((-1 : Int32)) - (I 44 9)), .inr (.inr (.inl (some (68))))], 0, 0, ix_mem 276 I J (some 68))) rfl ⟨rfl, rfl⟩ ?_
      refine ix_subW ([some (.inr (.inr (.inl (some (44))))), none, none]) (ix_subS (ix_subS (ix_subS (ix_sub0)))) ?_
      exact tj_X7_takeAtom_j80_k68_t68 h17 hQ
  · subst e
    have h9 := h8.2.2.1 rfl
    refine ix_go 4 (x' := (if I 44 9 = (20 : Int32) then 61 else 74, [some (.inr (.inr (.inl (some (44))))), none, none], [.inr (.inr (.inl (some (77))))], 0, 0, ix_mem 276 I J (some 77))) rfl ⟨rfl, rfl⟩ ?_
    refine ix_br (fun c22 => ?_) (fun c22 => ?_)
    · have h23 := h9.1 c22
      obtain ⟨p24, h25⟩ := h23
      refine ix_go 7 (x' := (80, [some (.inr (.inr (.inl (some (44))))), none, none], [.inl ((J 48 (I 44 8).toNatClampNeg).toInt32), .inr (.inr (.inl (some (77))))], 0, 0, ix_mem 276 I J (some 77))) rfl ⟨rfl, rfl, rfl, rfl, rfl, rfl, p24⟩ ?_
      refine ix_subW ([some (.inr (.inr (.inl (some (44))))), none, none]) (ix_subS (ix_subS (ix_subS (ix_sub0)))) ?_
      exact tj_X7_takeAtom_j80_k77_t77 h25 hQ
    · have h23 := h9.2 c22
      refine ix_go 4 (x' := (80, [some (.inr (.inr (.inl (some (44))))), none, none], [.inl (((-1 : Int32)) - (I 44 9)), .inr (.inr (.inl (some (77))))], 0, 0, ix_mem 276 I J (some 77))) rfl ⟨rfl, rfl⟩ ?_
      refine ix_subW ([some (.inr (.inr (.inl (some (44))))), none, none]) (ix_subS (ix_subS (ix_subS (ix_sub0)))) ?_
      exact tj_X7_takeAtom_j80_k77_t77 h23 hQ
  · subst e
    have h9 := h8.2.2.2 rfl
    refine ix_go 4 (x' := (if I 44 9 = (20 : Int32) then 61 else 74, [some (.inr (.inr (.inl (some (44))))), none, none], [.inr (.inr (.inl (some (86))))], 0, 0, ix_mem 276 I J (some 86))) rfl ⟨rfl, rfl⟩ ?_
    refine ix_br (fun c28 => ?_) (fun c28 => ?_)
    · have h29 := h9.1 c28
      obtain ⟨p30, h31⟩ := h29
      refine ix_go 7 (x' := (80, [some (.inr (.inr (.inl (some (44))))), none, none], [.inl ((J 48 (I 44 8).toNatClampNeg).toInt32), .inr (.inr (.inl (some (86))))], 0, 0, ix_mem 276 I J (some 86))) rfl ⟨rfl, rfl, rfl, rfl, rfl, rfl, p30⟩ ?_
      refine ix_subW ([some (.inr (.inr (.inl (some (44))))), none, none]) (ix_subS (ix_subS (ix_subS (ix_sub0)))) ?_
      exact tj_X7_takeAtom_j80_k86_t86 h31 hQ
    · have h29 := h9.2 c28
      refine ix_go 4 (x' := (80, [some (.inr (.inr (.inl (some (44))))), none, none], [.inl (((-1 : Int32)) - (I 44 9)), .inr (.inr (.inl (some (86))))], 0, 0, ix_mem 276 I J (some 86))) rfl ⟨rfl, rfl⟩ ?_
      refine ix_subW ([some (.inr (.inr (.inl (some (44))))), none, none]) (ix_subS (ix_subS (ix_subS (ix_sub0)))) ?_
      exact tj_X7_takeAtom_j80_k86_t86 h29 hQ
def wj_X7_takeAtom_j133 (I : Nat → Nat → Int32) (J : Nat → Nat → Int64) (T : Option Nat) (P : (Nat → Nat → Int32) → (Nat → Nat → Int64) → Option Nat → Prop) : Prop := wp_X7_step I J T (fun I42 J42 T42 => wp_X7_openBracket (((100 : Int32)) + (I 44 9)) I42 J42 T42 (fun I43 J43 T43 => P I43 J43 T43))
set_option maxRecDepth 20000 in
theorem tj_X7_takeAtom_j133 {d : Nat} {I : Nat → Nat → Int32} {J : Nat → Nat → Int64} {T : Option Nat} {P : (Nat → Nat → Int32) → (Nat → Nat → Int64) → Option Nat → Prop} {Q : ix_Q} (h : wj_X7_takeAtom_j133 I J T P) (hQ : ∀ I J T, P I J T → Q none (ix_mem 276 I J T)) : ix_W (ix_C (d + 2)) (7, ix_lk ix_l119, none, 0, 0, Nat.blt 0 0, none) Q (133, [some (.inr (.inr (.inl (some (44))))), none, none], [], 0, 0, ix_mem 276 I J T) := by
  unfold wj_X7_takeAtom_j133 at h
  refine ix_go 6 (x' := (142, [some (.inr (.inr (.inl (some (44))))), none, some (.inl (((100 : Int32)) + (I 44 9)))], [.inr (.inr (.inl (some (44))))], 0, 0, ix_mem 276 I J T)) rfl ⟨rfl, rfl⟩ ?_
  refine ix_sp rfl ⟨rfl, ⟨ix_lt rfl, ix_eq rfl, ix_lt rfl⟩, ix_le rfl, Nat.le_refl _, Nat.le_refl _, tp_X7_step h (fun I42 J42 T42 h42 => ?_)⟩
  change ix_W _ _ _ (145, [some (.inr (.inr (.inl (some (44))))), none, some (.inl (((100 : Int32)) + (I 44 9)))], [], 0, 0, ix_mem 276 I42 J42 T42)
  refine ix_go 2 (x' := (147, [some (.inr (.inr (.inl (some (44))))), none, some (.inl (((100 : Int32)) + (I 44 9)))], [.inl (((100 : Int32)) + (I 44 9)), .inr (.inr (.inl (some (44))))], 0, 0, ix_mem 276 I42 J42 T42)) rfl trivial ?_
  refine ix_sp rfl ⟨rfl, ⟨ix_lt rfl, ix_eq rfl, ix_lt rfl⟩, ix_le rfl, Nat.le_refl _, Nat.le_refl _, tp_X7_openBracket h42 (fun I43 J43 T43 h43 => ?_)⟩
  change ix_W _ _ _ (150, [some (.inr (.inr (.inl (some (44))))), none, some (.inl (((100 : Int32)) + (I 44 9)))], [], 0, 0, ix_mem 276 I43 J43 T43)
  refine ix_go 1 (x' := (186, [some (.inr (.inr (.inl (some (44))))), none, some (.inl (((100 : Int32)) + (I 44 9)))], [], 0, 0, ix_mem 276 I43 J43 T43)) rfl trivial ?_
  exact ix_sp rfl ⟨Nat.le_refl _, Nat.le_refl _, rfl, hQ _ _ _ h43⟩
def wj_X7_takeAtom_j181 (I : Nat → Nat → Int32) (J : Nat → Nat → Int64) (T : Option Nat) (P : (Nat → Nat → Int32) → (Nat → Nat → Int64) → Option Nat → Prop) : Prop := wp_X7_blame ((2 : Int32)) I J T (fun I48 J48 T48 => P I48 J48 T48)
set_option maxRecDepth 20000 in
theorem tj_X7_takeAtom_j181 {d : Nat} {I : Nat → Nat → Int32} {J : Nat → Nat → Int64} {T : Option Nat} {P : (Nat → Nat → Int32) → (Nat → Nat → Int64) → Option Nat → Prop} {Q : ix_Q} (h : wj_X7_takeAtom_j181 I J T P) (hQ : ∀ I J T, P I J T → Q none (ix_mem 276 I J T)) : ix_W (ix_C (d + 1)) (7, ix_lk ix_l119, none, 0, 0, Nat.blt 0 0, none) Q (181, [some (.inr (.inr (.inl (some (44))))), none, none], [], 0, 0, ix_mem 276 I J T) := by
  unfold wj_X7_takeAtom_j181 at h
  refine ix_go 2 (x' := (183, [some (.inr (.inr (.inl (some (44))))), none, none], [.inl ((2 : Int32)), .inr (.inr (.inl (some (44))))], 0, 0, ix_mem 276 I J T)) rfl trivial ?_
  refine ix_sp rfl ⟨rfl, ⟨ix_lt rfl, ix_eq rfl, ix_lt rfl⟩, ix_le rfl, Nat.le_refl _, Nat.le_refl _, tp_X7_blame h (fun I48 J48 T48 h48 => ?_)⟩
  change ix_W _ _ _ (186, [some (.inr (.inr (.inl (some (44))))), none, none], [], 0, 0, ix_mem 276 I48 J48 T48)
  exact ix_sp rfl ⟨Nat.le_refl _, Nat.le_refl _, rfl, hQ _ _ _ h48⟩
def wj_X7_takeAtom_j26_k44 (x1 : Int32) (s1 : Int32) (I : Nat → Nat → Int32) (J : Nat → Nat → Int64) (T : Option Nat) (P : (Nat → Nat → Int32) → (Nat → Nat → Int64) → Option Nat → Prop) : Prop := ((I 44 9 = (20 : Int32) → wj_X7_takeAtom_j48 (ix_u2 I 44 17 (s1)) J T P) ∧ (¬ (I 44 9 = (20 : Int32)) → wp_X7_isVariable (I 44 9) (ix_u2 I 44 17 (s1)) J T (fun v34 I34 J34 T34 => ((v34 = 0 → ((I34 44 9 = (40 : Int32) → wp_X7_openBracket (I34 44 9) I34 J34 T34 (fun I39 J39 T39 => P I39 J39 T39)) ∧ (¬ (I34 44 9 = (40 : Int32)) → ((I34 44 9 = (9 : Int32) → wj_X7_takeAtom_j133 I34 J34 T34 P) ∧ (¬ (I34 44 9 = (9 : Int32)) → ((I34 44 9 = (10 : Int32) → wj_X7_takeAtom_j133 I34 J34 T34 P) ∧ (¬ (I34 44 9 = (10 : Int32)) → ((x1 = 0 → wj_X7_takeAtom_j181 I34 J34 T34 P) ∧ (¬ (x1 = 0) → ((I34 44 9 = (8 : Int32) → wp_X7_hold (I34 44 9) I34 J34 T34 (fun I51 J51 T51 => wp_X7_step I51 J51 T51 (fun I52 J52 T52 => P I52 J52 T52))) ∧ (¬ (I34 44 9 = (8 : Int32)) → wj_X7_takeAtom_j181 I34 J34 T34 P))))))))))) ∧ (¬ (v34 = 0) → wj_X7_takeAtom_j48 I34 J34 T34 P)))))
set_option maxRecDepth 20000 in
theorem tj_X7_takeAtom_j26_k44 {d : Nat} {x1 : Int32} {s1 : Int32} {I : Nat → Nat → Int32} {J : Nat → Nat → Int64} {T : Option Nat} {P : (Nat → Nat → Int32) → (Nat → Nat → Int64) → Option Nat → Prop} {Q : ix_Q} (h : wj_X7_takeAtom_j26_k44 x1 s1 I J T P) (hQ : ∀ I J T, P I J T → Q none (ix_mem 276 I J T)) : ix_W (ix_C (d + 2)) (7, ix_lk ix_l119, none, 0, 0, Nat.blt 0 0, none) Q (26, [some (.inr (.inr (.inl (some (44))))), some (.inl (x1)), none], [.inl (s1), .inr (.inr (.inl (some (44))))], 0, 0, ix_mem 276 I J T) := by
  unfold wj_X7_takeAtom_j26_k44 at h
  refine ix_go 5 (x' := (if I 44 9 = (20 : Int32) then 48 else 38, [some (.inr (.inr (.inl (some (44))))), some (.inl (x1)), none], [], 0, 0, ix_mem 276 (ix_u2 I 44 17 (s1)) J T)) rfl ⟨rfl, rfl, rfl, rfl⟩ ?_
  refine ix_br (fun c5 => ?_) (fun c5 => ?_)
  · have h6 := h.1 c5
    refine ix_subW ([some (.inr (.inr (.inl (some (44))))), none, none]) (ix_subS (ix_subN (ix_subS (ix_sub0)))) ?_
    exact tj_X7_takeAtom_j48 h6 hQ
  · have h6 := h.2 c5
    refine ix_go 2 (x' := (42, [some (.inr (.inr (.inl (some (44))))), some (.inl (x1)), none], [.inl (I 44 9)], 0, 0, ix_mem 276 (ix_u2 I 44 17 (s1)) J T)) rfl ⟨rfl, rfl⟩ ?_
    refine ix_sp rfl ⟨rfl, trivial, ix_le rfl, Nat.le_refl _, Nat.le_refl _, tp_X7_isVariable h6 (fun v34 I34 J34 T34 h34 => ?_)⟩
    change ix_W _ _ _ (45, [some (.inr (.inr (.inl (some (44))))), some (.inl (x1)), none], [.inl (v34)], 0, 0, ix_mem 276 I34 J34 T34)
    refine ix_go 1 (x' := (if v34 = 0 then 95 else 48, [some (.inr (.inr (.inl (some (44))))), some (.inl (x1)), none], [], 0, 0, ix_mem 276 I34 J34 T34)) rfl trivial ?_
    refine ix_br (fun c35 => ?_) (fun c35 => ?_)
    · have h36 := h34.1 c35
      refine ix_go 4 (x' := (if I34 44 9 = (40 : Int32) then 104 else 115, [some (.inr (.inr (.inl (some (44))))), some (.inl (x1)), none], [], 0, 0, ix_mem 276 I34 J34 T34)) rfl ⟨rfl, rfl⟩ ?_
      refine ix_br (fun c37 => ?_) (fun c37 => ?_)
      · have h38 := h36.1 c37
        refine ix_go 3 (x' := (109, [some (.inr (.inr (.inl (some (44))))), some (.inl (x1)), none], [.inl (I34 44 9), .inr (.inr (.inl (some (44))))], 0, 0, ix_mem 276 I34 J34 T34)) rfl ⟨rfl, rfl⟩ ?_
        refine ix_sp rfl ⟨rfl, ⟨ix_lt rfl, ix_eq rfl, ix_lt rfl⟩, ix_le rfl, Nat.le_refl _, Nat.le_refl _, tp_X7_openBracket h38 (fun I39 J39 T39 h39 => ?_)⟩
        change ix_W _ _ _ (112, [some (.inr (.inr (.inl (some (44))))), some (.inl (x1)), none], [], 0, 0, ix_mem 276 I39 J39 T39)
        refine ix_go 1 (x' := (186, [some (.inr (.inr (.inl (some (44))))), some (.inl (x1)), none], [], 0, 0, ix_mem 276 I39 J39 T39)) rfl trivial ?_
        exact ix_sp rfl ⟨Nat.le_refl _, Nat.le_refl _, rfl, hQ _ _ _ h39⟩
      · have h38 := h36.2 c37
        refine ix_go 4 (x' := (if I34 44 9 = (9 : Int32) then 133 else 124, [some (.inr (.inr (.inl (some (44))))), some (.inl (x1)), none], [], 0, 0, ix_mem 276 I34 J34 T34)) rfl ⟨rfl, rfl⟩ ?_
        refine ix_br (fun c40 => ?_) (fun c40 => ?_)
        · have h41 := h38.1 c40
          refine ix_subW ([some (.inr (.inr (.inl (some (44))))), none, none]) (ix_subS (ix_subN (ix_subS (ix_sub0)))) ?_
          exact tj_X7_takeAtom_j133 h41 hQ
        · have h41 := h38.2 c40
          refine ix_go 4 (x' := (if I34 44 9 = (10 : Int32) then 133 else 153, [some (.inr (.inr (.inl (some (44))))), some (.inl (x1)), none], [], 0, 0, ix_mem 276 I34 J34 T34)) rfl ⟨rfl, rfl⟩ ?_
          refine ix_br (fun c44 => ?_) (fun c44 => ?_)
          · have h45 := h41.1 c44
            refine ix_subW ([some (.inr (.inr (.inl (some (44))))), none, none]) (ix_subS (ix_subN (ix_subS (ix_sub0)))) ?_
            exact tj_X7_takeAtom_j133 h45 hQ
          · have h45 := h41.2 c44
            refine ix_go 2 (x' := (if x1 = 0 then 181 else 157, [some (.inr (.inr (.inl (some (44))))), some (.inl (x1)), none], [], 0, 0, ix_mem 276 I34 J34 T34)) rfl trivial ?_
            refine ix_br (fun c46 => ?_) (fun c46 => ?_)
            · have h47 := h45.1 c46
              refine ix_subW ([some (.inr (.inr (.inl (some (44))))), none, none]) (ix_subS (ix_subN (ix_subS (ix_sub0)))) ?_
              exact tj_X7_takeAtom_j181 h47 hQ
            · have h47 := h45.2 c46
              refine ix_go 4 (x' := (if I34 44 9 = (8 : Int32) then 166 else 181, [some (.inr (.inr (.inl (some (44))))), some (.inl (x1)), none], [], 0, 0, ix_mem 276 I34 J34 T34)) rfl ⟨rfl, rfl⟩ ?_
              refine ix_br (fun c49 => ?_) (fun c49 => ?_)
              · have h50 := h47.1 c49
                refine ix_go 3 (x' := (171, [some (.inr (.inr (.inl (some (44))))), some (.inl (x1)), none], [.inl (I34 44 9), .inr (.inr (.inl (some (44))))], 0, 0, ix_mem 276 I34 J34 T34)) rfl ⟨rfl, rfl⟩ ?_
                refine ix_sp rfl ⟨rfl, ⟨ix_lt rfl, ix_eq rfl, ix_lt rfl⟩, ix_le rfl, Nat.le_refl _, Nat.le_refl _, tp_X7_hold h50 (fun I51 J51 T51 h51 => ?_)⟩
                change ix_W _ _ _ (174, [some (.inr (.inr (.inl (some (44))))), some (.inl (x1)), none], [], 0, 0, ix_mem 276 I51 J51 T51)
                refine ix_go 1 (x' := (175, [some (.inr (.inr (.inl (some (44))))), some (.inl (x1)), none], [.inr (.inr (.inl (some (44))))], 0, 0, ix_mem 276 I51 J51 T51)) rfl trivial ?_
                refine ix_sp rfl ⟨rfl, ⟨ix_lt rfl, ix_eq rfl, ix_lt rfl⟩, ix_le rfl, Nat.le_refl _, Nat.le_refl _, tp_X7_step h51 (fun I52 J52 T52 h52 => ?_)⟩
                change ix_W _ _ _ (178, [some (.inr (.inr (.inl (some (44))))), some (.inl (x1)), none], [], 0, 0, ix_mem 276 I52 J52 T52)
                refine ix_go 1 (x' := (186, [some (.inr (.inr (.inl (some (44))))), some (.inl (x1)), none], [], 0, 0, ix_mem 276 I52 J52 T52)) rfl trivial ?_
                exact ix_sp rfl ⟨Nat.le_refl _, Nat.le_refl _, rfl, hQ _ _ _ h52⟩
              · have h50 := h47.2 c49
                refine ix_subW ([some (.inr (.inr (.inl (some (44))))), none, none]) (ix_subS (ix_subN (ix_subS (ix_sub0)))) ?_
                exact tj_X7_takeAtom_j181 h50 hQ
    · have h36 := h34.2 c35
      refine ix_subW ([some (.inr (.inr (.inl (some (44))))), none, none]) (ix_subS (ix_subN (ix_subS (ix_sub0)))) ?_
      exact tj_X7_takeAtom_j48 h36 hQ
def wj_X7_takeAtom_j12 (s0 : Int32) (I : Nat → Nat → Int32) (J : Nat → Nat → Int64) (T : Option Nat) (P : (Nat → Nat → Int32) → (Nat → Nat → Int64) → Option Nat → Prop) : Prop := ((s0 = 0 → wj_X7_takeAtom_j26_k44 (s0) (I 44 17) I J T P) ∧ (¬ (s0 = 0) → wj_X7_takeAtom_j26_k44 (s0) ((1 : Int32)) I J T P))
set_option maxRecDepth 20000 in
theorem tj_X7_takeAtom_j12 {d : Nat} {s0 : Int32} {I : Nat → Nat → Int32} {J : Nat → Nat → Int64} {T : Option Nat} {P : (Nat → Nat → Int32) → (Nat → Nat → Int64) → Option Nat → Prop} {Q : ix_Q} (h : wj_X7_takeAtom_j12 s0 I J T P) (hQ : ∀ I J T, P I J T → Q none (ix_mem 276 I J T)) : ix_W (ix_C (d + 2)) (7, ix_lk ix_l119, none, 0, 0, Nat.blt 0 0, none) Q (12, [some (.inr (.inr (.inl (some (44))))), none, none], [.inl (s0)], 0, 0, ix_mem 276 I J T) := by
  unfold wj_X7_takeAtom_j12 at h
  refine ix_go 4 (x' := (if s0 = 0 then 22 else 18, [some (.inr (.inr (.inl (some (44))))), some (.inl (s0)), none], [.inr (.inr (.inl (some (44))))], 0, 0, ix_mem 276 I J T)) rfl trivial ?_
  refine ix_br (fun c3 => ?_) (fun c3 => ?_)
  · have h4 := h.1 c3
    refine ix_go 2 (x' := (26, [some (.inr (.inr (.inl (some (44))))), some (.inl (s0)), none], [.inl (I 44 17), .inr (.inr (.inl (some (44))))], 0, 0, ix_mem 276 I J T)) rfl ⟨rfl, rfl⟩ ?_
    refine ix_subW ([some (.inr (.inr (.inl (some (44))))), some (.inl (s0)), none]) (ix_subS (ix_subS (ix_subS (ix_sub0)))) ?_
    exact tj_X7_takeAtom_j26_k44 h4 hQ
  · have h4 := h.2 c3
    refine ix_go 2 (x' := (26, [some (.inr (.inr (.inl (some (44))))), some (.inl (s0)), none], [.inl ((1 : Int32)), .inr (.inr (.inl (some (44))))], 0, 0, ix_mem 276 I J T)) rfl trivial ?_
    refine ix_subW ([some (.inr (.inr (.inl (some (44))))), some (.inl (s0)), none]) (ix_subS (ix_subS (ix_subS (ix_sub0)))) ?_
    exact tj_X7_takeAtom_j26_k44 h4 hQ
def wp_X7_takeAtom (I : Nat → Nat → Int32) (J : Nat → Nat → Int64) (T : Option Nat) (P : (Nat → Nat → Int32) → (Nat → Nat → Int64) → Option Nat → Prop) : Prop := ((I 44 17 = 0 → wj_X7_takeAtom_j12 ((1 : Int32)) I J T P) ∧ (¬ (I 44 17 = 0) → wj_X7_takeAtom_j12 ((0 : Int32)) I J T P))
set_option maxRecDepth 20000 in
theorem tp_X7_takeAtom {d : Nat} {I : Nat → Nat → Int32} {J : Nat → Nat → Int64} {T : Option Nat} {P : (Nat → Nat → Int32) → (Nat → Nat → Int64) → Option Nat → Prop} {Q : ix_Q} (h : wp_X7_takeAtom I J T P) (hQ : ∀ I J T, P I J T → Q none (ix_mem 276 I J T)) : ix_C (d + 3) 119 [.inr (.inr (.inl (some (44))))] (ix_mem 276 I J T) Q := by
  unfold wp_X7_takeAtom at h
  refine ix_enter (ls := [some (.inr (.inr (.inl (some (44))))), none, none]) rfl rfl rfl (Nat.le_of_ble_eq_true rfl) ?_
  refine ix_go 3 (x' := (if I 44 17 = 0 then 7 else 11, [some (.inr (.inr (.inl (some (44))))), none, none], [], 0, 0, ix_mem 276 I J T)) rfl ⟨rfl, rfl⟩ ?_
  refine ix_br (fun c1 => ?_) (fun c1 => ?_)
  · have h2 := h.1 c1
    refine ix_go 2 (x' := (12, [some (.inr (.inr (.inl (some (44))))), none, none], [.inl ((1 : Int32))], 0, 0, ix_mem 276 I J T)) rfl trivial ?_
    refine ix_subW ([some (.inr (.inr (.inl (some (44))))), none, none]) (ix_subS (ix_subS (ix_subS (ix_sub0)))) ?_
    exact tj_X7_takeAtom_j12 h2 hQ
  · have h2 := h.2 c1
    refine ix_go 1 (x' := (12, [some (.inr (.inr (.inl (some (44))))), none, none], [.inl ((0 : Int32))], 0, 0, ix_mem 276 I J T)) rfl trivial ?_
    refine ix_subW ([some (.inr (.inr (.inl (some (44))))), none, none]) (ix_subS (ix_subS (ix_subS (ix_sub0)))) ?_
    exact tj_X7_takeAtom_j12 h2 hQ
