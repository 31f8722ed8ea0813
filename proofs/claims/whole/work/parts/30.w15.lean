def wp_X8_charge (a0 : Int32) (I : Nat → Nat → Int32) (J : Nat → Nat → Int64) (T : Option Nat) (P : Int64 → (Nat → Nat → Int32) → (Nat → Nat → Int64) → Option Nat → Prop) : Prop := wp_X8_clauseFor (a0) I J T (fun v1 I1 J1 T1 => wp_X6_year I1 J1 T1 (fun v2 I2 J2 T2 => wp_X8_holding (v2) I2 J2 T2 (fun v3 I3 J3 T3 => ((v1 = (-1 : Int32) → P ((0 : Int64)) I3 J3 T3) ∧ (¬ (v1 = (-1 : Int32)) → wp_X8_has (v3) I3 J3 T3 (fun v6 I6 J6 T6 => ((v6 = 0 → P ((0 : Int64)) I6 J6 T6) ∧ (¬ (v6 = 0) → ix_inb (v3) 4 = true ∧ ((v3 = 0 → wp_X9_compute_59 (v1) ((0 : Int32)) I6 J6 T6 (fun v12 I12 J12 T12 => wp_J9_min_f86c9 ((1000000000000 : Int64)) (v12) I12 J12 T12 (fun v13 I13 J13 T13 => wp_J9_max_f86c9 ((0 : Int64)) (v13) I13 J13 T13 (fun v14 I14 J14 T14 => P (v14) I14 J14 T14)))) ∧ (v3 = 1 → wp_X9_compute_68 (v1) ((0 : Int32)) I6 J6 T6 (fun v15 I15 J15 T15 => wp_J9_min_f86c9 ((1000000000000 : Int64)) (v15) I15 J15 T15 (fun v16 I16 J16 T16 => wp_J9_max_f86c9 ((0 : Int64)) (v16) I16 J16 T16 (fun v17 I17 J17 T17 => P (v17) I17 J17 T17)))) ∧ (v3 = 2 → wp_X9_compute_77 (v1) ((0 : Int32)) I6 J6 T6 (fun v18 I18 J18 T18 => wp_J9_min_f86c9 ((1000000000000 : Int64)) (v18) I18 J18 T18 (fun v19 I19 J19 T19 => wp_J9_max_f86c9 ((0 : Int64)) (v19) I19 J19 T19 (fun v20 I20 J20 T20 => P (v20) I20 J20 T20)))) ∧ (v3 = 3 → wp_X9_compute_86 (v1) ((0 : Int32)) I6 J6 T6 (fun v21 I21 J21 T21 => wp_J9_min_f86c9 ((1000000000000 : Int64)) (v21) I21 J21 T21 (fun v22 I22 J22 T22 => wp_J9_max_f86c9 ((0 : Int64)) (v22) I22 J22 T22 (fun v23 I23 J23 T23 => P (v23) I23 J23 T23)))))))))))))
set_option maxRecDepth 20000 in
theorem tp_X8_charge {d : Nat} {a0 : Int32} {I : Nat → Nat → Int32} {J : Nat → Nat → Int64} {T : Option Nat} {P : Int64 → (Nat → Nat → Int32) → (Nat → Nat → Int64) → Option Nat → Prop} {Q : ix_Q} (h : wp_X8_charge a0 I J T P) (hQ : ∀ v I J T, P v I J T → Q (some (.inr (.inl v))) (ix_mem 276 I J T)) : ix_C (d + 5) 143 [.inr (.inr (.inl (some (51)))), .inl (a0), .inr (.inr (.inl (some (95))))] (ix_mem 276 I J T) Q := by
  unfold wp_X8_charge at h
  refine ix_enter (ls := [some (.inr (.inr (.inl (some (51))))), some (.inl (a0)), some (.inr (.inr (.inl (some (95))))), none, none, none]) rfl rfl rfl (Nat.le_of_ble_eq_true rfl) ?_
  refine ix_go 3 (x' := (3, [some (.inr (.inr (.inl (some (51))))), some (.inl (a0)), some (.inr (.inr (.inl (some (95))))), none, none, none], [.inr (.inr (.inl (some (95)))), .inl (a0), .inr (.inr (.inl (some (51))))], 0, 0, ix_mem 276 I J T)) rfl trivial ?_
  refine ix_sp rfl ⟨rfl, ⟨ix_lt rfl, ix_eq rfl, ix_lt rfl⟩, ix_le rfl, Nat.le_refl _, Nat.le_refl _, tp_X8_clauseFor h (fun v1 I1 J1 T1 h1 => ?_)⟩
  change ix_W _ _ _ (6, [some (.inr (.inr (.inl (some (51))))), some (.inl (a0)), some (.inr (.inr (.inl (some (95))))), none, none, none], [.inl (v1)], 0, 0, ix_mem 276 I1 J1 T1)
  refine ix_go 3 (x' := (9, [some (.inr (.inr (.inl (some (51))))), some (.inl (a0)), some (.inr (.inr (.inl (some (95))))), some (.inl (v1)), none, none], [.inr (.inr (.inl (some (95)))), .inr (.inr (.inl (some (51))))], 0, 0, ix_mem 276 I1 J1 T1)) rfl trivial ?_
  refine ix_sp rfl ⟨rfl, ⟨ix_lt rfl, ix_eq rfl, ix_lt rfl⟩, ix_le rfl, Nat.le_refl _, Nat.le_refl _, tp_X6_year h1 (fun v2 I2 J2 T2 h2 => ?_)⟩
  change ix_W _ _ _ (12, [some (.inr (.inr (.inl (some (51))))), some (.inl (a0)), some (.inr (.inr (.inl (some (95))))), some (.inl (v1)), none, none], [.inl (v2), .inr (.inr (.inl (some (51))))], 0, 0, ix_mem 276 I2 J2 T2)
  refine ix_sp rfl ⟨rfl, ⟨ix_lt rfl, ix_eq rfl, ix_lt rfl⟩, ix_le rfl, Nat.le_refl _, Nat.le_refl _, tp_X8_holding h2 (fun v3 I3 J3 T3 h3 => ?_)⟩
  change ix_W _ _ _ (15, [some (.inr (.inr (.inl (some (51))))), some (.inl (a0)), some (.inr (.inr (.inl (some (95))))), some (.inl (v1)), none, none], [.inl (v3)], 0, 0, ix_mem 276 I3 J3 T3)
  refine ix_go 4 (x' := (if v1 = (-1 : Int32) then 41 else 22, [some (.inr (.inr (.inl (some (51))))), some (.inl (a0)), some (.inr (.inr (.inl (some (95))))), some (.inl (v1)), some (.inl (v3)), none], [], 0, 0, ix_mem 276 I3 J3 T3)) rfl trivial ?_
  refine ix_br (fun c4 => ?_) (fun c4 => ?_)
  · have h5 := h3.1 c4
    refine ix_go 5 (x' := (50, [some (.inr (.inr (.inl (some (51))))), some (.inl (a0)), some (.inr (.inr (.inl (some (95))))), some (.inl (v1)), some (.inl (v3)), some (.inr (.inr (.inl none)))], [.inr (.inl ((0 : Int64)))], 0, 0, ix_mem 276 I3 J3 T3)) rfl trivial ?_
    exact ix_sp rfl ⟨Nat.le_refl _, Nat.le_refl _, rfl, hQ _ _ _ _ h5⟩
  · have h5 := h3.2 c4
    refine ix_go 2 (x' := (25, [some (.inr (.inr (.inl (some (51))))), some (.inl (a0)), some (.inr (.inr (.inl (some (95))))), some (.inl (v1)), some (.inl (v3)), none], [.inl (v3), .inr (.inr (.inl (some (51))))], 0, 0, ix_mem 276 I3 J3 T3)) rfl trivial ?_
    refine ix_sp rfl ⟨rfl, ⟨ix_lt rfl, ix_eq rfl, ix_lt rfl⟩, ix_le rfl, Nat.le_refl _, Nat.le_refl _, tp_X8_has h5 (fun v6 I6 J6 T6 h6 => ?_)⟩
    change ix_W _ _ _ (28, [some (.inr (.inr (.inl (some (51))))), some (.inl (a0)), some (.inr (.inr (.inl (some (95))))), some (.inl (v1)), some (.inl (v3)), none], [.inl (v6)], 0, 0, ix_mem 276 I6 J6 T6)
    refine ix_go 1 (x' := (if v6 = 0 then 41 else 31, [some (.inr (.inr (.inl (some (51))))), some (.inl (a0)), some (.inr (.inr (.inl (some (95))))), some (.inl (v1)), some (.inl (v3)), none], [], 0, 0, ix_mem 276 I6 J6 T6)) rfl trivial ?_
    refine ix_br (fun c7 => ?_) (fun c7 => ?_)
    · have h8 := h6.1 c7
      refine ix_go 5 (x' := (50, [some (.inr (.inr (.inl (some (51))))), some (.inl (a0)), some (.inr (.inr (.inl (some (95))))), some (.inl (v1)), some (.inl (v3)), some (.inr (.inr (.inl none)))], [.inr (.inl ((0 : Int64)))], 0, 0, ix_mem 276 I6 J6 T6)) rfl trivial ?_
      exact ix_sp rfl ⟨Nat.le_refl _, Nat.le_refl _, rfl, hQ _ _ _ _ h8⟩
    · have h8 := h6.2 c7
      obtain ⟨p9, h10⟩ := h8
      refine ix_go 4 (x' := (38, [some (.inr (.inr (.inl (some (51))))), some (.inl (a0)), some (.inr (.inr (.inl (some (95))))), some (.inl (v1)), some (.inl (v3)), none], [.inr (.inr (.inl (some (ix_row 52 (v3)))))], 0, 0, ix_mem 276 I6 J6 T6)) rfl ⟨rfl, rfl, rfl, rfl, rfl, p9, (rw_52 p9).1⟩ ?_
      rcases ix_four p9 with e | e | e | e
      · have h11 := h10.1 e
        rw [show ix_row 52 (v3) = 59 from by unfold ix_row; rw [e]; rfl]
        refine ix_go 7 (x' := (57, [some (.inr (.inr (.inl (some (51))))), some (.inl (a0)), some (.inr (.inr (.inl (some (95))))), some (.inl (v1)), some (.inl (v3)), some (.inr (.inr (.inl (some (59)))))], [.inr (.inr (.inl (some (59)))), .inr (.inl ((1000000000000 : Int64))), .inr (.inl ((0 : Int64)))], 0, 0, ix_mem 276 I6 J6 T6)) rfl trivial ?_
        refine ix_go 3 (x' := (60, [some (.inr (.inr (.inl (some (51))))), some (.inl (a0)), some (.inr (.inr (.inl (some (95))))), some (.inl (v1)), some (.inl (v3)), some (.inr (.inr (.inl (some (59)))))], [.inr (.inr (.inl (some (95)))), .inl ((0 : Int32)), .inl (v1), .inr (.inr (.inl (some (59)))), .inr (.inl ((1000000000000 : Int64))), .inr (.inl ((0 : Int64)))], 0, 0, ix_mem 276 I6 J6 T6)) rfl trivial ?_
        refine ix_sp rfl ⟨rfl, ⟨ix_lt rfl, ix_eq rfl, ix_lt rfl⟩, ix_le rfl, Nat.le_refl _, Nat.le_refl _, tp_X9_compute_59 h11 (fun v12 I12 J12 T12 h12 => ?_)⟩
        change ix_W _ _ _ (63, [some (.inr (.inr (.inl (some (51))))), some (.inl (a0)), some (.inr (.inr (.inl (some (95))))), some (.inl (v1)), some (.inl (v3)), some (.inr (.inr (.inl (some (59)))))], [.inr (.inl (v12)), .inr (.inl ((1000000000000 : Int64))), .inr (.inl ((0 : Int64)))], 0, 0, ix_mem 276 I12 J12 T12)
        refine ix_sp rfl ⟨rfl, trivial, ix_le rfl, Nat.le_refl _, Nat.le_refl _, tp_J9_min_f86c9 h12 (fun v13 I13 J13 T13 h13 => ?_)⟩
        change ix_W _ _ _ (66, [some (.inr (.inr (.inl (some (51))))), some (.inl (a0)), some (.inr (.inr (.inl (some (95))))), some (.inl (v1)), some (.inl (v3)), some (.inr (.inr (.inl (some (59)))))], [.inr (.inl (v13)), .inr (.inl ((0 : Int64)))], 0, 0, ix_mem 276 I13 J13 T13)
        refine ix_sp rfl ⟨rfl, trivial, ix_le rfl, Nat.le_refl _, Nat.le_refl _, tp_J9_max_f86c9 h13 (fun v14 I14 J14 T14 h14 => ?_)⟩
        change ix_W _ _ _ (69, [some (.inr (.inr (.inl (some (51))))), some (.inl (a0)), some (.inr (.inr (.inl (some (95))))), some (.inl (v1)), some (.inl (v3)), some (.inr (.inr (.inl (some (59)))))], [.inr (.inl (v14))], 0, 0, ix_mem 276 I14 J14 T14)
        exact ix_sp rfl ⟨Nat.le_refl _, Nat.le_refl _, rfl, hQ _ _ _ _ h14⟩
      · have h11 := h10.2.1 e
        rw [show ix_row 52 (v3) = 68 from by unfold ix_row; rw [e]; rfl]
        refine ix_go 7 (x' := (57, [some (.inr (.inr (.inl (some (51))))), some (.inl (a0)), some (.inr (.inr (.inl (some (95))))), some (.inl (v1)), some (.inl (v3)), some (.inr (.inr (.inl (some (68)))))], [.inr (.inr (.inl (some (68)))), .inr (.inl ((1000000000000 : Int64))), .inr (.inl ((0 : Int64)))], 0, 0, ix_mem 276 I6 J6 T6)) rfl trivial ?_
        refine ix_go 3 (x' := (60, [some (.inr (.inr (.inl (some (51))))), some (.inl (a0)), some (.inr (.inr (.inl (some (95))))), some (.inl (v1)), some (.inl (v3)), some (.inr (.inr (.inl (some (68)))))], [.inr (.inr (.inl (some (95)))), .inl ((0 : Int32)), .inl (v1), .inr (.inr (.inl (some (68)))), .inr (.inl ((1000000000000 : Int64))), .inr (.inl ((0 : Int64)))], 0, 0, ix_mem 276 I6 J6 T6)) rfl trivial ?_
        refine ix_sp rfl ⟨rfl, ⟨ix_lt rfl, ix_eq rfl, ix_lt rfl⟩, ix_le rfl, Nat.le_refl _, Nat.le_refl _, tp_X9_compute_68 h11 (fun v15 I15 J15 T15 h15 => ?_)⟩
        change ix_W _ _ _ (63, [some (.inr (.inr (.inl (some (51))))), some (.inl (a0)), some (.inr (.inr (.inl (some (95))))), some (.inl (v1)), some (.inl (v3)), some (.inr (.inr (.inl (some (68)))))], [.inr (.inl (v15)), .inr (.inl ((1000000000000 : Int64))), .inr (.inl ((0 : Int64)))], 0, 0, ix_mem 276 I15 J15 T15)
        refine ix_sp rfl ⟨rfl, trivial, ix_le rfl, Nat.le_refl _, Nat.le_refl _, tp_J9_min_f86c9 h15 (fun v16 I16 J16 T16 h16 => ?_)⟩
        change ix_W _ _ _ (66, [some (.inr (.inr (.inl (some (51))))), some (.inl (a0)), some (.inr (.inr (.inl (some (95))))), some (.inl (v1)), some (.inl (v3)), some (.inr (.inr (.inl (some (68)))))], [.inr (.inl (v16)), .inr (.inl ((0 : Int64)))], 0, 0, ix_mem 276 I16 J16 T16)
        refine ix_sp rfl ⟨rfl, trivial, ix_le rfl, Nat.le_refl _, Nat.le_refl _, tp_J9_max_f86c9 h16 (fun v17 I17 J17 T17 h17 => ?_)⟩
        change ix_W _ _ _ (69, [some (.inr (.inr (.inl (some (51))))), some (.inl (a0)), some (.inr (.inr (.inl (some (95))))), some (.inl (v1)), some (.inl (v3)), some (.inr (.inr (.inl (some (68)))))], [.inr (.inl (v17))], 0, 0, ix_mem 276 I17 J17 T17)
        exact ix_sp rfl ⟨Nat.le_refl _, Nat.le_refl _, rfl, hQ _ _ _ _ h17⟩
      · have h11 := h10.2.2.1 e
        rw [show ix_row 52 (v3) = 77 from by unfold ix_row; rw [e]; rfl]
        refine ix_go 7 (x' := (57, [some (.inr (.inr (.inl (some (51))))), some (.inl (a0)), some (.inr (.inr (.inl (some (95))))), some (.inl (v1)), some (.inl (v3)), some (.inr (.inr (.inl (some (77)))))], [.inr (.inr (.inl (some (77)))), .inr (.inl ((1000000000000 : Int64))), .inr (.inl ((0 : Int64)))], 0, 0, ix_mem 276 I6 J6 T6)) rfl trivial ?_
        refine ix_go 3 (x' := (60, [some (.inr (.inr (.inl (some (51))))), some (.inl (a0)), some (.inr (.inr (.inl (some (95))))), some (.inl (v1)), some (.inl (v3)), some (.inr (.inr (.inl (some (77)))))], [.inr (.inr (.inl (some (95)))), .inl ((0 : Int32)), .inl (v1), .inr (.inr (.inl (some (77)))), .inr (.inl ((1000000000000 : Int64))), .inr (.inl ((0 : Int64)))], 0, 0, ix_mem 276 I6 J6 T6)) rfl trivial ?_
        refine ix_sp rfl ⟨rfl, ⟨ix_lt rfl, ix_eq rfl, ix_lt rfl⟩, ix_le rfl, Nat.le_refl _, Nat.le_refl _, tp_X9_compute_77 h11 (fun v18 I18 J18 T18 h18 => ?_)⟩
        change ix_W _ _ _ (63, [some (.inr (.inr (.inl (some (51))))), some (.inl (a0)), some (.inr (.inr (.inl (some (95))))), some (.inl (v1)), some (.inl (v3)), some (.inr (.inr (.inl (some (77)))))], [.inr (.inl (v18)), .inr (.inl ((1000000000000 : Int64))), .inr (.inl ((0 : Int64)))], 0, 0, ix_mem 276 I18 J18 T18)
        refine ix_sp rfl ⟨rfl, trivial, ix_le rfl, Nat.le_refl _, Nat.le_refl _, tp_J9_min_f86c9 h18 (fun v19 I19 J19 T19 h19 => ?_)⟩
        change ix_W _ _ _ (66, [some (.inr (.inr (.inl (some (51))))), some (.inl (a0)), some (.inr (.inr (.inl (some (95))))), some (.inl (v1)), some (.inl (v3)), some (.inr (.inr (.inl (some (77)))))], [.inr (.inl (v19)), .inr (.inl ((0 : Int64)))], 0, 0, ix_mem 276 I19 J19 T19)
        refine ix_sp rfl ⟨rfl, trivial, ix_le rfl, Nat.le_refl _, Nat.le_refl _, tp_J9_max_f86c9 h19 (fun v20 I20 J20 T20 h20 => ?_)⟩
        change ix_W _ _ _ (69, [some (.inr (.inr (.inl (some (51))))), some (.inl (a0)), some (.inr (.inr (.inl (some (95))))), some (.inl (v1)), some (.inl (v3)), some (.inr (.inr (.inl (some (77)))))], [.inr (.inl (v20))], 0, 0, ix_mem 276 I20 J20 T20)
        exact ix_sp rfl ⟨Nat.le_refl _, Nat.le_refl _, rfl, hQ _ _ _ _ h20⟩
      · have h11 := h10.2.2.2 e
        rw [show ix_row 52 (v3) = 86 from by unfold ix_row; rw [e]; rfl]
        refine ix_go 7 (x' := (57, [some (.inr (.inr (.inl (some (51))))), some (.inl (a0)), some (.inr (.inr (.inl (some (95))))), some (.inl (v1)), some (.inl (v3)), some (.inr (.inr (.inl (some (86)))))], [.inr (.inr (.inl (some (86)))), .inr (.inl ((1000000000000 : Int64))), .inr (.inl ((0 : Int64)))], 0, 0, ix_mem 276 I6 J6 T6)) rfl trivial ?_
        refine ix_go 3 (x' := (60, [some (.inr (.inr (.inl (some (51))))), some (.inl (a0)), some (.inr (.inr (.inl (some (95))))), some (.inl (v1)), some (.inl (v3)), some (.inr (.inr (.inl (some (86)))))], [.inr (.inr (.inl (some (95)))), .inl ((0 : Int32)), .inl (v1), .inr (.inr (.inl (some (86)))), .inr (.inl ((1000000000000 : Int64))), .inr (.inl ((0 : Int64)))], 0, 0, ix_mem 276 I6 J6 T6)) rfl trivial ?_
        refine ix_sp rfl ⟨rfl, ⟨ix_lt rfl, ix_eq rfl, ix_lt rfl⟩, ix_le rfl, Nat.le_refl _, Nat.le_refl _, tp_X9_compute_86 h11 (fun v21 I21 J21 T21 h21 => ?_)⟩
        change ix_W _ _ _ (63, [some (.inr (.inr (.inl (some (51))))), some (.inl (a0)), some (.inr (.inr (.inl (some (95))))), some (.inl (v1)), some (.inl (v3)), some (.inr (.inr (.inl (some (86)))))], [.inr (.inl (v21)), .inr (.inl ((1000000000000 : Int64))), .inr (.inl ((0 : Int64)))], 0, 0, ix_mem 276 I21 J21 T21)
        refine ix_sp rfl ⟨rfl, trivial, ix_le rfl, Nat.le_refl _, Nat.le_refl _, tp_J9_min_f86c9 h21 (fun v22 I22 J22 T22 h22 => ?_)⟩
        change ix_W _ _ _ (66, [some (.inr (.inr (.inl (some (51))))), some (.inl (a0)), some (.inr (.inr (.inl (some (95))))), some (.inl (v1)), some (.inl (v3)), some (.inr (.inr (.inl (some (86)))))], [.inr (.inl (v22)), .inr (.inl ((0 : Int64)))], 0, 0, ix_mem 276 I22 J22 T22)
        refine ix_sp rfl ⟨rfl, trivial, ix_le rfl, Nat.le_refl _, Nat.le_refl _, tp_J9_max_f86c9 h22 (fun v23 I23 J23 T23 h23 => ?_)⟩
        change ix_W _ _ _ (69, [some (.inr (.inr (.inl (some (51))))), some (.inl (a0)), some (.inr (.inr (.inl (some (95))))), some (.inl (v1)), some (.inl (v3)), some (.inr (.inr (.inl (some (86)))))], [.inr (.inl (v23))], 0, 0, ix_mem 276 I23 J23 T23)
        exact ix_sp rfl ⟨Nat.le_refl _, Nat.le_refl _, rfl, hQ _ _ _ _ h23⟩
def wp_X10_bestDays (I : Nat → Nat → Int32) (J : Nat → Nat → Int64) (T : Option Nat) (P : Int32 → (Nat → Nat → Int32) → (Nat → Nat → Int64) → Option Nat → Prop) : Prop := P (I 97 9) I J T
set_option maxRecDepth 20000 in
theorem tp_X10_bestDays {d : Nat} {I : Nat → Nat → Int32} {J : Nat → Nat → Int64} {T : Option Nat} {P : Int32 → (Nat → Nat → Int32) → (Nat → Nat → Int64) → Option Nat → Prop} {Q : ix_Q} (h : wp_X10_bestDays I J T P) (hQ : ∀ v I J T, P v I J T → Q (some (.inl v)) (ix_mem 276 I J T)) : ix_C (d + 1) 145 [.inr (.inr (.inl (some (97))))] (ix_mem 276 I J T) Q := by
  unfold wp_X10_bestDays at h
  refine ix_enter (ls := [some (.inr (.inr (.inl (some (97)))))]) rfl rfl rfl (Nat.le_of_ble_eq_true rfl) ?_
  refine ix_go 2 (x' := (4, [some (.inr (.inr (.inl (some (97)))))], [.inl (I 97 9)], 0, 0, ix_mem 276 I J T)) rfl ⟨rfl, rfl⟩ ?_
  exact ix_sp rfl ⟨Nat.le_refl _, Nat.le_refl _, trivial, hQ _ _ _ _ h⟩
def wp_X10_bestPrice (I : Nat → Nat → Int32) (J : Nat → Nat → Int64) (T : Option Nat) (P : Int64 → (Nat → Nat → Int32) → (Nat → Nat → Int64) → Option Nat → Prop) : Prop := P (J 97 10) I J T
set_option maxRecDepth 20000 in
theorem tp_X10_bestPrice {d : Nat} {I : Nat → Nat → Int32} {J : Nat → Nat → Int64} {T : Option Nat} {P : Int64 → (Nat → Nat → Int32) → (Nat → Nat → Int64) → Option Nat → Prop} {Q : ix_Q} (h : wp_X10_bestPrice I J T P) (hQ : ∀ v I J T, P v I J T → Q (some (.inr (.inl v))) (ix_mem 276 I J T)) : ix_C (d + 1) 146 [.inr (.inr (.inl (some (97))))] (ix_mem 276 I J T) Q := by
  unfold wp_X10_bestPrice at h
  refine ix_enter (ls := [some (.inr (.inr (.inl (some (97)))))]) rfl rfl rfl (Nat.le_of_ble_eq_true rfl) ?_
  refine ix_go 2 (x' := (4, [some (.inr (.inr (.inl (some (97)))))], [.inr (.inl (J 97 10))], 0, 0, ix_mem 276 I J T)) rfl ⟨rfl, rfl⟩ ?_
  exact ix_sp rfl ⟨Nat.le_refl _, Nat.le_refl _, rfl, hQ _ _ _ _ h⟩
def wp_X10_remailPrice (I : Nat → Nat → Int32) (J : Nat → Nat → Int64) (T : Option Nat) (P : Int64 → (Nat → Nat → Int32) → (Nat → Nat → Int64) → Option Nat → Prop) : Prop := P (J 97 11) I J T
set_option maxRecDepth 20000 in
theorem tp_X10_remailPrice {d : Nat} {I : Nat → Nat → Int32} {J : Nat → Nat → Int64} {T : Option Nat} {P : Int64 → (Nat → Nat → Int32) → (Nat → Nat → Int64) → Option Nat → Prop} {Q : ix_Q} (h : wp_X10_remailPrice I J T P) (hQ : ∀ v I J T, P v I J T → Q (some (.inr (.inl v))) (ix_mem 276 I J T)) : ix_C (d + 1) 147 [.inr (.inr (.inl (some (97))))] (ix_mem 276 I J T) Q := by
  unfold wp_X10_remailPrice at h
  refine ix_enter (ls := [some (.inr (.inr (.inl (some (97)))))]) rfl rfl rfl (Nat.le_of_ble_eq_true rfl) ?_
  refine ix_go 2 (x' := (4, [some (.inr (.inr (.inl (some (97)))))], [.inr (.inl (J 97 11))], 0, 0, ix_mem 276 I J T)) rfl ⟨rfl, rfl⟩ ?_
  exact ix_sp rfl ⟨Nat.le_refl _, Nat.le_refl _, rfl, hQ _ _ _ _ h⟩
def wb_X10_isOnPath_2 (x1 : Int32) (x2 : Int32) (x3 : Int32) (I : Nat → Nat → Int32) (J : Nat → Nat → Int64) (T : Option Nat) (V2 : Int32 → Int32 → Int32 → (Nat → Nat → Int32) → (Nat → Nat → Int64) → Option Nat → Prop) (P : Int32 → (Nat → Nat → Int32) → (Nat → Nat → Int64) → Option Nat → Prop) : Prop := ((x3 < x2 → ix_inb (x3) 5 = true ∧ ((I 104 (x3).toNatClampNeg = x1 → P ((1 : Int32)) I J T) ∧ (¬ (I 104 (x3).toNatClampNeg = x1) → V2 (x1) (x2) (x3 + (1 : Int32)) I J T))) ∧ (¬ (x3 < x2) → P ((0 : Int32)) I J T))
def wl_X10_isOnPath_2 (x1 : Int32) (x2 : Int32) (x3 : Int32) (I : Nat → Nat → Int32) (J : Nat → Nat → Int64) (T : Option Nat) (P : Int32 → (Nat → Nat → Int32) → (Nat → Nat → Int64) → Option Nat → Prop) : Prop := ∀ V : Int32 → Int32 → Int32 → (Nat → Nat → Int32) → (Nat → Nat → Int64) → Option Nat → Prop, (∀ (x1 : Int32) (x2 : Int32) (x3 : Int32) (I : Nat → Nat → Int32) (J : Nat → Nat → Int64) (T : Option Nat), wb_X10_isOnPath_2 x1 x2 x3 I J T V P → V x1 x2 x3 I J T) → V x1 x2 x3 I J T
set_option maxRecDepth 20000 in
theorem tl_X10_isOnPath_2 {d : Nat} {x1 : Int32} {x2 : Int32} {x3 : Int32} {I : Nat → Nat → Int32} {J : Nat → Nat → Int64} {T : Option Nat} {P : Int32 → (Nat → Nat → Int32) → (Nat → Nat → Int64) → Option Nat → Prop} {Q : ix_Q} (h : wl_X10_isOnPath_2 x1 x2 x3 I J T P) (hQ : ∀ v I J T, P v I J T → Q (some (.inl v)) (ix_mem 276 I J T)) : ix_W (ix_C d) (10, ix_lk ix_l148, (some .boolean), 0, 0, Nat.blt 0 0, none) Q (2, [some (.inr (.inr (.inl (some (97))))), some (.inl (x1)), some (.inl (x2)), some (.inl (x3))], [], 0, 0, ix_mem 276 I J T) := by
  refine h (fun x1 x2 x3 I J T => ix_W (ix_C d) (10, ix_lk ix_l148, (some .boolean), 0, 0, Nat.blt 0 0, none) Q (2, [some (.inr (.inr (.inl (some (97))))), some (.inl (x1)), some (.inl (x2)), some (.inl (x3))], [], 0, 0, ix_mem 276 I J T)) ?_
  intro x1 x2 x3 I J T hb
  unfold wb_X10_isOnPath_2 at hb
  refine ix_go 3 (x' := (if x3 < x2 then 7 else 25, [some (.inr (.inr (.inl (some (97))))), some (.inl (x1)), some (.inl (x2)), some (.inl (x3))], [], 0, 0, ix_mem 276 I J T)) rfl trivial ?_
  refine ix_br (fun c1 => ?_) (fun c1 => ?_)
  · have h2 := hb.1 c1
    obtain ⟨p3, h4⟩ := h2
    refine ix_go 6 (x' := (if I 104 (x3).toNatClampNeg = x1 then 17 else 19, [some (.inr (.inr (.inl (some (97))))), some (.inl (x1)), some (.inl (x2)), some (.inl (x3))], [], 0, 0, ix_mem 276 I J T)) rfl ⟨rfl, rfl, rfl, rfl, p3⟩ ?_
    refine ix_br (fun c5 => ?_) (fun c5 => ?_)
    · have h6 := h4.1 c5
      refine ix_go 1 (x' := (18, [some (.inr (.inr (.inl (some (97))))), some (.inl (x1)), some (.inl (x2)), some (.inl (x3))], [.inl ((1 : Int32))], 0, 0, ix_mem 276 I J T)) rfl trivial ?_
      exact ix_sp rfl ⟨Nat.le_refl _, Nat.le_refl _, ix_01_ok rfl, hQ _ _ _ _ h6⟩
    · have h6 := h4.2 c5
      refine ix_go 2 (x' := (2, [some (.inr (.inr (.inl (some (97))))), some (.inl (x1)), some (.inl (x2)), some (.inl (x3 + (1 : Int32)))], [], 0, 0, ix_mem 276 I J T)) rfl trivial ?_
      refine ix_subW ([some (.inr (.inr (.inl (some (97))))), some (.inl (x1)), some (.inl (x2)), some (.inl (x3 + (1 : Int32)))]) (ix_subS (ix_subS (ix_subS (ix_subS (ix_sub0))))) ?_
      exact h6
  · have h2 := hb.2 c1
    refine ix_go 1 (x' := (26, [some (.inr (.inr (.inl (some (97))))), some (.inl (x1)), some (.inl (x2)), some (.inl (x3))], [.inl ((0 : Int32))], 0, 0, ix_mem 276 I J T)) rfl trivial ?_
    exact ix_sp rfl ⟨Nat.le_refl _, Nat.le_refl _, ix_01_ok rfl, hQ _ _ _ _ h2⟩
def wp_X10_isOnPath (a0 : Int32) (a1 : Int32) (I : Nat → Nat → Int32) (J : Nat → Nat → Int64) (T : Option Nat) (P : Int32 → (Nat → Nat → Int32) → (Nat → Nat → Int64) → Option Nat → Prop) : Prop := wl_X10_isOnPath_2 (a0) (a1) ((0 : Int32)) I J T P
set_option maxRecDepth 20000 in
theorem tp_X10_isOnPath {d : Nat} {a0 : Int32} {a1 : Int32} {I : Nat → Nat → Int32} {J : Nat → Nat → Int64} {T : Option Nat} {P : Int32 → (Nat → Nat → Int32) → (Nat → Nat → Int64) → Option Nat → Prop} {Q : ix_Q} (h : wp_X10_isOnPath a0 a1 I J T P) (hQ : ∀ v I J T, P v I J T → Q (some (.inl v)) (ix_mem 276 I J T)) : ix_C (d + 1) 148 [.inr (.inr (.inl (some (97)))), .inl (a0), .inl (a1)] (ix_mem 276 I J T) Q := by
  unfold wp_X10_isOnPath at h
  refine ix_enter (ls := [some (.inr (.inr (.inl (some (97))))), some (.inl (a0)), some (.inl (a1)), none]) rfl rfl rfl (Nat.le_of_ble_eq_true rfl) ?_
  refine ix_go 2 (x' := (2, [some (.inr (.inr (.inl (some (97))))), some (.inl (a0)), some (.inl (a1)), some (.inl ((0 : Int32)))], [], 0, 0, ix_mem 276 I J T)) rfl trivial ?_
  refine ix_subW ([some (.inr (.inr (.inl (some (97))))), some (.inl (a0)), some (.inl (a1)), some (.inl ((0 : Int32)))]) (ix_subS (ix_subS (ix_subS (ix_subS (ix_sub0))))) ?_
  exact tl_X10_isOnPath_2 h hQ
def wb_X10_arrive_117_15 (x1 : Int32) (x8 : Int32) (I : Nat → Nat → Int32) (J : Nat → Nat → Int64) (T : Option Nat) (V117 : Int32 → Int32 → (Nat → Nat → Int32) → (Nat → Nat → Int64) → Option Nat → Prop) (V15 : Int32 → Int32 → Int64 → Int32 → (Nat → Nat → Int32) → (Nat → Nat → Int64) → Option Nat → Prop) (P : (Nat → Nat → Int32) → (Nat → Nat → Int64) → Option Nat → Prop) : Prop := ((x8 < x1 → ix_inb (x8) 5 = true ∧ ix_inb (x8) 5 = true ∧ V117 (x1) (x8 + (1 : Int32)) (ix_u2 I 105 (x8).toNatClampNeg (I 104 (x8).toNatClampNeg)) J T) ∧ (¬ (x8 < x1) → P I J T))
def wl_X10_arrive_117_15 (x1 : Int32) (x8 : Int32) (I : Nat → Nat → Int32) (J : Nat → Nat → Int64) (T : Option Nat) (V15 : Int32 → Int32 → Int64 → Int32 → (Nat → Nat → Int32) → (Nat → Nat → Int64) → Option Nat → Prop) (P : (Nat → Nat → Int32) → (Nat → Nat → Int64) → Option Nat → Prop) : Prop := ∀ V : Int32 → Int32 → (Nat → Nat → Int32) → (Nat → Nat → Int64) → Option Nat → Prop, (∀ (x1 : Int32) (x8 : Int32) (I : Nat → Nat → Int32) (J : Nat → Nat → Int64) (T : Option Nat), wb_X10_arrive_117_15 x1 x8 I J T V V15 P → V x1 x8 I J T) → V x1 x8 I J T
set_option maxRecDepth 20000 in
theorem tl_X10_arrive_117_15 {d : Nat} {x1 : Int32} {x8 : Int32} {I : Nat → Nat → Int32} {J : Nat → Nat → Int64} {T : Option Nat} {V15 : Int32 → Int32 → Int64 → Int32 → (Nat → Nat → Int32) → (Nat → Nat → Int64) → Option Nat → Prop} {P : (Nat → Nat → Int32) → (Nat → Nat → Int64) → Option Nat → Prop} {Q : ix_Q} (h : wl_X10_arrive_117_15 x1 x8 I J T V15 P) (hV15 : ∀ (x1 : Int32) (x2 : Int32) (x5 : Int64) (x7 : Int32) I J T, V15 x1 x2 x5 x7 I J T → ix_W (ix_C d) (10, ix_lk ix_l149, none, 0, 0, Nat.blt 0 0, none) Q (15, [some (.inr (.inr (.inl (some (97))))), some (.inl (x1)), some (.inl (x2)), none, none, some (.inr (.inl (x5))), none, some (.inl (x7)), none], [], 0, 0, ix_mem 276 I J T)) (hQ : ∀ I J T, P I J T → Q none (ix_mem 276 I J T)) : ix_W (ix_C d) (10, ix_lk ix_l149, none, 0, 0, Nat.blt 0 0, none) Q (117, [some (.inr (.inr (.inl (some (97))))), some (.inl (x1)), none, none, none, none, none, none, some (.inl (x8))], [], 0, 0, ix_mem 276 I J T) := by
  refine h (fun x1 x8 I J T => ix_W (ix_C d) (10, ix_lk ix_l149, none, 0, 0, Nat.blt 0 0, none) Q (117, [some (.inr (.inr (.inl (some (97))))), some (.inl (x1)), none, none, none, none, none, none, some (.inl (x8))], [], 0, 0, ix_mem 276 I J T)) ?_
  intro x1 x8 I J T hb
  unfold wb_X10_arrive_117_15 at hb
  refine ix_go 3 (x' := (if x8 < x1 then 123 else 143, [some (.inr (.inr (.inl (some (97))))), some (.inl (x1)), none, none, none, none, none, none, some (.inl (x8))], [], 0, 0, ix_mem 276 I J T)) rfl trivial ?_
  refine ix_br (fun c15 => ?_) (fun c15 => ?_)
  · have h16 := hb.1 c15
    obtain ⟨p17, h18⟩ := h16
    obtain ⟨p19, h20⟩ := h18
    refine ix_go 10 (x' := (117, [some (.inr (.inr (.inl (some (97))))), some (.inl (x1)), none, none, none, none, none, none, some (.inl (x8 + (1 : Int32)))], [], 0, 0, ix_mem 276 (ix_u2 I 105 (x8).toNatClampNeg (I 104 (x8).toNatClampNeg)) J T)) rfl ⟨rfl, rfl, rfl, rfl, rfl, rfl, p17, rfl, rfl, p19⟩ ?_
    refine ix_subW ([some (.inr (.inr (.inl (some (97))))), some (.inl (x1)), none, none, none, none, none, none, some (.inl (x8 + (1 : Int32)))]) (ix_subS (ix_subS (ix_subS (ix_subS (ix_subS (ix_subS (ix_subS (ix_subS (ix_subS (ix_sub0)))))))))) ?_
    exact h20
  · have h16 := hb.2 c15
    exact ix_sp rfl ⟨Nat.le_refl _, Nat.le_refl _, rfl, hQ _ _ _ h16⟩
def wb_X10_arrive_15 (x1 : Int32) (x2 : Int32) (x5 : Int64) (x7 : Int32) (I : Nat → Nat → Int32) (J : Nat → Nat → Int64) (T : Option Nat) (V15 : Int32 → Int32 → Int64 → Int32 → (Nat → Nat → Int32) → (Nat → Nat → Int64) → Option Nat → Prop) (P : (Nat → Nat → Int32) → (Nat → Nat → Int64) → Option Nat → Prop) : Prop := ((x7 < (x1) - ((1 : Int32)) → ix_inb ((x1) - ((2 : Int32))) 4 = true ∧ ix_inb (x7) 5 = true ∧ ix_inb (I 104 (x7).toNatClampNeg) 7 = true ∧ V15 (x1) (x2) ((x5) + (J (ix_row 99 ((x1) - ((2 : Int32)))) (I 104 (x7).toNatClampNeg).toNatClampNeg)) (x7 + (1 : Int32)) I J T) ∧ (¬ (x7 < (x1) - ((1 : Int32))) → ((lg_cmp (x5) (J 97 10) < 0 → ((I 97 8 ≤ 0 → wl_X10_arrive_117_15 (x1) ((0 : Int32)) (ix_u2 (ix_u2 I 97 8 (x1)) 97 9 (x2)) (ix_u2 J 97 10 (x5)) T V15 P) ∧ (¬ (I 97 8 ≤ 0) → wl_X10_arrive_117_15 (x1) ((0 : Int32)) (ix_u2 (ix_u2 I 97 8 (x1)) 97 9 (x2)) (ix_u2 J 97 10 (x5)) T V15 P))) ∧ (¬ (lg_cmp (x5) (J 97 10) < 0) → ((lg_cmp (x5) (J 97 10) = 0 → ((x2 < I 97 9 → ((I 97 8 ≤ 0 → wl_X10_arrive_117_15 (x1) ((0 : Int32)) (ix_u2 (ix_u2 I 97 8 (x1)) 97 9 (x2)) (ix_u2 J 97 10 (x5)) T V15 P) ∧ (¬ (I 97 8 ≤ 0) → wl_X10_arrive_117_15 (x1) ((0 : Int32)) (ix_u2 (ix_u2 I 97 8 (x1)) 97 9 (x2)) (ix_u2 J 97 10 (x5)) T V15 P))) ∧ (¬ (x2 < I 97 9) → ((I 97 8 ≤ 0 → wl_X10_arrive_117_15 (x1) ((0 : Int32)) (ix_u2 (ix_u2 I 97 8 (x1)) 97 9 (x2)) (ix_u2 J 97 10 (x5)) T V15 P) ∧ (¬ (I 97 8 ≤ 0) → P I J T))))) ∧ (¬ (lg_cmp (x5) (J 97 10) = 0) → ((I 97 8 ≤ 0 → wl_X10_arrive_117_15 (x1) ((0 : Int32)) (ix_u2 (ix_u2 I 97 8 (x1)) 97 9 (x2)) (ix_u2 J 97 10 (x5)) T V15 P) ∧ (¬ (I 97 8 ≤ 0) → P I J T))))))))
def wl_X10_arrive_15 (x1 : Int32) (x2 : Int32) (x5 : Int64) (x7 : Int32) (I : Nat → Nat → Int32) (J : Nat → Nat → Int64) (T : Option Nat) (P : (Nat → Nat → Int32) → (Nat → Nat → Int64) → Option Nat → Prop) : Prop := ∀ V : Int32 → Int32 → Int64 → Int32 → (Nat → Nat → Int32) → (Nat → Nat → Int64) → Option Nat → Prop, (∀ (x1 : Int32) (x2 : Int32) (x5 : Int64) (x7 : Int32) (I : Nat → Nat → Int32) (J : Nat → Nat → Int64) (T : Option Nat), wb_X10_arrive_15 x1 x2 x5 x7 I J T V P → V x1 x2 x5 x7 I J T) → V x1 x2 x5 x7 I J T
set_option maxRecDepth 20000 in
theorem tl_X10_arrive_15 {d : Nat} {x1 : Int32} {x2 : Int32} {x5 : Int64} {x7 : Int32} {I : Nat → Nat → Int32} {J : Nat → Nat → Int64} {T : Option Nat} {P : (Nat → Nat → Int32) → (Nat → Nat → Int64) → Option Nat → Prop} {Q : ix_Q} (h : wl_X10_arrive_15 x1 x2 x5 x7 I J T P) (hQ : ∀ I J T, P I J T → Q none (ix_mem 276 I J T)) : ix_W (ix_C d) (10, ix_lk ix_l149, none, 0, 0, Nat.blt 0 0, none) Q (15, [some (.inr (.inr (.inl (some (97))))), some (.inl (x1)), some (.inl (x2)), none, none, some (.inr (.inl (x5))), none, some (.inl (x7)), none], [], 0, 0, ix_mem 276 I J T) := by
  refine h (fun x1 x2 x5 x7 I J T => ix_W (ix_C d) (10, ix_lk ix_l149, none, 0, 0, Nat.blt 0 0, none) Q (15, [some (.inr (.inr (.inl (some (97))))), some (.inl (x1)), some (.inl (x2)), none, none, some (.inr (.inl (x5))), none, some (.inl (x7)), none], [], 0, 0, ix_mem 276 I J T)) ?_
  intro x1 x2 x5 x7 I J T hb
  unfold wb_X10_arrive_15 at hb
  refine ix_go 5 (x' := (if x7 < (x1) - ((1 : Int32)) then 23 else 50, [some (.inr (.inr (.inl (some (97))))), some (.inl (x1)), some (.inl (x2)), none, none, some (.inr (.inl (x5))), none, some (.inl (x7)), none], [], 0, 0, ix_mem 276 I J T)) rfl trivial ?_
  refine ix_br (fun c3 => ?_) (fun c3 => ?_)
  · have h4 := hb.1 c3
    obtain ⟨p5, h6⟩ := h4
    obtain ⟨p7, h8⟩ := h6
    obtain ⟨p9, h10⟩ := h8
    refine ix_go 16 (x' := (15, [some (.inr (.inr (.inl (some (97))))), some (.inl (x1)), some (.inl (x2)), none, none, some (.inr (.inl ((x5) + (J (ix_row 99 ((x1) - ((2 : Int32)))) (I 104 (x7).toNatClampNeg).toNatClampNeg)))), none, some (.inl (x7 + (1 : Int32))), none], [], 0, 0, ix_mem 276 I J T)) rfl ⟨rfl, rfl, rfl, rfl, rfl, p5, (rw_99 p5).1, rfl, rfl, rfl, rfl, p7, (rw_99 p5).2.1, (rw_99 p5).2.2.1, (ix_inbL (rw_99 p5).2.2.2.1 p9)⟩ ?_
    refine ix_subW ([some (.inr (.inr (.inl (some (97))))), some (.inl (x1)), some (.inl (x2)), none, none, some (.inr (.inl ((x5) + (J (ix_row 99 ((x1) - ((2 : Int32)))) (I 104 (x7).toNatClampNeg).toNatClampNeg)))), none, some (.inl (x7 + (1 : Int32))), none]) (ix_subS (ix_subS (ix_subS (ix_subS (ix_subS (ix_subS (ix_subS (ix_subS (ix_subS (ix_sub0)))))))))) ?_
    exact h10
  · have h4 := hb.2 c3
    refine ix_go 5 (x' := (if lg_cmp (x5) (J 97 10) < 0 then 78 else 60, [some (.inr (.inr (.inl (some (97))))), some (.inl (x1)), some (.inl (x2)), none, none, some (.inr (.inl (x5))), none, some (.inl (x7)), none], [], 0, 0, ix_mem 276 I J T)) rfl ⟨rfl, rfl⟩ ?_
    refine ix_br (fun c11 => ?_) (fun c11 => ?_)
    · have h12 := h4.1 c11
      refine ix_go 6 (x' := (if I 97 8 ≤ 0 then 98 else 92, [some (.inr (.inr (.inl (some (97))))), some (.inl (x1)), some (.inl (x2)), none, none, some (.inr (.inl (x5))), none, some (.inl ((1 : Int32))), none], [], 0, 0, ix_mem 276 I J T)) rfl ⟨rfl, rfl⟩ ?_
      refine ix_br (fun c13 => ?_) (fun c13 => ?_)
      · have h14 := h12.1 c13
        refine ix_go 11 (x' := (117, [some (.inr (.inr (.inl (some (97))))), some (.inl (x1)), some (.inl (x2)), none, none, some (.inr (.inl (x5))), none, some (.inl ((1 : Int32))), some (.inl ((0 : Int32)))], [], 0, 0, ix_mem 276 (ix_u2 (ix_u2 I 97 8 (x1)) 97 9 (x2)) (ix_u2 J 97 10 (x5)) T)) rfl ⟨rfl, rfl, rfl, rfl, rfl, rfl⟩ ?_
        refine ix_subW ([some (.inr (.inr (.inl (some (97))))), some (.inl (x1)), none, none, none, none, none, none, some (.inl ((0 : Int32)))]) (ix_subS (ix_subS (ix_subN (ix_subS (ix_subS (ix_subN (ix_subS (ix_subN (ix_subS (ix_sub0)))))))))) ?_
        exact tl_X10_arrive_117_15 h14 (fun _ _ _ _ I J T hv => hv) hQ
      · have h14 := h12.2 c13
        refine ix_go 13 (x' := (117, [some (.inr (.inr (.inl (some (97))))), some (.inl (x1)), some (.inl (x2)), none, none, some (.inr (.inl (x5))), none, some (.inl ((1 : Int32))), some (.inl ((0 : Int32)))], [], 0, 0, ix_mem 276 (ix_u2 (ix_u2 I 97 8 (x1)) 97 9 (x2)) (ix_u2 J 97 10 (x5)) T)) rfl ⟨rfl, rfl, rfl, rfl, rfl, rfl⟩ ?_
        refine ix_subW ([some (.inr (.inr (.inl (some (97))))), some (.inl (x1)), none, none, none, none, none, none, some (.inl ((0 : Int32)))]) (ix_subS (ix_subS (ix_subN (ix_subS (ix_subS (ix_subN (ix_subS (ix_subN (ix_subS (ix_sub0)))))))))) ?_
        exact tl_X10_arrive_117_15 h14 (fun _ _ _ _ I J T hv => hv) hQ
    · have h12 := h4.2 c11
      refine ix_go 5 (x' := (if lg_cmp (x5) (J 97 10) = 0 then 70 else 82, [some (.inr (.inr (.inl (some (97))))), some (.inl (x1)), some (.inl (x2)), none, none, some (.inr (.inl (x5))), none, some (.inl (x7)), none], [], 0, 0, ix_mem 276 I J T)) rfl ⟨rfl, rfl⟩ ?_
      refine ix_br (fun c21 => ?_) (fun c21 => ?_)
      · have h22 := h12.1 c21
        refine ix_go 4 (x' := (if x2 < I 97 9 then 78 else 82, [some (.inr (.inr (.inl (some (97))))), some (.inl (x1)), some (.inl (x2)), none, none, some (.inr (.inl (x5))), none, some (.inl (x7)), none], [], 0, 0, ix_mem 276 I J T)) rfl ⟨rfl, rfl⟩ ?_
        refine ix_br (fun c23 => ?_) (fun c23 => ?_)
        · have h24 := h22.1 c23
          refine ix_go 6 (x' := (if I 97 8 ≤ 0 then 98 else 92, [some (.inr (.inr (.inl (some (97))))), some (.inl (x1)), some (.inl (x2)), none, none, some (.inr (.inl (x5))), none, some (.inl ((1 : Int32))), none], [], 0, 0, ix_mem 276 I J T)) rfl ⟨rfl, rfl⟩ ?_
          refine ix_br (fun c25 => ?_) (fun c25 => ?_)
          · have h26 := h24.1 c25
            refine ix_go 11 (x' := (117, [some (.inr (.inr (.inl (some (97))))), some (.inl (x1)), some (.inl (x2)), none, none, some (.inr (.inl (x5))), none, some (.inl ((1 : Int32))), some (.inl ((0 : Int32)))], [], 0, 0, ix_mem 276 (ix_u2 (ix_u2 I 97 8 (x1)) 97 9 (x2)) (ix_u2 J 97 10 (x5)) T)) rfl ⟨rfl, rfl, rfl, rfl, rfl, rfl⟩ ?_
            refine ix_subW ([some (.inr (.inr (.inl (some (97))))), some (.inl (x1)), none, none, none, none, none, none, some (.inl ((0 : Int32)))]) (ix_subS (ix_subS (ix_subN (ix_subS (ix_subS (ix_subN (ix_subS (ix_subN (ix_subS (ix_sub0)))))))))) ?_
            exact tl_X10_arrive_117_15 h26 (fun _ _ _ _ I J T hv => hv) hQ
          · have h26 := h24.2 c25
            refine ix_go 13 (x' := (117, [some (.inr (.inr (.inl (some (97))))), some (.inl (x1)), some (.inl (x2)), none, none, some (.inr (.inl (x5))), none, some (.inl ((1 : Int32))), some (.inl ((0 : Int32)))], [], 0, 0, ix_mem 276 (ix_u2 (ix_u2 I 97 8 (x1)) 97 9 (x2)) (ix_u2 J 97 10 (x5)) T)) rfl ⟨rfl, rfl, rfl, rfl, rfl, rfl⟩ ?_
            refine ix_subW ([some (.inr (.inr (.inl (some (97))))), some (.inl (x1)), none, none, none, none, none, none, some (.inl ((0 : Int32)))]) (ix_subS (ix_subS (ix_subN (ix_subS (ix_subS (ix_subN (ix_subS (ix_subN (ix_subS (ix_sub0)))))))))) ?_
            exact tl_X10_arrive_117_15 h26 (fun _ _ _ _ I J T hv => hv) hQ
        · have h24 := h22.2 c23
          refine ix_go 5 (x' := (if I 97 8 ≤ 0 then 98 else 92, [some (.inr (.inr (.inl (some (97))))), some (.inl (x1)), some (.inl (x2)), none, none, some (.inr (.inl (x5))), none, some (.inl ((0 : Int32))), none], [], 0, 0, ix_mem 276 I J T)) rfl ⟨rfl, rfl⟩ ?_
          refine ix_br (fun c27 => ?_) (fun c27 => ?_)
          · have h28 := h24.1 c27
            refine ix_go 11 (x' := (117, [some (.inr (.inr (.inl (some (97))))), some (.inl (x1)), some (.inl (x2)), none, none, some (.inr (.inl (x5))), none, some (.inl ((0 : Int32))), some (.inl ((0 : Int32)))], [], 0, 0, ix_mem 276 (ix_u2 (ix_u2 I 97 8 (x1)) 97 9 (x2)) (ix_u2 J 97 10 (x5)) T)) rfl ⟨rfl, rfl, rfl, rfl, rfl, rfl⟩ ?_
            refine ix_subW ([some (.inr (.inr (.inl (some (97))))), some (.inl (x1)), none, none, none, none, none, none, some (.inl ((0 : Int32)))]) (ix_subS (ix_subS (ix_subN (ix_subS (ix_subS (ix_subN (ix_subS (ix_subN (ix_subS (ix_sub0)))))))))) ?_
            exact tl_X10_arrive_117_15 h28 (fun _ _ _ _ I J T hv => hv) hQ
          · have h28 := h24.2 c27
            refine ix_go 2 (x' := (97, [some (.inr (.inr (.inl (some (97))))), some (.inl (x1)), some (.inl (x2)), none, none, some (.inr (.inl (x5))), none, some (.inl ((0 : Int32))), none], [], 0, 0, ix_mem 276 I J T)) rfl trivial ?_
            exact ix_sp rfl ⟨Nat.le_refl _, Nat.le_refl _, rfl, hQ _ _ _ h28⟩
      · have h22 := h12.2 c21
        refine ix_go 5 (x' := (if I 97 8 ≤ 0 then 98 else 92, [some (.inr (.inr (.inl (some (97))))), some (.inl (x1)), some (.inl (x2)), none, none, some (.inr (.inl (x5))), none, some (.inl ((0 : Int32))), none], [], 0, 0, ix_mem 276 I J T)) rfl ⟨rfl, rfl⟩ ?_
        refine ix_br (fun c29 => ?_) (fun c29 => ?_)
        · have h30 := h22.1 c29
          refine ix_go 11 (x' := (117, [some (.inr (.inr (.inl (some (97))))), some (.inl (x1)), some (.inl (x2)), none, none, some (.inr (.inl (x5))), none, some (.inl ((0 : Int32))), some (.inl ((0 : Int32)))], [], 0, 0, ix_mem 276 (ix_u2 (ix_u2 I 97 8 (x1)) 97 9 (x2)) (ix_u2 J 97 10 (x5)) T)) rfl ⟨rfl, rfl, rfl, rfl, rfl, rfl⟩ ?_
          refine ix_subW ([some (.inr (.inr (.inl (some (97))))), some (.inl (x1)), none, none, none, none, none, none, some (.inl ((0 : Int32)))]) (ix_subS (ix_subS (ix_subN (ix_subS (ix_subS (ix_subN (ix_subS (ix_subN (ix_subS (ix_sub0)))))))))) ?_
          exact tl_X10_arrive_117_15 h30 (fun _ _ _ _ I J T hv => hv) hQ
        · have h30 := h22.2 c29
          refine ix_go 2 (x' := (97, [some (.inr (.inr (.inl (some (97))))), some (.inl (x1)), some (.inl (x2)), none, none, some (.inr (.inl (x5))), none, some (.inl ((0 : Int32))), none], [], 0, 0, ix_mem 276 I J T)) rfl trivial ?_
          exact ix_sp rfl ⟨Nat.le_refl _, Nat.le_refl _, rfl, hQ _ _ _ h30⟩
def wp_X10_arrive (a0 : Int32) (a1 : Int32) (a2 : Int64) (I : Nat → Nat → Int32) (J : Nat → Nat → Int64) (T : Option Nat) (P : (Nat → Nat → Int32) → (Nat → Nat → Int64) → Option Nat → Prop) : Prop := ix_inb ((a0) - ((2 : Int32))) 4 = true ∧ wl_X10_arrive_15 (a0) (a1) ((a2) + (J 98 ((a0) - ((2 : Int32))).toNatClampNeg)) ((1 : Int32)) I J T P
set_option maxRecDepth 20000 in
theorem tp_X10_arrive {d : Nat} {a0 : Int32} {a1 : Int32} {a2 : Int64} {I : Nat → Nat → Int32} {J : Nat → Nat → Int64} {T : Option Nat} {P : (Nat → Nat → Int32) → (Nat → Nat → Int64) → Option Nat → Prop} {Q : ix_Q} (h : wp_X10_arrive a0 a1 a2 I J T P) (hQ : ∀ I J T, P I J T → Q none (ix_mem 276 I J T)) : ix_C (d + 1) 149 [.inr (.inr (.inl (some (97)))), .inl (a0), .inl (a1), .inr (.inl (a2))] (ix_mem 276 I J T) Q := by
  unfold wp_X10_arrive at h
  refine ix_enter (ls := [some (.inr (.inr (.inl (some (97))))), some (.inl (a0)), some (.inl (a1)), some (.inr (.inl (a2))), none, none, none, none, none]) rfl rfl rfl (Nat.le_of_ble_eq_true rfl) ?_
  obtain ⟨p1, h2⟩ := h
  refine ix_go 11 (x' := (15, [some (.inr (.inr (.inl (some (97))))), some (.inl (a0)), some (.inl (a1)), some (.inr (.inl (a2))), none, some (.inr (.inl ((a2) + (J 98 ((a0) - ((2 : Int32))).toNatClampNeg)))), none, some (.inl ((1 : Int32))), none], [], 0, 0, ix_mem 276 I J T)) rfl ⟨rfl, rfl, rfl, rfl, p1⟩ ?_
  refine ix_subW ([some (.inr (.inr (.inl (some (97))))), some (.inl (a0)), some (.inl (a1)), none, none, some (.inr (.inl ((a2) + (J 98 ((a0) - ((2 : Int32))).toNatClampNeg)))), none, some (.inl ((1 : Int32))), none]) (ix_subS (ix_subS (ix_subS (ix_subN (ix_subS (ix_subS (ix_subS (ix_subS (ix_subS (ix_sub0)))))))))) ?_
  exact tl_X10_arrive_15 h2 hQ
def wb_X10_extend_l0_24 (x1 : Int32) (x2 : Int32) (x3 : Int64) (x5 : Int32) (x6 : Int32) (I : Nat → Nat → Int32) (J : Nat → Nat → Int64) (T : Option Nat) (V24 : Int32 → Int32 → Int64 → Int32 → Int32 → (Nat → Nat → Int32) → (Nat → Nat → Int64) → Option Nat → Prop) (P : (Nat → Nat → Int32) → (Nat → Nat → Int64) → Option Nat → Prop) : Prop := wp_X5_count I J T (fun v7 I7 J7 T7 => ((x6 < v7 → wp_X5_hasRoad (x5) (x6) I7 J7 T7 (fun v10 I10 J10 T10 => ((v10 = 0 → V24 (x1) (x2) (x3) (x5) (x6 + (1 : Int32)) I10 J10 T10) ∧ (¬ (v10 = 0) → wp_X10_isOnPath (x6) (x1) I10 J10 T10 (fun v13 I13 J13 T13 => ((v13 = 0 → wp_X5_daysOf (x5) (x6) I13 J13 T13 (fun v16 I16 J16 T16 => wp_X5_freightOf (x5) (x6) I16 J16 T16 (fun v17 I17 J17 T17 => ix_inb (x1) 5 = true ∧ ((x6 = I17 97 2 → wp_X10_arrive ((x1) + ((1 : Int32))) ((x2) + (v16)) ((x3) + (((J16 97 3) * ((v17).toInt64)) / ((1000 : Int64)))) (ix_u2 I17 104 (x1).toNatClampNeg (x6)) J17 T17 (fun I22 J22 T22 => V24 (x1) (x2) (x3) (x5) (x6 + (1 : Int32)) I22 J22 T22)) ∧ (¬ (x6 = I17 97 2) → False))))) ∧ (¬ (v13 = 0) → V24 (x1) (x2) (x3) (x5) (x6 + (1 : Int32)) I13 J13 T13))))))) ∧ (¬ (x6 < v7) → P I7 J7 T7)))
def wl_X10_extend_l0_24 (x1 : Int32) (x2 : Int32) (x3 : Int64) (x5 : Int32) (x6 : Int32) (I : Nat → Nat → Int32) (J : Nat → Nat → Int64) (T : Option Nat) (P : (Nat → Nat → Int32) → (Nat → Nat → Int64) → Option Nat → Prop) : Prop := ∀ V : Int32 → Int32 → Int64 → Int32 → Int32 → (Nat → Nat → Int32) → (Nat → Nat → Int64) → Option Nat → Prop, (∀ (x1 : Int32) (x2 : Int32) (x3 : Int64) (x5 : Int32) (x6 : Int32) (I : Nat → Nat → Int32) (J : Nat → Nat → Int64) (T : Option Nat), wb_X10_extend_l0_24 x1 x2 x3 x5 x6 I J T V P → V x1 x2 x3 x5 x6 I J T) → V x1 x2 x3 x5 x6 I J T
set_option maxRecDepth 20000 in
theorem tl_X10_extend_l0_24 {d : Nat} {x1 : Int32} {x2 : Int32} {x3 : Int64} {x5 : Int32} {x6 : Int32} {I : Nat → Nat → Int32} {J : Nat → Nat → Int64} {T : Option Nat} {P : (Nat → Nat → Int32) → (Nat → Nat → Int64) → Option Nat → Prop} {Q : ix_Q} (h : wl_X10_extend_l0_24 x1 x2 x3 x5 x6 I J T P) (hQ : ∀ I J T, P I J T → Q none (ix_mem 276 I J T)) : ix_W (ix_C (d + 1)) (10, ix_lk ix_l150, none, 0, 0, Nat.blt 0 0, none) Q (24, [some (.inr (.inr (.inl (some (97))))), some (.inl (x1)), some (.inl (x2)), some (.inr (.inl (x3))), none, some (.inl (x5)), some (.inl (x6)), none, none, none], [], 0, 0, ix_mem 276 I J T) := by
  refine h (fun x1 x2 x3 x5 x6 I J T => ix_W (ix_C (d + 1)) (10, ix_lk ix_l150, none, 0, 0, Nat.blt 0 0, none) Q (24, [some (.inr (.inr (.inl (some (97))))), some (.inl (x1)), some (.inl (x2)), some (.inr (.inl (x3))), none, some (.inl (x5)), some (.inl (x6)), none, none, none], [], 0, 0, ix_mem 276 I J T)) ?_
  intro x1 x2 x3 x5 x6 I J T hb
  unfold wb_X10_extend_l0_24 at hb
  refine ix_go 3 (x' := (30, [some (.inr (.inr (.inl (some (97))))), some (.inl (x1)), some (.inl (x2)), some (.inr (.inl (x3))), none, some (.inl (x5)), some (.inl (x6)), none, none, none], [.inr (.inr (.inl (some (8)))), .inl (x6)], 0, 0, ix_mem 276 I J T)) rfl ⟨rfl, rfl⟩ ?_
  refine ix_sp rfl ⟨rfl, ⟨ix_lt rfl, ix_eq rfl, ix_lt rfl⟩, ix_le rfl, Nat.le_refl _, Nat.le_refl _, tp_X5_count hb (fun v7 I7 J7 T7 h7 => ?_)⟩
  change ix_W _ _ _ (33, [some (.inr (.inr (.inl (some (97))))), some (.inl (x1)), some (.inl (x2)), some (.inr (.inl (x3))), none, some (.inl (x5)), some (.inl (x6)), none, none, none], [.inl (v7), .inl (x6)], 0, 0, ix_mem 276 I7 J7 T7)
  refine ix_go 1 (x' := (if x6 < v7 then 36 else 151, [some (.inr (.inr (.inl (some (97))))), some (.inl (x1)), some (.inl (x2)), some (.inr (.inl (x3))), none, some (.inl (x5)), some (.inl (x6)), none, none, none], [], 0, 0, ix_mem 276 I7 J7 T7)) rfl trivial ?_
  refine ix_br (fun c8 => ?_) (fun c8 => ?_)
  · have h9 := h7.1 c8
    refine ix_go 4 (x' := (44, [some (.inr (.inr (.inl (some (97))))), some (.inl (x1)), some (.inl (x2)), some (.inr (.inl (x3))), none, some (.inl (x5)), some (.inl (x6)), none, none, none], [.inl (x6), .inl (x5), .inr (.inr (.inl (some (8))))], 0, 0, ix_mem 276 I7 J7 T7)) rfl ⟨rfl, rfl⟩ ?_
    refine ix_sp rfl ⟨rfl, ⟨ix_lt rfl, ix_eq rfl, ix_lt rfl⟩, ix_le rfl, Nat.le_refl _, Nat.le_refl _, tp_X5_hasRoad h9 (fun v10 I10 J10 T10 h10 => ?_)⟩
    change ix_W _ _ _ (47, [some (.inr (.inr (.inl (some (97))))), some (.inl (x1)), some (.inl (x2)), some (.inr (.inl (x3))), none, some (.inl (x5)), some (.inl (x6)), none, none, none], [.inl (v10)], 0, 0, ix_mem 276 I10 J10 T10)
    refine ix_go 1 (x' := (if v10 = 0 then 145 else 50, [some (.inr (.inr (.inl (some (97))))), some (.inl (x1)), some (.inl (x2)), some (.inr (.inl (x3))), none, some (.inl (x5)), some (.inl (x6)), none, none, none], [], 0, 0, ix_mem 276 I10 J10 T10)) rfl trivial ?_
    refine ix_br (fun c11 => ?_) (fun c11 => ?_)
    · have h12 := h10.1 c11
      refine ix_go 2 (x' := (24, [some (.inr (.inr (.inl (some (97))))), some (.inl (x1)), some (.inl (x2)), some (.inr (.inl (x3))), none, some (.inl (x5)), some (.inl (x6 + (1 : Int32))), none, none, none], [], 0, 0, ix_mem 276 I10 J10 T10)) rfl trivial ?_
      refine ix_subW ([some (.inr (.inr (.inl (some (97))))), some (.inl (x1)), some (.inl (x2)), some (.inr (.inl (x3))), none, some (.inl (x5)), some (.inl (x6 + (1 : Int32))), none, none, none]) (ix_subS (ix_subS (ix_subS (ix_subS (ix_subS (ix_subS (ix_subS (ix_subS (ix_subS (ix_subS (ix_sub0))))))))))) ?_
      exact h12
    · have h12 := h10.2 c11
      refine ix_go 3 (x' := (54, [some (.inr (.inr (.inl (some (97))))), some (.inl (x1)), some (.inl (x2)), some (.inr (.inl (x3))), none, some (.inl (x5)), some (.inl (x6)), none, none, none], [.inl (x1), .inl (x6), .inr (.inr (.inl (some (97))))], 0, 0, ix_mem 276 I10 J10 T10)) rfl trivial ?_
      refine ix_sp rfl ⟨rfl, ⟨ix_lt rfl, ix_eq rfl, ix_lt rfl⟩, ix_le rfl, Nat.le_refl _, Nat.le_refl _, tp_X10_isOnPath h12 (fun v13 I13 J13 T13 h13 => ?_)⟩
      change ix_W _ _ _ (57, [some (.inr (.inr (.inl (some (97))))), some (.inl (x1)), some (.inl (x2)), some (.inr (.inl (x3))), none, some (.inl (x5)), some (.inl (x6)), none, none, none], [.inl (v13)], 0, 0, ix_mem 276 I13 J13 T13)
      refine ix_go 1 (x' := (if v13 = 0 then 63 else 60, [some (.inr (.inr (.inl (some (97))))), some (.inl (x1)), some (.inl (x2)), some (.inr (.inl (x3))), none, some (.inl (x5)), some (.inl (x6)), none, none, none], [], 0, 0, ix_mem 276 I13 J13 T13)) rfl trivial ?_
      refine ix_br (fun c14 => ?_) (fun c14 => ?_)
      · have h15 := h13.1 c14
        refine ix_go 5 (x' := (72, [some (.inr (.inr (.inl (some (97))))), some (.inl (x1)), some (.inl (x2)), some (.inr (.inl (x3))), none, some (.inl (x5)), some (.inl (x6)), none, none, none], [.inl (x6), .inl (x5), .inr (.inr (.inl (some (8)))), .inl (x2)], 0, 0, ix_mem 276 I13 J13 T13)) rfl ⟨rfl, rfl⟩ ?_
        refine ix_sp rfl ⟨rfl, ⟨ix_lt rfl, ix_eq rfl, ix_lt rfl⟩, ix_le rfl, Nat.le_refl _, Nat.le_refl _, tp_X5_daysOf h15 (fun v16 I16 J16 T16 h16 => ?_)⟩
        change ix_W _ _ _ (75, [some (.inr (.inr (.inl (some (97))))), some (.inl (x1)), some (.inl (x2)), some (.inr (.inl (x3))), none, some (.inl (x5)), some (.inl (x6)), none, none, none], [.inl (v16), .inl (x2)], 0, 0, ix_mem 276 I16 J16 T16)
        refine ix_go 9 (x' := (91, [some (.inr (.inr (.inl (some (97))))), some (.inl (x1)), some (.inl (x2)), some (.inr (.inl (x3))), none, some (.inl (x5)), some (.inl (x6)), some (.inl ((x2) + (v16))), none, none], [.inl (x6), .inl (x5), .inr (.inr (.inl (some (8)))), .inr (.inl (J16 97 3)), .inr (.inl (x3))], 0, 0, ix_mem 276 I16 J16 T16)) rfl ⟨rfl, rfl, rfl, rfl⟩ ?_
        refine ix_sp rfl ⟨rfl, ⟨ix_lt rfl, ix_eq rfl, ix_lt rfl⟩, ix_le rfl, Nat.le_refl _, Nat.le_refl _, tp_X5_freightOf h16 (fun v17 I17 J17 T17 h17 => ?_)⟩
        change ix_W _ _ _ (94, [some (.inr (.inr (.inl (some (97))))), some (.inl (x1)), some (.inl (x2)), some (.inr (.inl (x3))), none, some (.inl (x5)), some (.inl (x6)), some (.inl ((x2) + (v16))), none, none], [.inl (v17), .inr (.inl (J16 97 3)), .inr (.inl (x3))], 0, 0, ix_mem 276 I17 J17 T17)
        obtain ⟨p18, h19⟩ := h17
        refine ix_go 15 (x' := (if x6 = I17 97 2 then 120 else 134, [some (.inr (.inr (.inl (some (97))))), some (.inl (x1)), some (.inl (x2)), some (.inr (.inl (x3))), none, some (.inl (x5)), some (.inl (x6)), some (.inl ((x2) + (v16))), some (.inr (.inl ((x3) + (((J16 97 3) * ((v17).toInt64)) / ((1000 : Int64)))))), none], [], 0, 0, ix_mem 276 (ix_u2 I17 104 (x1).toNatClampNeg (x6)) J17 T17)) rfl ⟨rfl, rfl, rfl, rfl, rfl, p18, rfl, rfl⟩ ?_
        refine ix_br (fun c20 => ?_) (fun c20 => ?_)
        · have h21 := h19.1 c20
          refine ix_go 6 (x' := (128, [some (.inr (.inr (.inl (some (97))))), some (.inl (x1)), some (.inl (x2)), some (.inr (.inl (x3))), none, some (.inl (x5)), some (.inl (x6)), some (.inl ((x2) + (v16))), some (.inr (.inl ((x3) + (((J16 97 3) * ((v17).toInt64)) / ((1000 : Int64)))))), none], [.inr (.inl ((x3) + (((J16 97 3) * ((v17).toInt64)) / ((1000 : Int64))))), .inl ((x2) + (v16)), .inl ((x1) + ((1 : Int32))), .inr (.inr (.inl (some (97))))], 0, 0, ix_mem 276 (ix_u2 I17 104 (x1).toNatClampNeg (x6)) J17 T17)) rfl trivial ?_
          refine ix_sp rfl ⟨rfl, ⟨ix_lt rfl, ix_eq rfl, ix_lt rfl⟩, ix_le rfl, Nat.le_refl _, Nat.le_refl _, tp_X10_arrive h21 (fun I22 J22 T22 h22 => ?_)⟩
          change ix_W _ _ _ (131, [some (.inr (.inr (.inl (some (97))))), some (.inl (x1)), some (.inl (x2)), some (.inr (.inl (x3))), none, some (.inl (x5)), some (.inl (x6)), some (.inl ((x2) + (v16))), some (.inr (.inl ((x3) + (((J16 97 3) * ((v17).toInt64)) / ((1000 : Int64)))))), none], [], 0, 0, ix_mem 276 I22 J22 T22)
          refine ix_go 3 (x' := (24, [some (.inr (.inr (.inl (some (97))))), some (.inl (x1)), some (.inl (x2)), some (.inr (.inl (x3))), none, some (.inl (x5)), some (.inl (x6 + (1 : Int32))), some (.inl ((x2) + (v16))), some (.inr (.inl ((x3) + (((J16 97 3) * ((v17).toInt64)) / ((1000 : Int64)))))), none], [], 0, 0, ix_mem 276 I22 J22 T22)) rfl trivial ?_
          refine ix_subW ([some (.inr (.inr (.inl (some (97))))), some (.inl (x1)), some (.inl (x2)), some (.inr (.inl (x3))), none, some (.inl (x5)), some (.inl (x6 + (1 : Int32))), none, none, none]) (ix_subS (ix_subS (ix_subS (ix_subS (ix_subS (ix_subS (ix_subS (ix_subN (ix_subN (ix_subS (ix_sub0))))))))))) ?_
          exact h22
        · have h21 := h19.2 c20
          refine ix_go 6 (x' := (142, [some (.inr (.inr (.inl (some (97))))), some (.inl (x1)), some (.inl (x2)), some (.inr (.inl (x3))), none, some (.inl (x5)), some (.inl (x6)), some (.inl ((x2) + (v16))), some (.inr (.inl ((x3) + (((J16 97 3) * ((v17).toInt64)) / ((1000 : Int64)))))), none], [.inr (.inl ((x3) + (((J16 97 3) * ((v17).toInt64)) / ((1000 : Int64))))), .inl ((x2) + (v16)), .inl ((x1) + ((1 : Int32))), .inr (.inr (.inl (some (97))))], 0, 0, ix_mem 276 (ix_u2 I17 104 (x1).toNatClampNeg (x6)) J17 T17)) rfl trivial ?_
          exact h21.elim
      · have h15 := h13.2 c14
        refine ix_go 3 (x' := (24, [some (.inr (.inr (.inl (some (97))))), some (.inl (x1)), some (.inl (x2)), some (.inr (.inl (x3))), none, some (.inl (x5)), some (.inl (x6 + (1 : Int32))), none, none, none], [], 0, 0, ix_mem 276 I13 J13 T13)) rfl trivial ?_
        refine ix_subW ([some (.inr (.inr (.inl (some (97))))), some (.inl (x1)), some (.inl (x2)), some (.inr (.inl (x3))), none, some (.inl (x5)), some (.inl (x6 + (1 : Int32))), none, none, none]) (ix_subS (ix_subS (ix_subS (ix_subS (ix_subS (ix_subS (ix_subS (ix_subS (ix_subS (ix_subS (ix_sub0))))))))))) ?_
        exact h15
  · have h9 := h7.2 c8
    exact ix_sp rfl ⟨Nat.le_refl _, Nat.le_refl _, rfl, hQ _ _ _ h9⟩
def wp_X10_extend_l0 (a0 : Int32) (a1 : Int32) (a2 : Int64) (I : Nat → Nat → Int32) (J : Nat → Nat → Int64) (T : Option Nat) (P : (Nat → Nat → Int32) → (Nat → Nat → Int64) → Option Nat → Prop) : Prop := ((a0 < (1 : Int32) → P I J T) ∧ (¬ (a0 < (1 : Int32)) → ((a0 < (5 : Int32) → ix_inb ((a0) - ((1 : Int32))) 5 = true ∧ wl_X10_extend_l0_24 (a0) (a1) (a2) (I 104 ((a0) - ((1 : Int32))).toNatClampNeg) ((0 : Int32)) I J T P) ∧ (¬ (a0 < (5 : Int32)) → P I J T))))
set_option maxRecDepth 20000 in
theorem tp_X10_extend_l0 {d : Nat} {a0 : Int32} {a1 : Int32} {a2 : Int64} {I : Nat → Nat → Int32} {J : Nat → Nat → Int64} {T : Option Nat} {P : (Nat → Nat → Int32) → (Nat → Nat → Int64) → Option Nat → Prop} {Q : ix_Q} (h : wp_X10_extend_l0 a0 a1 a2 I J T P) (hQ : ∀ I J T, P I J T → Q none (ix_mem 276 I J T)) : ix_C (d + 2) 150 [.inr (.inr (.inl (some (97)))), .inl (a0), .inl (a1), .inr (.inl (a2))] (ix_mem 276 I J T) Q := by
  unfold wp_X10_extend_l0 at h
  refine ix_enter (ls := [some (.inr (.inr (.inl (some (97))))), some (.inl (a0)), some (.inl (a1)), some (.inr (.inl (a2))), none, none, none, none, none, none]) rfl rfl rfl (Nat.le_of_ble_eq_true rfl) ?_
  refine ix_go 3 (x' := (if a0 < (1 : Int32) then 10 else 5, [some (.inr (.inr (.inl (some (97))))), some (.inl (a0)), some (.inl (a1)), some (.inr (.inl (a2))), none, none, none, none, none, none], [], 0, 0, ix_mem 276 I J T)) rfl trivial ?_
  refine ix_br (fun c1 => ?_) (fun c1 => ?_)
  · have h2 := h.1 c1
    exact ix_sp rfl ⟨Nat.le_refl _, Nat.le_refl _, rfl, hQ _ _ _ h2⟩
  · have h2 := h.2 c1
    refine ix_go 3 (x' := (if a0 < (5 : Int32) then 11 else 10, [some (.inr (.inr (.inl (some (97))))), some (.inl (a0)), some (.inl (a1)), some (.inr (.inl (a2))), none, none, none, none, none, none], [], 0, 0, ix_mem 276 I J T)) rfl trivial ?_
    refine ix_br (fun c3 => ?_) (fun c3 => ?_)
    · have h4 := h2.1 c3
      obtain ⟨p5, h6⟩ := h4
      refine ix_go 9 (x' := (24, [some (.inr (.inr (.inl (some (97))))), some (.inl (a0)), some (.inl (a1)), some (.inr (.inl (a2))), none, some (.inl (I 104 ((a0) - ((1 : Int32))).toNatClampNeg)), some (.inl ((0 : Int32))), none, none, none], [], 0, 0, ix_mem 276 I J T)) rfl ⟨rfl, rfl, rfl, rfl, p5⟩ ?_
      refine ix_subW ([some (.inr (.inr (.inl (some (97))))), some (.inl (a0)), some (.inl (a1)), some (.inr (.inl (a2))), none, some (.inl (I 104 ((a0) - ((1 : Int32))).toNatClampNeg)), some (.inl ((0 : Int32))), none, none, none]) (ix_subS (ix_subS (ix_subS (ix_subS (ix_subS (ix_subS (ix_subS (ix_subS (ix_subS (ix_subS (ix_sub0))))))))))) ?_
      exact tl_X10_extend_l0_24 h6 hQ
    · have h4 := h2.2 c3
      exact ix_sp rfl ⟨Nat.le_refl _, Nat.le_refl _, rfl, hQ _ _ _ h4⟩
def wb_X10_extend_l1_24 (x1 : Int32) (x2 : Int32) (x3 : Int64) (x5 : Int32) (x6 : Int32) (I : Nat → Nat → Int32) (J : Nat → Nat → Int64) (T : Option Nat) (V24 : Int32 → Int32 → Int64 → Int32 → Int32 → (Nat → Nat → Int32) → (Nat → Nat → Int64) → Option Nat → Prop) (P : (Nat → Nat → Int32) → (Nat → Nat → Int64) → Option Nat → Prop) : Prop := wp_X5_count I J T (fun v7 I7 J7 T7 => ((x6 < v7 → wp_X5_hasRoad (x5) (x6) I7 J7 T7 (fun v10 I10 J10 T10 => ((v10 = 0 → V24 (x1) (x2) (x3) (x5) (x6 + (1 : Int32)) I10 J10 T10) ∧ (¬ (v10 = 0) → wp_X10_isOnPath (x6) (x1) I10 J10 T10 (fun v13 I13 J13 T13 => ((v13 = 0 → wp_X5_daysOf (x5) (x6) I13 J13 T13 (fun v16 I16 J16 T16 => wp_X5_freightOf (x5) (x6) I16 J16 T16 (fun v17 I17 J17 T17 => ix_inb (x1) 5 = true ∧ ((x6 = I17 97 2 → wp_X10_arrive ((x1) + ((1 : Int32))) ((x2) + (v16)) ((x3) + (((J16 97 3) * ((v17).toInt64)) / ((1000 : Int64)))) (ix_u2 I17 104 (x1).toNatClampNeg (x6)) J17 T17 (fun I22 J22 T22 => V24 (x1) (x2) (x3) (x5) (x6 + (1 : Int32)) I22 J22 T22)) ∧ (¬ (x6 = I17 97 2) → wp_X10_extend_l0 ((x1) + ((1 : Int32))) ((x2) + (v16)) ((x3) + (((J16 97 3) * ((v17).toInt64)) / ((1000 : Int64)))) (ix_u2 I17 104 (x1).toNatClampNeg (x6)) J17 T17 (fun I23 J23 T23 => V24 (x1) (x2) (x3) (x5) (x6 + (1 : Int32)) I23 J23 T23)))))) ∧ (¬ (v13 = 0) → V24 (x1) (x2) (x3) (x5) (x6 + (1 : Int32)) I13 J13 T13))))))) ∧ (¬ (x6 < v7) → P I7 J7 T7)))
def wl_X10_extend_l1_24 (x1 : Int32) (x2 : Int32) (x3 : Int64) (x5 : Int32) (x6 : Int32) (I : Nat → Nat → Int32) (J : Nat → Nat → Int64) (T : Option Nat) (P : (Nat → Nat → Int32) → (Nat → Nat → Int64) → Option Nat → Prop) : Prop := ∀ V : Int32 → Int32 → Int64 → Int32 → Int32 → (Nat → Nat → Int32) → (Nat → Nat → Int64) → Option Nat → Prop, (∀ (x1 : Int32) (x2 : Int32) (x3 : Int64) (x5 : Int32) (x6 : Int32) (I : Nat → Nat → Int32) (J : Nat → Nat → Int64) (T : Option Nat), wb_X10_extend_l1_24 x1 x2 x3 x5 x6 I J T V P → V x1 x2 x3 x5 x6 I J T) → V x1 x2 x3 x5 x6 I J T
set_option maxRecDepth 20000 in
theorem tl_X10_extend_l1_24 {d : Nat} {x1 : Int32} {x2 : Int32} {x3 : Int64} {x5 : Int32} {x6 : Int32} {I : Nat → Nat → Int32} {J : Nat → Nat → Int64} {T : Option Nat} {P : (Nat → Nat → Int32) → (Nat → Nat → Int64) → Option Nat → Prop} {Q : ix_Q} (h : wl_X10_extend_l1_24 x1 x2 x3 x5 x6 I J T P) (hQ : ∀ I J T, P I J T → Q none (ix_mem 276 I J T)) : ix_W (ix_C (d + 2)) (10, ix_lk ix_l150, none, 0, 0, Nat.blt 0 0, none) Q (24, [some (.inr (.inr (.inl (some (97))))), some (.inl (x1)), some (.inl (x2)), some (.inr (.inl (x3))), none, some (.inl (x5)), some (.inl (x6)), none, none, none], [], 0, 0, ix_mem 276 I J T) := by
  refine h (fun x1 x2 x3 x5 x6 I J T => ix_W (ix_C (d + 2)) (10, ix_lk ix_l150, none, 0, 0, Nat.blt 0 0, none) Q (24, [some (.inr (.inr (.inl (some (97))))), some (.inl (x1)), some (.inl (x2)), some (.inr (.inl (x3))), none, some (.inl (x5)), some (.inl (x6)), none, none, none], [], 0, 0, ix_mem 276 I J T)) ?_
  intro x1 x2 x3 x5 x6 I J T hb
  unfold wb_X10_extend_l1_24 at hb
  refine ix_go 3 (x' := (30, [some (.inr (.inr (.inl (some (97))))), some (.inl (x1)), some (.inl (x2)), some (.inr (.inl (x3))), none, some (.inl (x5)), some (.inl (x6)), none, none, none], [.inr (.inr (.inl (some (8)))), .inl (x6)], 0, 0, ix_mem 276 I J T)) rfl ⟨rfl, rfl⟩ ?_
  refine ix_sp rfl ⟨rfl, ⟨ix_lt rfl, ix_eq rfl, ix_lt rfl⟩, ix_le rfl, Nat.le_refl _, Nat.le_refl _, tp_X5_count hb (fun v7 I7 J7 T7 h7 => ?_)⟩
  change ix_W _ _ _ (33, [some (.inr (.inr (.inl (some (97))))), some (.inl (x1)), some (.inl (x2)), some (.inr (.inl (x3))), none, some (.inl (x5)), some (.inl (x6)), none, none, none], [.inl (v7), .inl (x6)], 0, 0, ix_mem 276 I7 J7 T7)
  refine ix_go 1 (x' := (if x6 < v7 then 36 else 151, [some (.inr (.inr (.inl (some (97))))), some (.inl (x1)), some (.inl (x2)), some (.inr (.inl (x3))), none, some (.inl (x5)), some (.inl (x6)), none, none, none], [], 0, 0, ix_mem 276 I7 J7 T7)) rfl trivial ?_
  refine ix_br (fun c8 => ?_) (fun c8 => ?_)
  · have h9 := h7.1 c8
    refine ix_go 4 (x' := (44, [some (.inr (.inr (.inl (some (97))))), some (.inl (x1)), some (.inl (x2)), some (.inr (.inl (x3))), none, some (.inl (x5)), some (.inl (x6)), none, none, none], [.inl (x6), .inl (x5), .inr (.inr (.inl (some (8))))], 0, 0, ix_mem 276 I7 J7 T7)) rfl ⟨rfl, rfl⟩ ?_
    refine ix_sp rfl ⟨rfl, ⟨ix_lt rfl, ix_eq rfl, ix_lt rfl⟩, ix_le rfl, Nat.le_refl _, Nat.le_refl _, tp_X5_hasRoad h9 (fun v10 I10 J10 T10 h10 => ?_)⟩
    change ix_W _ _ _ (47, [some (.inr (.inr (.inl (some (97))))), some (.inl (x1)), some (.inl (x2)), some (.inr (.inl (x3))), none, some (.inl (x5)), some (.inl (x6)), none, none, none], [.inl (v10)], 0, 0, ix_mem 276 I10 J10 T10)
    refine ix_go 1 (x' := (if v10 = 0 then 145 else 50, [some (.inr (.inr (.inl (some (97))))), some (.inl (x1)), some (.inl (x2)), some (.inr (.inl (x3))), none, some (.inl (x5)), some (.inl (x6)), none, none, none], [], 0, 0, ix_mem 276 I10 J10 T10)) rfl trivial ?_
    refine ix_br (fun c11 => ?_) (fun c11 => ?_)
    · have h12 := h10.1 c11
      refine ix_go 2 (x' := (24, [some (.inr (.inr (.inl (some (97))))), some (.inl (x1)), some (.inl (x2)), some (.inr (.inl (x3))), none, some (.inl (x5)), some (.inl (x6 + (1 : Int32))), none, none, none], [], 0, 0, ix_mem 276 I10 J10 T10)) rfl trivial ?_
      refine ix_subW ([some (.inr (.inr (.inl (some (97))))), some (.inl (x1)), some (.inl (x2)), some (.inr (.inl (x3))), none, some (.inl (x5)), some (.inl (x6 + (1 : Int32))), none, none, none]) (ix_subS (ix_subS (ix_subS (ix_subS (ix_subS (ix_subS (ix_subS (ix_subS (ix_subS (ix_subS (ix_sub0))))))))))) ?_
      exact h12
    · have h12 := h10.2 c11
      refine ix_go 3 (x' := (54, [some (.inr (.inr (.inl (some (97))))), some (.inl (x1)), some (.inl (x2)), some (.inr (.inl (x3))), none, some (.inl (x5)), some (.inl (x6)), none, none, none], [.inl (x1), .inl (x6), .inr (.inr (.inl (some (97))))], 0, 0, ix_mem 276 I10 J10 T10)) rfl trivial ?_
      refine ix_sp rfl ⟨rfl, ⟨ix_lt rfl, ix_eq rfl, ix_lt rfl⟩, ix_le rfl, Nat.le_refl _, Nat.le_refl _, tp_X10_isOnPath h12 (fun v13 I13 J13 T13 h13 => ?_)⟩
      change ix_W _ _ _ (57, [some (.inr (.inr (.inl (some (97))))), some (.inl (x1)), some (.inl (x2)), some (.inr (.inl (x3))), none, some (.inl (x5)), some (.inl (x6)), none, none, none], [.inl (v13)], 0, 0, ix_mem 276 I13 J13 T13)
      refine ix_go 1 (x' := (if v13 = 0 then 63 else 60, [some (.inr (.inr (.inl (some (97))))), some (.inl (x1)), some (.inl (x2)), some (.inr (.inl (x3))), none, some (.inl (x5)), some (.inl (x6)), none, none, none], [], 0, 0, ix_mem 276 I13 J13 T13)) rfl trivial ?_
      refine ix_br (fun c14 => ?_) (fun c14 => ?_)
      · have h15 := h13.1 c14
        refine ix_go 5 (x' := (72, [some (.inr (.inr (.inl (some (97))))), some (.inl (x1)), some (.inl (x2)), some (.inr (.inl (x3))), none, some (.inl (x5)), some (.inl (x6)), none, none, none], [.inl (x6), .inl (x5), .inr (.inr (.inl (some (8)))), .inl (x2)], 0, 0, ix_mem 276 I13 J13 T13)) rfl ⟨rfl, rfl⟩ ?_
        refine ix_sp rfl ⟨rfl, ⟨ix_lt rfl, ix_eq rfl, ix_lt rfl⟩, ix_le rfl, Nat.le_refl _, Nat.le_refl _, tp_X5_daysOf h15 (fun v16 I16 J16 T16 h16 => ?_)⟩
        change ix_W _ _ _ (75, [some (.inr (.inr (.inl (some (97))))), some (.inl (x1)), some (.inl (x2)), some (.inr (.inl (x3))), none, some (.inl (x5)), some (.inl (x6)), none, none, none], [.inl (v16), .inl (x2)], 0, 0, ix_mem 276 I16 J16 T16)
        refine ix_go 9 (x' := (91, [some (.inr (.inr (.inl (some (97))))), some (.inl (x1)), some (.inl (x2)), some (.inr (.inl (x3))), none, some (.inl (x5)), some (.inl (x6)), some (.inl ((x2) + (v16))), none, none], [.inl (x6), .inl (x5), .inr (.inr (.inl (some (8)))), .inr (.inl (J16 97 3)), .inr (.inl (x3))], 0, 0, ix_mem 276 I16 J16 T16)) rfl ⟨rfl, rfl, rfl, rfl⟩ ?_
        refine ix_sp rfl ⟨rfl, ⟨ix_lt rfl, ix_eq rfl, ix_lt rfl⟩, ix_le rfl, Nat.le_refl _, Nat.le_refl _, tp_X5_freightOf h16 (fun v17 I17 J17 T17 h17 => ?_)⟩
        change ix_W _ _ _ (94, [some (.inr (.inr (.inl (some (97))))), some (.inl (x1)), some (.inl (x2)), some (.inr (.inl (x3))), none, some (.inl (x5)), some (.inl (x6)), some (.inl ((x2) + (v16))), none, none], [.inl (v17), .inr (.inl (J16 97 3)), .inr (.inl (x3))], 0, 0, ix_mem 276 I17 J17 T17)
        obtain ⟨p18, h19⟩ := h17
        refine ix_go 15 (x' := (if x6 = I17 97 2 then 120 else 134, [some (.inr (.inr (.inl (some (97))))), some (.inl (x1)), some (.inl (x2)), some (.inr (.inl (x3))), none, some (.inl (x5)), some (.inl (x6)), some (.inl ((x2) + (v16))), some (.inr (.inl ((x3) + (((J16 97 3) * ((v17).toInt64)) / ((1000 : Int64)))))), none], [], 0, 0, ix_mem 276 (ix_u2 I17 104 (x1).toNatClampNeg (x6)) J17 T17)) rfl ⟨rfl, rfl, rfl, rfl, rfl, p18, rfl, rfl⟩ ?_
        refine ix_br (fun c20 => ?_) (fun c20 => ?_)
        · have h21 := h19.1 c20
          refine ix_go 6 (x' := (128, [some (.inr (.inr (.inl (some (97))))), some (.inl (x1)), some (.inl (x2)), some (.inr (.inl (x3))), none, some (.inl (x5)), some (.inl (x6)), some (.inl ((x2) + (v16))), some (.inr (.inl ((x3) + (((J16 97 3) * ((v17).toInt64)) / ((1000 : Int64)))))), none], [.inr (.inl ((x3) + (((J16 97 3) * ((v17).toInt64)) / ((1000 : Int64))))), .inl ((x2) + (v16)), .inl ((x1) + ((1 : Int32))), .inr (.inr (.inl (some (97))))], 0, 0, ix_mem 276 (ix_u2 I17 104 (x1).toNatClampNeg (x6)) J17 T17)) rfl trivial ?_
          refine ix_sp rfl ⟨rfl, ⟨ix_lt rfl, ix_eq rfl, ix_lt rfl⟩, ix_le rfl, Nat.le_refl _, Nat.le_refl _, tp_X10_arrive h21 (fun I22 J22 T22 h22 => ?_)⟩
          change ix_W _ _ _ (131, [some (.inr (.inr (.inl (some (97))))), some (.inl (x1)), some (.inl (x2)), some (.inr (.inl (x3))), none, some (.inl (x5)), some (.inl (x6)), some (.inl ((x2) + (v16))), some (.inr (.inl ((x3) + (((J16 97 3) * ((v17).toInt64)) / ((1000 : Int64)))))), none], [], 0, 0, ix_mem 276 I22 J22 T22)
          refine ix_go 3 (x' := (24, [some (.inr (.inr (.inl (some (97))))), some (.inl (x1)), some (.inl (x2)), some (.inr (.inl (x3))), none, some (.inl (x5)), some (.inl (x6 + (1 : Int32))), some (.inl ((x2) + (v16))), some (.inr (.inl ((x3) + (((J16 97 3) * ((v17).toInt64)) / ((1000 : Int64)))))), none], [], 0, 0, ix_mem 276 I22 J22 T22)) rfl trivial ?_
          refine ix_subW ([some (.inr (.inr (.inl (some (97))))), some (.inl (x1)), some (.inl (x2)), some (.inr (.inl (x3))), none, some (.inl (x5)), some (.inl (x6 + (1 : Int32))), none, none, none]) (ix_subS (ix_subS (ix_subS (ix_subS (ix_subS (ix_subS (ix_subS (ix_subN (ix_subN (ix_subS (ix_sub0))))))))))) ?_
          exact h22
        · have h21 := h19.2 c20
          refine ix_go 6 (x' := (142, [some (.inr (.inr (.inl (some (97))))), some (.inl (x1)), some (.inl (x2)), some (.inr (.inl (x3))), none, some (.inl (x5)), some (.inl (x6)), some (.inl ((x2) + (v16))), some (.inr (.inl ((x3) + (((J16 97 3) * ((v17).toInt64)) / ((1000 : Int64)))))), none], [.inr (.inl ((x3) + (((J16 97 3) * ((v17).toInt64)) / ((1000 : Int64))))), .inl ((x2) + (v16)), .inl ((x1) + ((1 : Int32))), .inr (.inr (.inl (some (97))))], 0, 0, ix_mem 276 (ix_u2 I17 104 (x1).toNatClampNeg (x6)) J17 T17)) rfl trivial ?_
          refine ix_sp rfl ⟨rfl, ⟨ix_lt rfl, ix_eq rfl, ix_lt rfl⟩, ix_le rfl, Nat.le_refl _, Nat.le_refl _, tp_X10_extend_l0 h21 (fun I23 J23 T23 h23 => ?_)⟩
          change ix_W _ _ _ (145, [some (.inr (.inr (.inl (some (97))))), some (.inl (x1)), some (.inl (x2)), some (.inr (.inl (x3))), none, some (.inl (x5)), some (.inl (x6)), some (.inl ((x2) + (v16))), some (.inr (.inl ((x3) + (((J16 97 3) * ((v17).toInt64)) / ((1000 : Int64)))))), none], [], 0, 0, ix_mem 276 I23 J23 T23)
          refine ix_go 2 (x' := (24, [some (.inr (.inr (.inl (some (97))))), some (.inl (x1)), some (.inl (x2)), some (.inr (.inl (x3))), none, some (.inl (x5)), some (.inl (x6 + (1 : Int32))), some (.inl ((x2) + (v16))), some (.inr (.inl ((x3) + (((J16 97 3) * ((v17).toInt64)) / ((1000 : Int64)))))), none], [], 0, 0, ix_mem 276 I23 J23 T23)) rfl trivial ?_
          refine ix_subW ([some (.inr (.inr (.inl (some (97))))), some (.inl (x1)), some (.inl (x2)), some (.inr (.inl (x3))), none, some (.inl (x5)), some (.inl (x6 + (1 : Int32))), none, none, none]) (ix_subS (ix_subS (ix_subS (ix_subS (ix_subS (ix_subS (ix_subS (ix_subN (ix_subN (ix_subS (ix_sub0))))))))))) ?_
          exact h23
      · have h15 := h13.2 c14
        refine ix_go 3 (x' := (24, [some (.inr (.inr (.inl (some (97))))), some (.inl (x1)), some (.inl (x2)), some (.inr (.inl (x3))), none, some (.inl (x5)), some (.inl (x6 + (1 : Int32))), none, none, none], [], 0, 0, ix_mem 276 I13 J13 T13)) rfl trivial ?_
        refine ix_subW ([some (.inr (.inr (.inl (some (97))))), some (.inl (x1)), some (.inl (x2)), some (.inr (.inl (x3))), none, some (.inl (x5)), some (.inl (x6 + (1 : Int32))), none, none, none]) (ix_subS (ix_subS (ix_subS (ix_subS (ix_subS (ix_subS (ix_subS (ix_subS (ix_subS (ix_subS (ix_sub0))))))))))) ?_
        exact h15
  · have h9 := h7.2 c8
    exact ix_sp rfl ⟨Nat.le_refl _, Nat.le_refl _, rfl, hQ _ _ _ h9⟩
def wp_X10_extend_l1 (a0 : Int32) (a1 : Int32) (a2 : Int64) (I : Nat → Nat → Int32) (J : Nat → Nat → Int64) (T : Option Nat) (P : (Nat → Nat → Int32) → (Nat → Nat → Int64) → Option Nat → Prop) : Prop := ((a0 < (1 : Int32) → P I J T) ∧ (¬ (a0 < (1 : Int32)) → ((a0 < (5 : Int32) → ix_inb ((a0) - ((1 : Int32))) 5 = true ∧ wl_X10_extend_l1_24 (a0) (a1) (a2) (I 104 ((a0) - ((1 : Int32))).toNatClampNeg) ((0 : Int32)) I J T P) ∧ (¬ (a0 < (5 : Int32)) → P I J T))))
set_option maxRecDepth 20000 in
theorem tp_X10_extend_l1 {d : Nat} {a0 : Int32} {a1 : Int32} {a2 : Int64} {I : Nat → Nat → Int32} {J : Nat → Nat → Int64} {T : Option Nat} {P : (Nat → Nat → Int32) → (Nat → Nat → Int64) → Option Nat → Prop} {Q : ix_Q} (h : wp_X10_extend_l1 a0 a1 a2 I J T P) (hQ : ∀ I J T, P I J T → Q none (ix_mem 276 I J T)) : ix_C (d + 3) 150 [.inr (.inr (.inl (some (97)))), .inl (a0), .inl (a1), .inr (.inl (a2))] (ix_mem 276 I J T) Q := by
  unfold wp_X10_extend_l1 at h
  refine ix_enter (ls := [some (.inr (.inr (.inl (some (97))))), some (.inl (a0)), some (.inl (a1)), some (.inr (.inl (a2))), none, none, none, none, none, none]) rfl rfl rfl (Nat.le_of_ble_eq_true rfl) ?_
  refine ix_go 3 (x' := (if a0 < (1 : Int32) then 10 else 5, [some (.inr (.inr (.inl (some (97))))), some (.inl (a0)), some (.inl (a1)), some (.inr (.inl (a2))), none, none, none, none, none, none], [], 0, 0, ix_mem 276 I J T)) rfl trivial ?_
  refine ix_br (fun c1 => ?_) (fun c1 => ?_)
  · have h2 := h.1 c1
    exact ix_sp rfl ⟨Nat.le_refl _, Nat.le_refl _, rfl, hQ _ _ _ h2⟩
  · have h2 := h.2 c1
    refine ix_go 3 (x' := (if a0 < (5 : Int32) then 11 else 10, [some (.inr (.inr (.inl (some (97))))), some (.inl (a0)), some (.inl (a1)), some (.inr (.inl (a2))), none, none, none, none, none, none], [], 0, 0, ix_mem 276 I J T)) rfl trivial ?_
    refine ix_br (fun c3 => ?_) (fun c3 => ?_)
    · have h4 := h2.1 c3
      obtain ⟨p5, h6⟩ := h4
      refine ix_go 9 (x' := (24, [some (.inr (.inr (.inl (some (97))))), some (.inl (a0)), some (.inl (a1)), some (.inr (.inl (a2))), none, some (.inl (I 104 ((a0) - ((1 : Int32))).toNatClampNeg)), some (.inl ((0 : Int32))), none, none, none], [], 0, 0, ix_mem 276 I J T)) rfl ⟨rfl, rfl, rfl, rfl, p5⟩ ?_
      refine ix_subW ([some (.inr (.inr (.inl (some (97))))), some (.inl (a0)), some (.inl (a1)), some (.inr (.inl (a2))), none, some (.inl (I 104 ((a0) - ((1 : Int32))).toNatClampNeg)), some (.inl ((0 : Int32))), none, none, none]) (ix_subS (ix_subS (ix_subS (ix_subS (ix_subS (ix_subS (ix_subS (ix_subS (ix_subS (ix_subS (ix_sub0))))))))))) ?_
      exact tl_X10_extend_l1_24 h6 hQ
    · have h4 := h2.2 c3
      exact ix_sp rfl ⟨Nat.le_refl _, Nat.le_refl _, rfl, hQ _ _ _ h4⟩
