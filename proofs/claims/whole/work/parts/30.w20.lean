def wp_X11_treaty (a0 : Int32) (a1 : Int32) (I : Nat → Nat → Int32) (J : Nat → Nat → Int64) (T : Option Nat) (P : Int32 → (Nat → Nat → Int32) → (Nat → Nat → Int64) → Option Nat → Prop) : Prop := wp_X7_tapeLength I J T (fun v1 I1 J1 T1 => wp_X11_outside ((a0).toInt64) ((0 : Int64)) ((v1).toInt64) I1 J1 T1 (fun v2 I2 J2 T2 => ((v2 = 0 → wp_X11_outside ((a1).toInt64) ((0 : Int64)) ((27 : Int64)) I2 J2 T2 (fun v5 I5 J5 T5 => ((v5 = 0 → wp_X8_nextFree I5 J5 T5 (fun v8 I8 J8 T8 => ix_tr v8 ∧ ((v8 = none → wp_X11_refuse ((4 : Int32)) I8 J8 T8 (fun v12 I12 J12 T12 => P (v12) I12 J12 T12)) ∧ (v8 = some 59 → wp_X7_understands_r59 (a0) I8 J8 T8 (fun v13 I13 J13 T13 => ((v13 = 0 → wp_X11_refuse ((9 : Int32)) I13 J13 T13 (fun v16 I16 J16 T16 => P (v16) I16 J16 T16)) ∧ (¬ (v13 = 0) → wp_X8_add (a1) (ix_u2 I13 0 0 ((0 : Int32))) J13 T13 (fun v17 I17 J17 T17 => P (v17) I17 J17 T17))))) ∧ (v8 = some 68 → wp_X7_understands_r68 (a0) I8 J8 T8 (fun v18 I18 J18 T18 => ((v18 = 0 → wp_X11_refuse ((9 : Int32)) I18 J18 T18 (fun v21 I21 J21 T21 => P (v21) I21 J21 T21)) ∧ (¬ (v18 = 0) → wp_X8_add (a1) (ix_u2 I18 0 0 ((0 : Int32))) J18 T18 (fun v22 I22 J22 T22 => P (v22) I22 J22 T22))))) ∧ (v8 = some 77 → wp_X7_understands_r77 (a0) I8 J8 T8 (fun v23 I23 J23 T23 => ((v23 = 0 → wp_X11_refuse ((9 : Int32)) I23 J23 T23 (fun v26 I26 J26 T26 => P (v26) I26 J26 T26)) ∧ (¬ (v23 = 0) → wp_X8_add (a1) (ix_u2 I23 0 0 ((0 : Int32))) J23 T23 (fun v27 I27 J27 T27 => P (v27) I27 J27 T27))))) ∧ (v8 = some 86 → wp_X7_understands_r86 (a0) I8 J8 T8 (fun v28 I28 J28 T28 => ((v28 = 0 → wp_X11_refuse ((9 : Int32)) I28 J28 T28 (fun v31 I31 J31 T31 => P (v31) I31 J31 T31)) ∧ (¬ (v28 = 0) → wp_X8_add (a1) (ix_u2 I28 0 0 ((0 : Int32))) J28 T28 (fun v32 I32 J32 T32 => P (v32) I32 J32 T32)))))))) ∧ (¬ (v5 = 0) → wp_X11_refuse ((1 : Int32)) I5 J5 T5 (fun v33 I33 J33 T33 => P (v33) I33 J33 T33))))) ∧ (¬ (v2 = 0) → wp_X11_refuse ((1 : Int32)) I2 J2 T2 (fun v34 I34 J34 T34 => P (v34) I34 J34 T34)))))
set_option maxRecDepth 20000 in
theorem tp_X11_treaty {d : Nat} {a0 : Int32} {a1 : Int32} {I : Nat → Nat → Int32} {J : Nat → Nat → Int64} {T : Option Nat} {P : Int32 → (Nat → Nat → Int32) → (Nat → Nat → Int64) → Option Nat → Prop} {Q : ix_Q} (h : wp_X11_treaty a0 a1 I J T P) (hQ : ∀ v I J T, P v I J T → Q (some (.inl v)) (ix_mem 276 I J T)) : ix_C (d + 8) 177 [.inr (.inr (.inl (some (0)))), .inl (a0), .inl (a1)] (ix_mem 276 I J T) Q := by
  unfold wp_X11_treaty at h
  refine ix_enter (ls := [some (.inr (.inr (.inl (some (0))))), some (.inl (a0)), some (.inl (a1)), none]) rfl rfl rfl (Nat.le_of_ble_eq_true rfl) ?_
  refine ix_go 5 (x' := (7, [some (.inr (.inr (.inl (some (0))))), some (.inl (a0)), some (.inl (a1)), none], [.inr (.inr (.inl (some (44)))), .inr (.inl ((0 : Int64))), .inr (.inl ((a0).toInt64))], 0, 0, ix_mem 276 I J T)) rfl ⟨rfl, rfl⟩ ?_
  refine ix_sp rfl ⟨rfl, ⟨ix_lt rfl, ix_eq rfl, ix_lt rfl⟩, ix_le rfl, Nat.le_refl _, Nat.le_refl _, tp_X7_tapeLength h (fun v1 I1 J1 T1 h1 => ?_)⟩
  change ix_W _ _ _ (10, [some (.inr (.inr (.inl (some (0))))), some (.inl (a0)), some (.inl (a1)), none], [.inl (v1), .inr (.inl ((0 : Int64))), .inr (.inl ((a0).toInt64))], 0, 0, ix_mem 276 I1 J1 T1)
  refine ix_go 1 (x' := (11, [some (.inr (.inr (.inl (some (0))))), some (.inl (a0)), some (.inl (a1)), none], [.inr (.inl ((v1).toInt64)), .inr (.inl ((0 : Int64))), .inr (.inl ((a0).toInt64))], 0, 0, ix_mem 276 I1 J1 T1)) rfl trivial ?_
  refine ix_sp rfl ⟨rfl, trivial, ix_le rfl, Nat.le_refl _, Nat.le_refl _, tp_X11_outside h1 (fun v2 I2 J2 T2 h2 => ?_)⟩
  change ix_W _ _ _ (14, [some (.inr (.inr (.inl (some (0))))), some (.inl (a0)), some (.inl (a1)), none], [.inl (v2)], 0, 0, ix_mem 276 I2 J2 T2)
  refine ix_go 1 (x' := (if v2 = 0 then 17 else 29, [some (.inr (.inr (.inl (some (0))))), some (.inl (a0)), some (.inl (a1)), none], [], 0, 0, ix_mem 276 I2 J2 T2)) rfl trivial ?_
  refine ix_br (fun c3 => ?_) (fun c3 => ?_)
  · have h4 := h2.1 c3
    refine ix_go 4 (x' := (23, [some (.inr (.inr (.inl (some (0))))), some (.inl (a0)), some (.inl (a1)), none], [.inr (.inl ((27 : Int64))), .inr (.inl ((0 : Int64))), .inr (.inl ((a1).toInt64))], 0, 0, ix_mem 276 I2 J2 T2)) rfl trivial ?_
    refine ix_sp rfl ⟨rfl, trivial, ix_le rfl, Nat.le_refl _, Nat.le_refl _, tp_X11_outside h4 (fun v5 I5 J5 T5 h5 => ?_)⟩
    change ix_W _ _ _ (26, [some (.inr (.inr (.inl (some (0))))), some (.inl (a0)), some (.inl (a1)), none], [.inl (v5)], 0, 0, ix_mem 276 I5 J5 T5)
    refine ix_go 1 (x' := (if v5 = 0 then 35 else 29, [some (.inr (.inr (.inl (some (0))))), some (.inl (a0)), some (.inl (a1)), none], [], 0, 0, ix_mem 276 I5 J5 T5)) rfl trivial ?_
    refine ix_br (fun c6 => ?_) (fun c6 => ?_)
    · have h7 := h5.1 c6
      refine ix_go 2 (x' := (39, [some (.inr (.inr (.inl (some (0))))), some (.inl (a0)), some (.inl (a1)), none], [.inr (.inr (.inl (some (51))))], 0, 0, ix_mem 276 I5 J5 T5)) rfl ⟨rfl, rfl⟩ ?_
      refine ix_sp rfl ⟨rfl, ⟨ix_lt rfl, ix_eq rfl, ix_lt rfl⟩, ix_le rfl, Nat.le_refl _, Nat.le_refl _, tp_X8_nextFree h7 (fun v8 I8 J8 T8 h8 => ?_)⟩
      change ix_W _ _ _ (42, [some (.inr (.inr (.inl (some (0))))), some (.inl (a0)), some (.inl (a1)), none], [.inr (.inr (.inl (v8)))], 0, 0, ix_mem 276 I8 J8 T8)
      obtain ⟨q9, h10⟩ := h8
      rcases q9 with e | e | e | e | e
      · subst e
        have h11 := h10.1 rfl
        refine ix_go 5 (x' := (49, [some (.inr (.inr (.inl (some (0))))), some (.inl (a0)), some (.inl (a1)), some (.inr (.inr (.inl none)))], [.inl ((4 : Int32)), .inr (.inr (.inl (some (0))))], 0, 0, ix_mem 276 I8 J8 T8)) rfl trivial ?_
        refine ix_sp rfl ⟨rfl, ⟨ix_lt rfl, ix_eq rfl, ix_lt rfl⟩, ix_le rfl, Nat.le_refl _, Nat.le_refl _, tp_X11_refuse h11 (fun v12 I12 J12 T12 h12 => ?_)⟩
        change ix_W _ _ _ (52, [some (.inr (.inr (.inl (some (0))))), some (.inl (a0)), some (.inl (a1)), some (.inr (.inr (.inl none)))], [.inl (v12)], 0, 0, ix_mem 276 I12 J12 T12)
        exact ix_sp rfl ⟨Nat.le_refl _, Nat.le_refl _, trivial, hQ _ _ _ _ h12⟩
      · subst e
        have h11 := h10.2.1 rfl
        refine ix_go 7 (x' := (59, [some (.inr (.inr (.inl (some (0))))), some (.inl (a0)), some (.inl (a1)), some (.inr (.inr (.inl (some (59)))))], [.inr (.inr (.inl (some (59)))), .inl (a0), .inr (.inr (.inl (some (44))))], 0, 0, ix_mem 276 I8 J8 T8)) rfl ⟨rfl, rfl⟩ ?_
        refine ix_sp rfl ⟨rfl, ⟨ix_lt rfl, ix_eq rfl, ix_lt rfl⟩, ix_le rfl, Nat.le_refl _, Nat.le_refl _, tp_X7_understands_r59 h11 (fun v13 I13 J13 T13 h13 => ?_)⟩
        change ix_W _ _ _ (62, [some (.inr (.inr (.inl (some (0))))), some (.inl (a0)), some (.inl (a1)), some (.inr (.inr (.inl (some (59)))))], [.inl (v13)], 0, 0, ix_mem 276 I13 J13 T13)
        refine ix_go 1 (x' := (if v13 = 0 then 65 else 72, [some (.inr (.inr (.inl (some (0))))), some (.inl (a0)), some (.inl (a1)), some (.inr (.inr (.inl (some (59)))))], [], 0, 0, ix_mem 276 I13 J13 T13)) rfl trivial ?_
        refine ix_br (fun c14 => ?_) (fun c14 => ?_)
        · have h15 := h13.1 c14
          refine ix_go 2 (x' := (68, [some (.inr (.inr (.inl (some (0))))), some (.inl (a0)), some (.inl (a1)), some (.inr (.inr (.inl (some (59)))))], [.inl ((9 : Int32)), .inr (.inr (.inl (some (0))))], 0, 0, ix_mem 276 I13 J13 T13)) rfl trivial ?_
          refine ix_sp rfl ⟨rfl, ⟨ix_lt rfl, ix_eq rfl, ix_lt rfl⟩, ix_le rfl, Nat.le_refl _, Nat.le_refl _, tp_X11_refuse h15 (fun v16 I16 J16 T16 h16 => ?_)⟩
          change ix_W _ _ _ (71, [some (.inr (.inr (.inl (some (0))))), some (.inl (a0)), some (.inl (a1)), some (.inr (.inr (.inl (some (59)))))], [.inl (v16)], 0, 0, ix_mem 276 I16 J16 T16)
          exact ix_sp rfl ⟨Nat.le_refl _, Nat.le_refl _, trivial, hQ _ _ _ _ h16⟩
        · have h15 := h13.2 c14
          refine ix_go 6 (x' := (82, [some (.inr (.inr (.inl (some (0))))), some (.inl (a0)), some (.inl (a1)), some (.inr (.inr (.inl (some (59)))))], [.inl (a1), .inr (.inr (.inl (some (51))))], 0, 0, ix_mem 276 (ix_u2 I13 0 0 ((0 : Int32))) J13 T13)) rfl ⟨rfl, rfl, rfl, rfl⟩ ?_
          refine ix_sp rfl ⟨rfl, ⟨ix_lt rfl, ix_eq rfl, ix_lt rfl⟩, ix_le rfl, Nat.le_refl _, Nat.le_refl _, tp_X8_add h15 (fun v17 I17 J17 T17 h17 => ?_)⟩
          change ix_W _ _ _ (85, [some (.inr (.inr (.inl (some (0))))), some (.inl (a0)), some (.inl (a1)), some (.inr (.inr (.inl (some (59)))))], [.inl (v17)], 0, 0, ix_mem 276 I17 J17 T17)
          exact ix_sp rfl ⟨Nat.le_refl _, Nat.le_refl _, trivial, hQ _ _ _ _ h17⟩
      · subst e
        have h11 := h10.2.2.1 rfl
        refine ix_go 7 (x' := (59, [some (.inr (.inr (.inl (some (0))))), some (.inl (a0)), some (.inl (a1)), some (.inr (.inr (.inl (some (68)))))], [.inr (.inr (.inl (some (68)))), .inl (a0), .inr (.inr (.inl (some (44))))], 0, 0, ix_mem 276 I8 J8 T8)) rfl ⟨rfl, rfl⟩ ?_
        refine ix_sp rfl ⟨rfl, ⟨ix_lt rfl, ix_eq rfl, ix_lt rfl⟩, ix_le rfl, Nat.le_refl _, Nat.le_refl _, tp_X7_understands_r68 h11 (fun v18 I18 J18 T18 h18 => ?_)⟩
        change ix_W _ _ _ (62, [some (.inr (.inr (.inl (some (0))))), some (.inl (a0)), some (.inl (a1)), some (.inr (.inr (.inl (some (68)))))], [.inl (v18)], 0, 0, ix_mem 276 I18 J18 T18)
        refine ix_go 1 (x' := (if v18 = 0 then 65 else 72, [some (.inr (.inr (.inl (some (0))))), some (.inl (a0)), some (.inl (a1)), some (.inr (.inr (.inl (some (68)))))], [], 0, 0, ix_mem 276 I18 J18 T18)) rfl trivial ?_
        refine ix_br (fun c19 => ?_) (fun c19 => ?_)
        · have h20 := h18.1 c19
          refine ix_go 2 (x' := (68, [some (.inr (.inr (.inl (some (0))))), some (.inl (a0)), some (.inl (a1)), some (.inr (.inr (.inl (some (68)))))], [.inl ((9 : Int32)), .inr (.inr (.inl (some (0))))], 0, 0, ix_mem 276 I18 J18 T18)) rfl trivial ?_
          refine ix_sp rfl ⟨rfl, ⟨ix_lt rfl, ix_eq rfl, ix_lt rfl⟩, ix_le rfl, Nat.le_refl _, Nat.le_refl _, tp_X11_refuse h20 (fun v21 I21 J21 T21 h21 => ?_)⟩
          change ix_W _ _ _ (71, [some (.inr (.inr (.inl (some (0))))), some (.inl (a0)), some (.inl (a1)), some (.inr (.inr (.inl (some (68)))))], [.inl (v21)], 0, 0, ix_mem 276 I21 J21 T21)
          exact ix_sp rfl ⟨Nat.le_refl _, Nat.le_refl _, trivial, hQ _ _ _ _ h21⟩
        · have h20 := h18.2 c19
          refine ix_go 6 (x' := (82, [some (.inr (.inr (.inl (some (0))))), some (.inl (a0)), some (.inl (a1)), some (.inr (.inr (.inl (some (68)))))], [.inl (a1), .inr (.inr (.inl (some (51))))], 0, 0, ix_mem 276 (ix_u2 I18 0 0 ((0 : Int32))) J18 T18)) rfl ⟨rfl, rfl, rfl, rfl⟩ ?_
          refine ix_sp rfl ⟨rfl, ⟨ix_lt rfl, ix_eq rfl, ix_lt rfl⟩, ix_le rfl, Nat.le_refl _, Nat.le_refl _, tp_X8_add h20 (fun v22 I22 J22 T22 h22 => ?_)⟩
          change ix_W _ _ _ (85, [some (.inr (.inr (.inl (some (0))))), some (.inl (a0)), some (.inl (a1)), some (.inr (.inr (.inl (some (68)))))], [.inl (v22)], 0, 0, ix_mem 276 I22 J22 T22)
          exact ix_sp rfl ⟨Nat.le_refl _, Nat.le_refl _, trivial, hQ _ _ _ _ h22⟩
      · subst e
        have h11 := h10.2.2.2.1 rfl
        refine ix_go 7 (x' := (59, [some (.inr (.inr (.inl (some (0))))), some (.inl (a0)), some (.inl (a1)), some (.inr (.inr (.inl (some (77)))))], [.inr (.inr (.inl (some (77)))), .inl (a0), .inr (.inr (.inl (some (44))))], 0, 0, ix_mem 276 I8 J8 T8)) rfl ⟨rfl, rfl⟩ ?_
        refine ix_sp rfl ⟨rfl, ⟨ix_lt rfl, ix_eq rfl, ix_lt rfl⟩, ix_le rfl, Nat.le_refl _, Nat.le_refl _, tp_X7_understands_r77 h11 (fun v23 I23 J23 T23 h23 => ?_)⟩
        change ix_W _ _ _ (62, [some (.inr (.inr (.inl (some (0))))), some (.inl (a0)), some (.inl (a1)), some (.inr (.inr (.inl (some (77)))))], [.inl (v23)], 0, 0, ix_mem 276 I23 J23 T23)
        refine ix_go 1 (x' := (if v23 = 0 then 65 else 72, [some (.inr (.inr (.inl (some (0))))), some (.inl (a0)), some (.inl (a1)), some (.inr (.inr (.inl (some (77)))))], [], 0, 0, ix_mem 276 I23 J23 T23)) rfl trivial ?_
        refine ix_br (fun c24 => ?_) (fun c24 => ?_)
        · have h25 := h23.1 c24
          refine ix_go 2 (x' := (68, [some (.inr (.inr (.inl (some (0))))), some (.inl (a0)), some (.inl (a1)), some (.inr (.inr (.inl (some (77)))))], [.inl ((9 : Int32)), .inr (.inr (.inl (some (0))))], 0, 0, ix_mem 276 I23 J23 T23)) rfl trivial ?_
          refine ix_sp rfl ⟨rfl, ⟨ix_lt rfl, ix_eq rfl, ix_lt rfl⟩, ix_le rfl, Nat.le_refl _, Nat.le_refl _, tp_X11_refuse h25 (fun v26 I26 J26 T26 h26 => ?_)⟩
          change ix_W _ _ _ (71, [some (.inr (.inr (.inl (some (0))))), some (.inl (a0)), some (.inl (a1)), some (.inr (.inr (.inl (some (77)))))], [.inl (v26)], 0, 0, ix_mem 276 I26 J26 T26)
          exact ix_sp rfl ⟨Nat.le_refl _, Nat.le_refl _, trivial, hQ _ _ _ _ h26⟩
        · have h25 := h23.2 c24
          refine ix_go 6 (x' := (82, [some (.inr (.inr (.inl (some (0))))), some (.inl (a0)), some (.inl (a1)), some (.inr (.inr (.inl (some (77)))))], [.inl (a1), .inr (.inr (.inl (some (51))))], 0, 0, ix_mem 276 (ix_u2 I23 0 0 ((0 : Int32))) J23 T23)) rfl ⟨rfl, rfl, rfl, rfl⟩ ?_
          refine ix_sp rfl ⟨rfl, ⟨ix_lt rfl, ix_eq rfl, ix_lt rfl⟩, ix_le rfl, Nat.le_refl _, Nat.le_refl _, tp_X8_add h25 (fun v27 I27 J27 T27 h27 => ?_)⟩
          change ix_W _ _ _ (85, [some (.inr (.inr (.inl (some (0))))), some (.inl (a0)), some (.inl (a1)), some (.inr (.inr (.inl (some (77)))))], [.inl (v27)], 0, 0, ix_mem 276 I27 J27 T27)
          exact ix_sp rfl ⟨Nat.le_refl _, Nat.le_refl _, trivial, hQ _ _ _ _ h27⟩
      · subst e
        have h11 := h10.2.2.2.2 rfl
        refine ix_go 7 (x' := (59, [some (.inr (.inr (.inl (some (0))))), some (.inl (a0)), some (.inl (a1)), some (.inr (.inr (.inl (some (86)))))], [.inr (.inr (.inl (some (86)))), .inl (a0), .inr (.inr (.inl (some (44))))], 0, 0, ix_mem 276 I8 J8 T8)) rfl ⟨rfl, rfl⟩ ?_
        refine ix_sp rfl ⟨rfl, ⟨ix_lt rfl, ix_eq rfl, ix_lt rfl⟩, ix_le rfl, Nat.le_refl _, Nat.le_refl _, tp_X7_understands_r86 h11 (fun v28 I28 J28 T28 h28 => ?_)⟩
        change ix_W _ _ _ (62, [some (.inr (.inr (.inl (some (0))))), some (.inl (a0)), some (.inl (a1)), some (.inr (.inr (.inl (some (86)))))], [.inl (v28)], 0, 0, ix_mem 276 I28 J28 T28)
        refine ix_go 1 (x' := (if v28 = 0 then 65 else 72, [some (.inr (.inr (.inl (some (0))))), some (.inl (a0)), some (.inl (a1)), some (.inr (.inr (.inl (some (86)))))], [], 0, 0, ix_mem 276 I28 J28 T28)) rfl trivial ?_
        refine ix_br (fun c29 => ?_) (fun c29 => ?_)
        · have h30 := h28.1 c29
          refine ix_go 2 (x' := (68, [some (.inr (.inr (.inl (some (0))))), some (.inl (a0)), some (.inl (a1)), some (.inr (.inr (.inl (some (86)))))], [.inl ((9 : Int32)), .inr (.inr (.inl (some (0))))], 0, 0, ix_mem 276 I28 J28 T28)) rfl trivial ?_
          refine ix_sp rfl ⟨rfl, ⟨ix_lt rfl, ix_eq rfl, ix_lt rfl⟩, ix_le rfl, Nat.le_refl _, Nat.le_refl _, tp_X11_refuse h30 (fun v31 I31 J31 T31 h31 => ?_)⟩
          change ix_W _ _ _ (71, [some (.inr (.inr (.inl (some (0))))), some (.inl (a0)), some (.inl (a1)), some (.inr (.inr (.inl (some (86)))))], [.inl (v31)], 0, 0, ix_mem 276 I31 J31 T31)
          exact ix_sp rfl ⟨Nat.le_refl _, Nat.le_refl _, trivial, hQ _ _ _ _ h31⟩
        · have h30 := h28.2 c29
          refine ix_go 6 (x' := (82, [some (.inr (.inr (.inl (some (0))))), some (.inl (a0)), some (.inl (a1)), some (.inr (.inr (.inl (some (86)))))], [.inl (a1), .inr (.inr (.inl (some (51))))], 0, 0, ix_mem 276 (ix_u2 I28 0 0 ((0 : Int32))) J28 T28)) rfl ⟨rfl, rfl, rfl, rfl⟩ ?_
          refine ix_sp rfl ⟨rfl, ⟨ix_lt rfl, ix_eq rfl, ix_lt rfl⟩, ix_le rfl, Nat.le_refl _, Nat.le_refl _, tp_X8_add h30 (fun v32 I32 J32 T32 h32 => ?_)⟩
          change ix_W _ _ _ (85, [some (.inr (.inr (.inl (some (0))))), some (.inl (a0)), some (.inl (a1)), some (.inr (.inr (.inl (some (86)))))], [.inl (v32)], 0, 0, ix_mem 276 I32 J32 T32)
          exact ix_sp rfl ⟨Nat.le_refl _, Nat.le_refl _, trivial, hQ _ _ _ _ h32⟩
    · have h7 := h5.2 c6
      refine ix_go 2 (x' := (31, [some (.inr (.inr (.inl (some (0))))), some (.inl (a0)), some (.inl (a1)), none], [.inl ((1 : Int32)), .inr (.inr (.inl (some (0))))], 0, 0, ix_mem 276 I5 J5 T5)) rfl trivial ?_
      refine ix_sp rfl ⟨rfl, ⟨ix_lt rfl, ix_eq rfl, ix_lt rfl⟩, ix_le rfl, Nat.le_refl _, Nat.le_refl _, tp_X11_refuse h7 (fun v33 I33 J33 T33 h33 => ?_)⟩
      change ix_W _ _ _ (34, [some (.inr (.inr (.inl (some (0))))), some (.inl (a0)), some (.inl (a1)), none], [.inl (v33)], 0, 0, ix_mem 276 I33 J33 T33)
      exact ix_sp rfl ⟨Nat.le_refl _, Nat.le_refl _, trivial, hQ _ _ _ _ h33⟩
  · have h4 := h2.2 c3
    refine ix_go 2 (x' := (31, [some (.inr (.inr (.inl (some (0))))), some (.inl (a0)), some (.inl (a1)), none], [.inl ((1 : Int32)), .inr (.inr (.inl (some (0))))], 0, 0, ix_mem 276 I2 J2 T2)) rfl trivial ?_
    refine ix_sp rfl ⟨rfl, ⟨ix_lt rfl, ix_eq rfl, ix_lt rfl⟩, ix_le rfl, Nat.le_refl _, Nat.le_refl _, tp_X11_refuse h4 (fun v34 I34 J34 T34 h34 => ?_)⟩
    change ix_W _ _ _ (34, [some (.inr (.inr (.inl (some (0))))), some (.inl (a0)), some (.inl (a1)), none], [.inl (v34)], 0, 0, ix_mem 276 I34 J34 T34)
    exact ix_sp rfl ⟨Nat.le_refl _, Nat.le_refl _, trivial, hQ _ _ _ _ h34⟩
def wp_X11_fault (a0 : Int32) (I : Nat → Nat → Int32) (J : Nat → Nat → Int64) (T : Option Nat) (P : Int32 → (Nat → Nat → Int32) → (Nat → Nat → Int64) → Option Nat → Prop) : Prop := ((a0 = 0 → wp_X7_faultKind I J T (fun v3 I3 J3 T3 => P (v3) I3 J3 T3)) ∧ (¬ (a0 = 0) → ((a0 = (1 : Int32) → wp_X7_faultPlace I J T (fun v6 I6 J6 T6 => P (v6) I6 J6 T6)) ∧ (¬ (a0 = (1 : Int32)) → P ((-1 : Int32)) I J T))))
set_option maxRecDepth 20000 in
theorem tp_X11_fault {d : Nat} {a0 : Int32} {I : Nat → Nat → Int32} {J : Nat → Nat → Int64} {T : Option Nat} {P : Int32 → (Nat → Nat → Int32) → (Nat → Nat → Int64) → Option Nat → Prop} {Q : ix_Q} (h : wp_X11_fault a0 I J T P) (hQ : ∀ v I J T, P v I J T → Q (some (.inl v)) (ix_mem 276 I J T)) : ix_C (d + 2) 178 [.inr (.inr (.inl (some (0)))), .inl (a0)] (ix_mem 276 I J T) Q := by
  unfold wp_X11_fault at h
  refine ix_enter (ls := [some (.inr (.inr (.inl (some (0))))), some (.inl (a0))]) rfl rfl rfl (Nat.le_of_ble_eq_true rfl) ?_
  refine ix_go 2 (x' := (if a0 = 0 then 4 else 12, [some (.inr (.inr (.inl (some (0))))), some (.inl (a0))], [], 0, 0, ix_mem 276 I J T)) rfl trivial ?_
  refine ix_br (fun c1 => ?_) (fun c1 => ?_)
  · have h2 := h.1 c1
    refine ix_go 2 (x' := (8, [some (.inr (.inr (.inl (some (0))))), some (.inl (a0))], [.inr (.inr (.inl (some (44))))], 0, 0, ix_mem 276 I J T)) rfl ⟨rfl, rfl⟩ ?_
    refine ix_sp rfl ⟨rfl, ⟨ix_lt rfl, ix_eq rfl, ix_lt rfl⟩, ix_le rfl, Nat.le_refl _, Nat.le_refl _, tp_X7_faultKind h2 (fun v3 I3 J3 T3 h3 => ?_)⟩
    change ix_W _ _ _ (11, [some (.inr (.inr (.inl (some (0))))), some (.inl (a0))], [.inl (v3)], 0, 0, ix_mem 276 I3 J3 T3)
    exact ix_sp rfl ⟨Nat.le_refl _, Nat.le_refl _, trivial, hQ _ _ _ _ h3⟩
  · have h2 := h.2 c1
    refine ix_go 3 (x' := (if a0 = (1 : Int32) then 17 else 27, [some (.inr (.inr (.inl (some (0))))), some (.inl (a0))], [], 0, 0, ix_mem 276 I J T)) rfl trivial ?_
    refine ix_br (fun c4 => ?_) (fun c4 => ?_)
    · have h5 := h2.1 c4
      refine ix_go 2 (x' := (21, [some (.inr (.inr (.inl (some (0))))), some (.inl (a0))], [.inr (.inr (.inl (some (44))))], 0, 0, ix_mem 276 I J T)) rfl ⟨rfl, rfl⟩ ?_
      refine ix_sp rfl ⟨rfl, ⟨ix_lt rfl, ix_eq rfl, ix_lt rfl⟩, ix_le rfl, Nat.le_refl _, Nat.le_refl _, tp_X7_faultPlace h5 (fun v6 I6 J6 T6 h6 => ?_)⟩
      change ix_W _ _ _ (24, [some (.inr (.inr (.inl (some (0))))), some (.inl (a0))], [.inl (v6)], 0, 0, ix_mem 276 I6 J6 T6)
      refine ix_go 1 (x' := (28, [some (.inr (.inr (.inl (some (0))))), some (.inl (a0))], [.inl (v6)], 0, 0, ix_mem 276 I6 J6 T6)) rfl trivial ?_
      exact ix_sp rfl ⟨Nat.le_refl _, Nat.le_refl _, trivial, hQ _ _ _ _ h6⟩
    · have h5 := h2.2 c4
      refine ix_go 1 (x' := (28, [some (.inr (.inr (.inl (some (0))))), some (.inl (a0))], [.inl ((-1 : Int32))], 0, 0, ix_mem 276 I J T)) rfl trivial ?_
      exact ix_sp rfl ⟨Nat.le_refl _, Nat.le_refl _, trivial, hQ _ _ _ _ h5⟩
def wp_X11_clauses (a0 : Int32) (I : Nat → Nat → Int32) (J : Nat → Nat → Int64) (T : Option Nat) (P : Int32 → (Nat → Nat → Int32) → (Nat → Nat → Int64) → Option Nat → Prop) : Prop := wp_X8_has (a0) I J T (fun v1 I1 J1 T1 => ((v1 = 0 → wp_X11_refuse ((1 : Int32)) I1 J1 T1 (fun v4 I4 J4 T4 => P (v4) I4 J4 T4)) ∧ (¬ (v1 = 0) → wp_X8_clausesOf (a0) (ix_u2 I1 0 0 ((0 : Int32))) J1 T1 (fun v5 I5 J5 T5 => P (v5) I5 J5 T5))))
set_option maxRecDepth 20000 in
theorem tp_X11_clauses {d : Nat} {a0 : Int32} {I : Nat → Nat → Int32} {J : Nat → Nat → Int64} {T : Option Nat} {P : Int32 → (Nat → Nat → Int32) → (Nat → Nat → Int64) → Option Nat → Prop} {Q : ix_Q} (h : wp_X11_clauses a0 I J T P) (hQ : ∀ v I J T, P v I J T → Q (some (.inl v)) (ix_mem 276 I J T)) : ix_C (d + 3) 179 [.inr (.inr (.inl (some (0)))), .inl (a0)] (ix_mem 276 I J T) Q := by
  unfold wp_X11_clauses at h
  refine ix_enter (ls := [some (.inr (.inr (.inl (some (0))))), some (.inl (a0))]) rfl rfl rfl (Nat.le_of_ble_eq_true rfl) ?_
  refine ix_go 3 (x' := (5, [some (.inr (.inr (.inl (some (0))))), some (.inl (a0))], [.inl (a0), .inr (.inr (.inl (some (51))))], 0, 0, ix_mem 276 I J T)) rfl ⟨rfl, rfl⟩ ?_
  refine ix_sp rfl ⟨rfl, ⟨ix_lt rfl, ix_eq rfl, ix_lt rfl⟩, ix_le rfl, Nat.le_refl _, Nat.le_refl _, tp_X8_has h (fun v1 I1 J1 T1 h1 => ?_)⟩
  change ix_W _ _ _ (8, [some (.inr (.inr (.inl (some (0))))), some (.inl (a0))], [.inl (v1)], 0, 0, ix_mem 276 I1 J1 T1)
  refine ix_go 1 (x' := (if v1 = 0 then 11 else 17, [some (.inr (.inr (.inl (some (0))))), some (.inl (a0))], [], 0, 0, ix_mem 276 I1 J1 T1)) rfl trivial ?_
  refine ix_br (fun c2 => ?_) (fun c2 => ?_)
  · have h3 := h1.1 c2
    refine ix_go 2 (x' := (13, [some (.inr (.inr (.inl (some (0))))), some (.inl (a0))], [.inl ((1 : Int32)), .inr (.inr (.inl (some (0))))], 0, 0, ix_mem 276 I1 J1 T1)) rfl trivial ?_
    refine ix_sp rfl ⟨rfl, ⟨ix_lt rfl, ix_eq rfl, ix_lt rfl⟩, ix_le rfl, Nat.le_refl _, Nat.le_refl _, tp_X11_refuse h3 (fun v4 I4 J4 T4 h4 => ?_)⟩
    change ix_W _ _ _ (16, [some (.inr (.inr (.inl (some (0))))), some (.inl (a0))], [.inl (v4)], 0, 0, ix_mem 276 I4 J4 T4)
    exact ix_sp rfl ⟨Nat.le_refl _, Nat.le_refl _, trivial, hQ _ _ _ _ h4⟩
  · have h3 := h1.2 c2
    refine ix_go 6 (x' := (27, [some (.inr (.inr (.inl (some (0))))), some (.inl (a0))], [.inl (a0), .inr (.inr (.inl (some (51))))], 0, 0, ix_mem 276 (ix_u2 I1 0 0 ((0 : Int32))) J1 T1)) rfl ⟨rfl, rfl, rfl, rfl⟩ ?_
    refine ix_sp rfl ⟨rfl, ⟨ix_lt rfl, ix_eq rfl, ix_lt rfl⟩, ix_le rfl, Nat.le_refl _, Nat.le_refl _, tp_X8_clausesOf h3 (fun v5 I5 J5 T5 h5 => ?_)⟩
    change ix_W _ _ _ (30, [some (.inr (.inr (.inl (some (0))))), some (.inl (a0))], [.inl (v5)], 0, 0, ix_mem 276 I5 J5 T5)
    exact ix_sp rfl ⟨Nat.le_refl _, Nat.le_refl _, trivial, hQ _ _ _ _ h5⟩
def wp_X11_answerOrNoneSuch (a0 : Int32) (I : Nat → Nat → Int32) (J : Nat → Nat → Int64) (T : Option Nat) (P : Int32 → (Nat → Nat → Int32) → (Nat → Nat → Int64) → Option Nat → Prop) : Prop := ((a0 < 0 → ((a0 < 0 → P ((-1 : Int32)) (ix_u2 I 0 0 ((6 : Int32))) J T) ∧ (¬ (a0 < 0) → P (a0) (ix_u2 I 0 0 ((6 : Int32))) J T))) ∧ (¬ (a0 < 0) → ((a0 < 0 → P ((-1 : Int32)) (ix_u2 I 0 0 ((0 : Int32))) J T) ∧ (¬ (a0 < 0) → P (a0) (ix_u2 I 0 0 ((0 : Int32))) J T))))
set_option maxRecDepth 20000 in
theorem tp_X11_answerOrNoneSuch {d : Nat} {a0 : Int32} {I : Nat → Nat → Int32} {J : Nat → Nat → Int64} {T : Option Nat} {P : Int32 → (Nat → Nat → Int32) → (Nat → Nat → Int64) → Option Nat → Prop} {Q : ix_Q} (h : wp_X11_answerOrNoneSuch a0 I J T P) (hQ : ∀ v I J T, P v I J T → Q (some (.inl v)) (ix_mem 276 I J T)) : ix_C (d + 1) 180 [.inr (.inr (.inl (some (0)))), .inl (a0)] (ix_mem 276 I J T) Q := by
  unfold wp_X11_answerOrNoneSuch at h
  refine ix_enter (ls := [some (.inr (.inr (.inl (some (0))))), some (.inl (a0))]) rfl rfl rfl (Nat.le_of_ble_eq_true rfl) ?_
  refine ix_go 3 (x' := (if a0 < 0 then 5 else 10, [some (.inr (.inr (.inl (some (0))))), some (.inl (a0))], [.inr (.inr (.inl (some (0))))], 0, 0, ix_mem 276 I J T)) rfl trivial ?_
  refine ix_br (fun c1 => ?_) (fun c1 => ?_)
  · have h2 := h.1 c1
    refine ix_go 5 (x' := (if a0 < 0 then 18 else 22, [some (.inr (.inr (.inl (some (0))))), some (.inl (a0))], [], 0, 0, ix_mem 276 (ix_u2 I 0 0 ((6 : Int32))) J T)) rfl ⟨rfl, rfl⟩ ?_
    refine ix_br (fun c3 => ?_) (fun c3 => ?_)
    · have h4 := h2.1 c3
      refine ix_go 2 (x' := (23, [some (.inr (.inr (.inl (some (0))))), some (.inl (a0))], [.inl ((-1 : Int32))], 0, 0, ix_mem 276 (ix_u2 I 0 0 ((6 : Int32))) J T)) rfl trivial ?_
      exact ix_sp rfl ⟨Nat.le_refl _, Nat.le_refl _, trivial, hQ _ _ _ _ h4⟩
    · have h4 := h2.2 c3
      refine ix_go 1 (x' := (23, [some (.inr (.inr (.inl (some (0))))), some (.inl (a0))], [.inl (a0)], 0, 0, ix_mem 276 (ix_u2 I 0 0 ((6 : Int32))) J T)) rfl trivial ?_
      exact ix_sp rfl ⟨Nat.le_refl _, Nat.le_refl _, trivial, hQ _ _ _ _ h4⟩
  · have h2 := h.2 c1
    refine ix_go 4 (x' := (if a0 < 0 then 18 else 22, [some (.inr (.inr (.inl (some (0))))), some (.inl (a0))], [], 0, 0, ix_mem 276 (ix_u2 I 0 0 ((0 : Int32))) J T)) rfl ⟨rfl, rfl⟩ ?_
    refine ix_br (fun c5 => ?_) (fun c5 => ?_)
    · have h6 := h2.1 c5
      refine ix_go 2 (x' := (23, [some (.inr (.inr (.inl (some (0))))), some (.inl (a0))], [.inl ((-1 : Int32))], 0, 0, ix_mem 276 (ix_u2 I 0 0 ((0 : Int32))) J T)) rfl trivial ?_
      exact ix_sp rfl ⟨Nat.le_refl _, Nat.le_refl _, trivial, hQ _ _ _ _ h6⟩
    · have h6 := h2.2 c5
      refine ix_go 1 (x' := (23, [some (.inr (.inr (.inl (some (0))))), some (.inl (a0))], [.inl (a0)], 0, 0, ix_mem 276 (ix_u2 I 0 0 ((0 : Int32))) J T)) rfl trivial ?_
      exact ix_sp rfl ⟨Nat.le_refl _, Nat.le_refl _, trivial, hQ _ _ _ _ h6⟩
def wp_X11_inForce (a0 : Int32) (I : Nat → Nat → Int32) (J : Nat → Nat → Int64) (T : Option Nat) (P : Int32 → (Nat → Nat → Int32) → (Nat → Nat → Int64) → Option Nat → Prop) : Prop := wp_X11_outside ((a0).toInt64) ((0 : Int64)) ((27 : Int64)) I J T (fun v1 I1 J1 T1 => ((v1 = 0 → wp_X8_holding (a0) I1 J1 T1 (fun v4 I4 J4 T4 => wp_X11_answerOrNoneSuch (v4) I4 J4 T4 (fun v5 I5 J5 T5 => P (v5) I5 J5 T5))) ∧ (¬ (v1 = 0) → wp_X11_refuse ((1 : Int32)) I1 J1 T1 (fun v6 I6 J6 T6 => P (v6) I6 J6 T6))))
set_option maxRecDepth 20000 in
theorem tp_X11_inForce {d : Nat} {a0 : Int32} {I : Nat → Nat → Int32} {J : Nat → Nat → Int64} {T : Option Nat} {P : Int32 → (Nat → Nat → Int32) → (Nat → Nat → Int64) → Option Nat → Prop} {Q : ix_Q} (h : wp_X11_inForce a0 I J T P) (hQ : ∀ v I J T, P v I J T → Q (some (.inl v)) (ix_mem 276 I J T)) : ix_C (d + 2) 181 [.inr (.inr (.inl (some (0)))), .inl (a0)] (ix_mem 276 I J T) Q := by
  unfold wp_X11_inForce at h
  refine ix_enter (ls := [some (.inr (.inr (.inl (some (0))))), some (.inl (a0))]) rfl rfl rfl (Nat.le_of_ble_eq_true rfl) ?_
  refine ix_go 4 (x' := (6, [some (.inr (.inr (.inl (some (0))))), some (.inl (a0))], [.inr (.inl ((27 : Int64))), .inr (.inl ((0 : Int64))), .inr (.inl ((a0).toInt64))], 0, 0, ix_mem 276 I J T)) rfl trivial ?_
  refine ix_sp rfl ⟨rfl, trivial, ix_le rfl, Nat.le_refl _, Nat.le_refl _, tp_X11_outside h (fun v1 I1 J1 T1 h1 => ?_)⟩
  change ix_W _ _ _ (9, [some (.inr (.inr (.inl (some (0))))), some (.inl (a0))], [.inl (v1)], 0, 0, ix_mem 276 I1 J1 T1)
  refine ix_go 1 (x' := (if v1 = 0 then 18 else 12, [some (.inr (.inr (.inl (some (0))))), some (.inl (a0))], [], 0, 0, ix_mem 276 I1 J1 T1)) rfl trivial ?_
  refine ix_br (fun c2 => ?_) (fun c2 => ?_)
  · have h3 := h1.1 c2
    refine ix_go 4 (x' := (24, [some (.inr (.inr (.inl (some (0))))), some (.inl (a0))], [.inl (a0), .inr (.inr (.inl (some (51)))), .inr (.inr (.inl (some (0))))], 0, 0, ix_mem 276 I1 J1 T1)) rfl ⟨rfl, rfl⟩ ?_
    refine ix_sp rfl ⟨rfl, ⟨ix_lt rfl, ix_eq rfl, ix_lt rfl⟩, ix_le rfl, Nat.le_refl _, Nat.le_refl _, tp_X8_holding h3 (fun v4 I4 J4 T4 h4 => ?_)⟩
    change ix_W _ _ _ (27, [some (.inr (.inr (.inl (some (0))))), some (.inl (a0))], [.inl (v4), .inr (.inr (.inl (some (0))))], 0, 0, ix_mem 276 I4 J4 T4)
    refine ix_sp rfl ⟨rfl, ⟨ix_lt rfl, ix_eq rfl, ix_lt rfl⟩, ix_le rfl, Nat.le_refl _, Nat.le_refl _, tp_X11_answerOrNoneSuch h4 (fun v5 I5 J5 T5 h5 => ?_)⟩
    change ix_W _ _ _ (30, [some (.inr (.inr (.inl (some (0))))), some (.inl (a0))], [.inl (v5)], 0, 0, ix_mem 276 I5 J5 T5)
    exact ix_sp rfl ⟨Nat.le_refl _, Nat.le_refl _, trivial, hQ _ _ _ _ h5⟩
  · have h3 := h1.2 c2
    refine ix_go 2 (x' := (14, [some (.inr (.inr (.inl (some (0))))), some (.inl (a0))], [.inl ((1 : Int32)), .inr (.inr (.inl (some (0))))], 0, 0, ix_mem 276 I1 J1 T1)) rfl trivial ?_
    refine ix_sp rfl ⟨rfl, ⟨ix_lt rfl, ix_eq rfl, ix_lt rfl⟩, ix_le rfl, Nat.le_refl _, Nat.le_refl _, tp_X11_refuse h3 (fun v6 I6 J6 T6 h6 => ?_)⟩
    change ix_W _ _ _ (17, [some (.inr (.inr (.inl (some (0))))), some (.inl (a0))], [.inl (v6)], 0, 0, ix_mem 276 I6 J6 T6)
    exact ix_sp rfl ⟨Nat.le_refl _, Nat.le_refl _, trivial, hQ _ _ _ _ h6⟩
def wp_X11_isReserve (a0 : Int32) (a1 : Int32) (a2 : Int32) (a3 : Int32) (I : Nat → Nat → Int32) (J : Nat → Nat → Int64) (T : Option Nat) (P : Int32 → (Nat → Nat → Int32) → (Nat → Nat → Int64) → Option Nat → Prop) : Prop := wp_X11_isLand (a0) I J T (fun v1 I1 J1 T1 => ((v1 = 0 → P ((0 : Int32)) I1 J1 T1) ∧ (¬ (v1 = 0) → wp_X11_isDay (a3) I1 J1 T1 (fun v4 I4 J4 T4 => ((v4 = 0 → P ((0 : Int32)) I4 J4 T4) ∧ (¬ (v4 = 0) → wp_X8_has (a1) I4 J4 T4 (fun v7 I7 J7 T7 => ((v7 = 0 → P ((0 : Int32)) I7 J7 T7) ∧ (¬ (v7 = 0) → wp_X8_clausesOf (a1) I7 J7 T7 (fun v10 I10 J10 T10 => wp_X11_outside ((a2).toInt64) ((0 : Int64)) (((v10) - ((1 : Int32))).toInt64) I10 J10 T10 (fun v11 I11 J11 T11 => ((v11 = 0 → P ((1 : Int32)) I11 J11 T11) ∧ (¬ (v11 = 0) → P ((0 : Int32)) I11 J11 T11)))))))))))))
set_option maxRecDepth 20000 in
theorem tp_X11_isReserve {d : Nat} {a0 : Int32} {a1 : Int32} {a2 : Int32} {a3 : Int32} {I : Nat → Nat → Int32} {J : Nat → Nat → Int64} {T : Option Nat} {P : Int32 → (Nat → Nat → Int32) → (Nat → Nat → Int64) → Option Nat → Prop} {Q : ix_Q} (h : wp_X11_isReserve a0 a1 a2 a3 I J T P) (hQ : ∀ v I J T, P v I J T → Q (some (.inl v)) (ix_mem 276 I J T)) : ix_C (d + 3) 182 [.inr (.inr (.inl (some (0)))), .inl (a0), .inl (a1), .inl (a2), .inl (a3)] (ix_mem 276 I J T) Q := by
  unfold wp_X11_isReserve at h
  refine ix_enter (ls := [some (.inr (.inr (.inl (some (0))))), some (.inl (a0)), some (.inl (a1)), some (.inl (a2)), some (.inl (a3))]) rfl rfl rfl (Nat.le_of_ble_eq_true rfl) ?_
  refine ix_go 2 (x' := (2, [some (.inr (.inr (.inl (some (0))))), some (.inl (a0)), some (.inl (a1)), some (.inl (a2)), some (.inl (a3))], [.inl (a0), .inr (.inr (.inl (some (0))))], 0, 0, ix_mem 276 I J T)) rfl trivial ?_
  refine ix_sp rfl ⟨rfl, ⟨ix_lt rfl, ix_eq rfl, ix_lt rfl⟩, ix_le rfl, Nat.le_refl _, Nat.le_refl _, tp_X11_isLand h (fun v1 I1 J1 T1 h1 => ?_)⟩
  change ix_W _ _ _ (5, [some (.inr (.inr (.inl (some (0))))), some (.inl (a0)), some (.inl (a1)), some (.inl (a2)), some (.inl (a3))], [.inl (v1)], 0, 0, ix_mem 276 I1 J1 T1)
  refine ix_go 1 (x' := (if v1 = 0 then 51 else 8, [some (.inr (.inr (.inl (some (0))))), some (.inl (a0)), some (.inl (a1)), some (.inl (a2)), some (.inl (a3))], [], 0, 0, ix_mem 276 I1 J1 T1)) rfl trivial ?_
  refine ix_br (fun c2 => ?_) (fun c2 => ?_)
  · have h3 := h1.1 c2
    refine ix_go 1 (x' := (52, [some (.inr (.inr (.inl (some (0))))), some (.inl (a0)), some (.inl (a1)), some (.inl (a2)), some (.inl (a3))], [.inl ((0 : Int32))], 0, 0, ix_mem 276 I1 J1 T1)) rfl trivial ?_
    exact ix_sp rfl ⟨Nat.le_refl _, Nat.le_refl _, ix_01_ok rfl, hQ _ _ _ _ h3⟩
  · have h3 := h1.2 c2
    refine ix_go 1 (x' := (10, [some (.inr (.inr (.inl (some (0))))), some (.inl (a0)), some (.inl (a1)), some (.inl (a2)), some (.inl (a3))], [.inl (a3)], 0, 0, ix_mem 276 I1 J1 T1)) rfl trivial ?_
    refine ix_sp rfl ⟨rfl, trivial, ix_le rfl, Nat.le_refl _, Nat.le_refl _, tp_X11_isDay h3 (fun v4 I4 J4 T4 h4 => ?_)⟩
    change ix_W _ _ _ (13, [some (.inr (.inr (.inl (some (0))))), some (.inl (a0)), some (.inl (a1)), some (.inl (a2)), some (.inl (a3))], [.inl (v4)], 0, 0, ix_mem 276 I4 J4 T4)
    refine ix_go 1 (x' := (if v4 = 0 then 51 else 16, [some (.inr (.inr (.inl (some (0))))), some (.inl (a0)), some (.inl (a1)), some (.inl (a2)), some (.inl (a3))], [], 0, 0, ix_mem 276 I4 J4 T4)) rfl trivial ?_
    refine ix_br (fun c5 => ?_) (fun c5 => ?_)
    · have h6 := h4.1 c5
      refine ix_go 1 (x' := (52, [some (.inr (.inr (.inl (some (0))))), some (.inl (a0)), some (.inl (a1)), some (.inl (a2)), some (.inl (a3))], [.inl ((0 : Int32))], 0, 0, ix_mem 276 I4 J4 T4)) rfl trivial ?_
      exact ix_sp rfl ⟨Nat.le_refl _, Nat.le_refl _, ix_01_ok rfl, hQ _ _ _ _ h6⟩
    · have h6 := h4.2 c5
      refine ix_go 3 (x' := (21, [some (.inr (.inr (.inl (some (0))))), some (.inl (a0)), some (.inl (a1)), some (.inl (a2)), some (.inl (a3))], [.inl (a1), .inr (.inr (.inl (some (51))))], 0, 0, ix_mem 276 I4 J4 T4)) rfl ⟨rfl, rfl⟩ ?_
      refine ix_sp rfl ⟨rfl, ⟨ix_lt rfl, ix_eq rfl, ix_lt rfl⟩, ix_le rfl, Nat.le_refl _, Nat.le_refl _, tp_X8_has h6 (fun v7 I7 J7 T7 h7 => ?_)⟩
      change ix_W _ _ _ (24, [some (.inr (.inr (.inl (some (0))))), some (.inl (a0)), some (.inl (a1)), some (.inl (a2)), some (.inl (a3))], [.inl (v7)], 0, 0, ix_mem 276 I7 J7 T7)
      refine ix_go 1 (x' := (if v7 = 0 then 51 else 27, [some (.inr (.inr (.inl (some (0))))), some (.inl (a0)), some (.inl (a1)), some (.inl (a2)), some (.inl (a3))], [], 0, 0, ix_mem 276 I7 J7 T7)) rfl trivial ?_
      refine ix_br (fun c8 => ?_) (fun c8 => ?_)
      · have h9 := h7.1 c8
        refine ix_go 1 (x' := (52, [some (.inr (.inr (.inl (some (0))))), some (.inl (a0)), some (.inl (a1)), some (.inl (a2)), some (.inl (a3))], [.inl ((0 : Int32))], 0, 0, ix_mem 276 I7 J7 T7)) rfl trivial ?_
        exact ix_sp rfl ⟨Nat.le_refl _, Nat.le_refl _, ix_01_ok rfl, hQ _ _ _ _ h9⟩
      · have h9 := h7.2 c8
        refine ix_go 6 (x' := (35, [some (.inr (.inr (.inl (some (0))))), some (.inl (a0)), some (.inl (a1)), some (.inl (a2)), some (.inl (a3))], [.inl (a1), .inr (.inr (.inl (some (51)))), .inr (.inl ((0 : Int64))), .inr (.inl ((a2).toInt64))], 0, 0, ix_mem 276 I7 J7 T7)) rfl ⟨rfl, rfl⟩ ?_
        refine ix_sp rfl ⟨rfl, ⟨ix_lt rfl, ix_eq rfl, ix_lt rfl⟩, ix_le rfl, Nat.le_refl _, Nat.le_refl _, tp_X8_clausesOf h9 (fun v10 I10 J10 T10 h10 => ?_)⟩
        change ix_W _ _ _ (38, [some (.inr (.inr (.inl (some (0))))), some (.inl (a0)), some (.inl (a1)), some (.inl (a2)), some (.inl (a3))], [.inl (v10), .inr (.inl ((0 : Int64))), .inr (.inl ((a2).toInt64))], 0, 0, ix_mem 276 I10 J10 T10)
        refine ix_go 3 (x' := (41, [some (.inr (.inr (.inl (some (0))))), some (.inl (a0)), some (.inl (a1)), some (.inl (a2)), some (.inl (a3))], [.inr (.inl (((v10) - ((1 : Int32))).toInt64)), .inr (.inl ((0 : Int64))), .inr (.inl ((a2).toInt64))], 0, 0, ix_mem 276 I10 J10 T10)) rfl trivial ?_
        refine ix_sp rfl ⟨rfl, trivial, ix_le rfl, Nat.le_refl _, Nat.le_refl _, tp_X11_outside h10 (fun v11 I11 J11 T11 h11 => ?_)⟩
        change ix_W _ _ _ (44, [some (.inr (.inr (.inl (some (0))))), some (.inl (a0)), some (.inl (a1)), some (.inl (a2)), some (.inl (a3))], [.inl (v11)], 0, 0, ix_mem 276 I11 J11 T11)
        refine ix_go 1 (x' := (if v11 = 0 then 47 else 51, [some (.inr (.inr (.inl (some (0))))), some (.inl (a0)), some (.inl (a1)), some (.inl (a2)), some (.inl (a3))], [], 0, 0, ix_mem 276 I11 J11 T11)) rfl trivial ?_
        refine ix_br (fun c12 => ?_) (fun c12 => ?_)
        · have h13 := h11.1 c12
          refine ix_go 2 (x' := (52, [some (.inr (.inr (.inl (some (0))))), some (.inl (a0)), some (.inl (a1)), some (.inl (a2)), some (.inl (a3))], [.inl ((1 : Int32))], 0, 0, ix_mem 276 I11 J11 T11)) rfl trivial ?_
          exact ix_sp rfl ⟨Nat.le_refl _, Nat.le_refl _, ix_01_ok rfl, hQ _ _ _ _ h13⟩
        · have h13 := h11.2 c12
          refine ix_go 1 (x' := (52, [some (.inr (.inr (.inl (some (0))))), some (.inl (a0)), some (.inl (a1)), some (.inl (a2)), some (.inl (a3))], [.inl ((0 : Int32))], 0, 0, ix_mem 276 I11 J11 T11)) rfl trivial ?_
          exact ix_sp rfl ⟨Nat.le_refl _, Nat.le_refl _, ix_01_ok rfl, hQ _ _ _ _ h13⟩
def wp_X11_reserve (a0 : Int32) (a1 : Int32) (a2 : Int32) (a3 : Int32) (a4 : Int32) (I : Nat → Nat → Int32) (J : Nat → Nat → Int64) (T : Option Nat) (P : Int32 → (Nat → Nat → Int32) → (Nat → Nat → Int64) → Option Nat → Prop) : Prop := wp_X11_isReserve (a0) (a1) (a2) (a3) I J T (fun v1 I1 J1 T1 => ((v1 = 0 → wp_X11_refused ((1 : Int32)) I1 J1 T1 (fun v4 I4 J4 T4 => ix_01 (v4) = true ∧ P (v4) I4 J4 T4)) ∧ (¬ (v1 = 0) → wp_X8_isReservesFull I1 J1 T1 (fun v5 I5 J5 T5 => ((v5 = 0 → wp_X8_isOutOf (a0) (a1) (a2) (a3) I5 J5 T5 (fun v8 I8 J8 T8 => ((v8 = a4 → wp_X11_refused ((7 : Int32)) I8 J8 T8 (fun v11 I11 J11 T11 => ix_01 (v11) = true ∧ P (v11) I11 J11 T11)) ∧ (¬ (v8 = a4) → wp_X8_addReserve (a0) (a1) (a2) (a3) (a4) I8 J8 T8 (fun I12 J12 T12 => wp_X11_accepted I12 J12 T12 (fun v13 I13 J13 T13 => ix_01 (v13) = true ∧ P (v13) I13 J13 T13)))))) ∧ (¬ (v5 = 0) → wp_X11_refused ((4 : Int32)) I5 J5 T5 (fun v14 I14 J14 T14 => ix_01 (v14) = true ∧ P (v14) I14 J14 T14)))))))
set_option maxRecDepth 20000 in
theorem tp_X11_reserve {d : Nat} {a0 : Int32} {a1 : Int32} {a2 : Int32} {a3 : Int32} {a4 : Int32} {I : Nat → Nat → Int32} {J : Nat → Nat → Int64} {T : Option Nat} {P : Int32 → (Nat → Nat → Int32) → (Nat → Nat → Int64) → Option Nat → Prop} {Q : ix_Q} (h : wp_X11_reserve a0 a1 a2 a3 a4 I J T P) (hQ : ∀ v I J T, P v I J T → Q (some (.inl v)) (ix_mem 276 I J T)) : ix_C (d + 4) 183 [.inr (.inr (.inl (some (0)))), .inl (a0), .inl (a1), .inl (a2), .inl (a3), .inl (a4)] (ix_mem 276 I J T) Q := by
  unfold wp_X11_reserve at h
  refine ix_enter (ls := [some (.inr (.inr (.inl (some (0))))), some (.inl (a0)), some (.inl (a1)), some (.inl (a2)), some (.inl (a3)), some (.inl (a4))]) rfl rfl rfl (Nat.le_of_ble_eq_true rfl) ?_
  refine ix_go 5 (x' := (6, [some (.inr (.inr (.inl (some (0))))), some (.inl (a0)), some (.inl (a1)), some (.inl (a2)), some (.inl (a3)), some (.inl (a4))], [.inl (a3), .inl (a2), .inl (a1), .inl (a0), .inr (.inr (.inl (some (0))))], 0, 0, ix_mem 276 I J T)) rfl trivial ?_
  refine ix_sp rfl ⟨rfl, ⟨ix_lt rfl, ix_eq rfl, ix_lt rfl⟩, ix_le rfl, Nat.le_refl _, Nat.le_refl _, tp_X11_isReserve h (fun v1 I1 J1 T1 h1 => ?_)⟩
  change ix_W _ _ _ (9, [some (.inr (.inr (.inl (some (0))))), some (.inl (a0)), some (.inl (a1)), some (.inl (a2)), some (.inl (a3)), some (.inl (a4))], [.inl (v1)], 0, 0, ix_mem 276 I1 J1 T1)
  refine ix_go 1 (x' := (if v1 = 0 then 12 else 18, [some (.inr (.inr (.inl (some (0))))), some (.inl (a0)), some (.inl (a1)), some (.inl (a2)), some (.inl (a3)), some (.inl (a4))], [], 0, 0, ix_mem 276 I1 J1 T1)) rfl trivial ?_
  refine ix_br (fun c2 => ?_) (fun c2 => ?_)
  · have h3 := h1.1 c2
    refine ix_go 2 (x' := (14, [some (.inr (.inr (.inl (some (0))))), some (.inl (a0)), some (.inl (a1)), some (.inl (a2)), some (.inl (a3)), some (.inl (a4))], [.inl ((1 : Int32)), .inr (.inr (.inl (some (0))))], 0, 0, ix_mem 276 I1 J1 T1)) rfl trivial ?_
    refine ix_sp rfl ⟨rfl, ⟨ix_lt rfl, ix_eq rfl, ix_lt rfl⟩, ix_le rfl, Nat.le_refl _, Nat.le_refl _, tp_X11_refused h3 (fun v4 I4 J4 T4 h4 => ?_)⟩
    change ix_W _ _ _ (17, [some (.inr (.inr (.inl (some (0))))), some (.inl (a0)), some (.inl (a1)), some (.inl (a2)), some (.inl (a3)), some (.inl (a4))], [.inl (v4)], 0, 0, ix_mem 276 I4 J4 T4)
    exact ix_sp rfl ⟨Nat.le_refl _, Nat.le_refl _, ix_01_ok h4.1, hQ _ _ _ _ h4.2⟩
  · have h3 := h1.2 c2
    refine ix_go 2 (x' := (22, [some (.inr (.inr (.inl (some (0))))), some (.inl (a0)), some (.inl (a1)), some (.inl (a2)), some (.inl (a3)), some (.inl (a4))], [.inr (.inr (.inl (some (51))))], 0, 0, ix_mem 276 I1 J1 T1)) rfl ⟨rfl, rfl⟩ ?_
    refine ix_sp rfl ⟨rfl, ⟨ix_lt rfl, ix_eq rfl, ix_lt rfl⟩, ix_le rfl, Nat.le_refl _, Nat.le_refl _, tp_X8_isReservesFull h3 (fun v5 I5 J5 T5 h5 => ?_)⟩
    change ix_W _ _ _ (25, [some (.inr (.inr (.inl (some (0))))), some (.inl (a0)), some (.inl (a1)), some (.inl (a2)), some (.inl (a3)), some (.inl (a4))], [.inl (v5)], 0, 0, ix_mem 276 I5 J5 T5)
    refine ix_go 1 (x' := (if v5 = 0 then 34 else 28, [some (.inr (.inr (.inl (some (0))))), some (.inl (a0)), some (.inl (a1)), some (.inl (a2)), some (.inl (a3)), some (.inl (a4))], [], 0, 0, ix_mem 276 I5 J5 T5)) rfl trivial ?_
    refine ix_br (fun c6 => ?_) (fun c6 => ?_)
    · have h7 := h5.1 c6
      refine ix_go 6 (x' := (43, [some (.inr (.inr (.inl (some (0))))), some (.inl (a0)), some (.inl (a1)), some (.inl (a2)), some (.inl (a3)), some (.inl (a4))], [.inl (a3), .inl (a2), .inl (a1), .inl (a0), .inr (.inr (.inl (some (51))))], 0, 0, ix_mem 276 I5 J5 T5)) rfl ⟨rfl, rfl⟩ ?_
      refine ix_sp rfl ⟨rfl, ⟨ix_lt rfl, ix_eq rfl, ix_lt rfl⟩, ix_le rfl, Nat.le_refl _, Nat.le_refl _, tp_X8_isOutOf h7 (fun v8 I8 J8 T8 h8 => ?_)⟩
      change ix_W _ _ _ (46, [some (.inr (.inr (.inl (some (0))))), some (.inl (a0)), some (.inl (a1)), some (.inl (a2)), some (.inl (a3)), some (.inl (a4))], [.inl (v8)], 0, 0, ix_mem 276 I8 J8 T8)
      refine ix_go 2 (x' := (if v8 = a4 then 51 else 58, [some (.inr (.inr (.inl (some (0))))), some (.inl (a0)), some (.inl (a1)), some (.inl (a2)), some (.inl (a3)), some (.inl (a4))], [], 0, 0, ix_mem 276 I8 J8 T8)) rfl trivial ?_
      refine ix_br (fun c9 => ?_) (fun c9 => ?_)
      · have h10 := h8.1 c9
        refine ix_go 2 (x' := (54, [some (.inr (.inr (.inl (some (0))))), some (.inl (a0)), some (.inl (a1)), some (.inl (a2)), some (.inl (a3)), some (.inl (a4))], [.inl ((7 : Int32)), .inr (.inr (.inl (some (0))))], 0, 0, ix_mem 276 I8 J8 T8)) rfl trivial ?_
        refine ix_sp rfl ⟨rfl, ⟨ix_lt rfl, ix_eq rfl, ix_lt rfl⟩, ix_le rfl, Nat.le_refl _, Nat.le_refl _, tp_X11_refused h10 (fun v11 I11 J11 T11 h11 => ?_)⟩
        change ix_W _ _ _ (57, [some (.inr (.inr (.inl (some (0))))), some (.inl (a0)), some (.inl (a1)), some (.inl (a2)), some (.inl (a3)), some (.inl (a4))], [.inl (v11)], 0, 0, ix_mem 276 I11 J11 T11)
        exact ix_sp rfl ⟨Nat.le_refl _, Nat.le_refl _, ix_01_ok h11.1, hQ _ _ _ _ h11.2⟩
      · have h10 := h8.2 c9
        refine ix_go 7 (x' := (69, [some (.inr (.inr (.inl (some (0))))), some (.inl (a0)), some (.inl (a1)), some (.inl (a2)), some (.inl (a3)), some (.inl (a4))], [.inl (a4), .inl (a3), .inl (a2), .inl (a1), .inl (a0), .inr (.inr (.inl (some (51))))], 0, 0, ix_mem 276 I8 J8 T8)) rfl ⟨rfl, rfl⟩ ?_
        refine ix_sp rfl ⟨rfl, ⟨ix_lt rfl, ix_eq rfl, ix_lt rfl⟩, ix_le rfl, Nat.le_refl _, Nat.le_refl _, tp_X8_addReserve h10 (fun I12 J12 T12 h12 => ?_)⟩
        change ix_W _ _ _ (72, [some (.inr (.inr (.inl (some (0))))), some (.inl (a0)), some (.inl (a1)), some (.inl (a2)), some (.inl (a3)), some (.inl (a4))], [], 0, 0, ix_mem 276 I12 J12 T12)
        refine ix_go 1 (x' := (73, [some (.inr (.inr (.inl (some (0))))), some (.inl (a0)), some (.inl (a1)), some (.inl (a2)), some (.inl (a3)), some (.inl (a4))], [.inr (.inr (.inl (some (0))))], 0, 0, ix_mem 276 I12 J12 T12)) rfl trivial ?_
        refine ix_sp rfl ⟨rfl, ⟨ix_lt rfl, ix_eq rfl, ix_lt rfl⟩, ix_le rfl, Nat.le_refl _, Nat.le_refl _, tp_X11_accepted h12 (fun v13 I13 J13 T13 h13 => ?_)⟩
        change ix_W _ _ _ (76, [some (.inr (.inr (.inl (some (0))))), some (.inl (a0)), some (.inl (a1)), some (.inl (a2)), some (.inl (a3)), some (.inl (a4))], [.inl (v13)], 0, 0, ix_mem 276 I13 J13 T13)
        exact ix_sp rfl ⟨Nat.le_refl _, Nat.le_refl _, ix_01_ok h13.1, hQ _ _ _ _ h13.2⟩
    · have h7 := h5.2 c6
      refine ix_go 2 (x' := (30, [some (.inr (.inr (.inl (some (0))))), some (.inl (a0)), some (.inl (a1)), some (.inl (a2)), some (.inl (a3)), some (.inl (a4))], [.inl ((4 : Int32)), .inr (.inr (.inl (some (0))))], 0, 0, ix_mem 276 I5 J5 T5)) rfl trivial ?_
      refine ix_sp rfl ⟨rfl, ⟨ix_lt rfl, ix_eq rfl, ix_lt rfl⟩, ix_le rfl, Nat.le_refl _, Nat.le_refl _, tp_X11_refused h7 (fun v14 I14 J14 T14 h14 => ?_)⟩
      change ix_W _ _ _ (33, [some (.inr (.inr (.inl (some (0))))), some (.inl (a0)), some (.inl (a1)), some (.inl (a2)), some (.inl (a3)), some (.inl (a4))], [.inl (v14)], 0, 0, ix_mem 276 I14 J14 T14)
      exact ix_sp rfl ⟨Nat.le_refl _, Nat.le_refl _, ix_01_ok h14.1, hQ _ _ _ _ h14.2⟩
def wp_X11_isOut (a0 : Int32) (a1 : Int32) (a2 : Int32) (a3 : Int32) (I : Nat → Nat → Int32) (J : Nat → Nat → Int64) (T : Option Nat) (P : Int32 → (Nat → Nat → Int32) → (Nat → Nat → Int64) → Option Nat → Prop) : Prop := wp_X11_isReserve (a0) (a1) (a2) (a3) I J T (fun v1 I1 J1 T1 => ((v1 = 0 → wp_X11_refuse ((1 : Int32)) I1 J1 T1 (fun v4 I4 J4 T4 => P (v4) I4 J4 T4)) ∧ (¬ (v1 = 0) → wp_X8_isOutOf (a0) (a1) (a2) (a3) (ix_u2 I1 0 0 ((0 : Int32))) J1 T1 (fun v5 I5 J5 T5 => ((v5 = 0 → P ((0 : Int32)) I5 J5 T5) ∧ (¬ (v5 = 0) → P ((1 : Int32)) I5 J5 T5))))))
set_option maxRecDepth 20000 in
theorem tp_X11_isOut {d : Nat} {a0 : Int32} {a1 : Int32} {a2 : Int32} {a3 : Int32} {I : Nat → Nat → Int32} {J : Nat → Nat → Int64} {T : Option Nat} {P : Int32 → (Nat → Nat → Int32) → (Nat → Nat → Int64) → Option Nat → Prop} {Q : ix_Q} (h : wp_X11_isOut a0 a1 a2 a3 I J T P) (hQ : ∀ v I J T, P v I J T → Q (some (.inl v)) (ix_mem 276 I J T)) : ix_C (d + 4) 184 [.inr (.inr (.inl (some (0)))), .inl (a0), .inl (a1), .inl (a2), .inl (a3)] (ix_mem 276 I J T) Q := by
  unfold wp_X11_isOut at h
  refine ix_enter (ls := [some (.inr (.inr (.inl (some (0))))), some (.inl (a0)), some (.inl (a1)), some (.inl (a2)), some (.inl (a3))]) rfl rfl rfl (Nat.le_of_ble_eq_true rfl) ?_
  refine ix_go 5 (x' := (6, [some (.inr (.inr (.inl (some (0))))), some (.inl (a0)), some (.inl (a1)), some (.inl (a2)), some (.inl (a3))], [.inl (a3), .inl (a2), .inl (a1), .inl (a0), .inr (.inr (.inl (some (0))))], 0, 0, ix_mem 276 I J T)) rfl trivial ?_
  refine ix_sp rfl ⟨rfl, ⟨ix_lt rfl, ix_eq rfl, ix_lt rfl⟩, ix_le rfl, Nat.le_refl _, Nat.le_refl _, tp_X11_isReserve h (fun v1 I1 J1 T1 h1 => ?_)⟩
  change ix_W _ _ _ (9, [some (.inr (.inr (.inl (some (0))))), some (.inl (a0)), some (.inl (a1)), some (.inl (a2)), some (.inl (a3))], [.inl (v1)], 0, 0, ix_mem 276 I1 J1 T1)
  refine ix_go 1 (x' := (if v1 = 0 then 12 else 18, [some (.inr (.inr (.inl (some (0))))), some (.inl (a0)), some (.inl (a1)), some (.inl (a2)), some (.inl (a3))], [], 0, 0, ix_mem 276 I1 J1 T1)) rfl trivial ?_
  refine ix_br (fun c2 => ?_) (fun c2 => ?_)
  · have h3 := h1.1 c2
    refine ix_go 2 (x' := (14, [some (.inr (.inr (.inl (some (0))))), some (.inl (a0)), some (.inl (a1)), some (.inl (a2)), some (.inl (a3))], [.inl ((1 : Int32)), .inr (.inr (.inl (some (0))))], 0, 0, ix_mem 276 I1 J1 T1)) rfl trivial ?_
    refine ix_sp rfl ⟨rfl, ⟨ix_lt rfl, ix_eq rfl, ix_lt rfl⟩, ix_le rfl, Nat.le_refl _, Nat.le_refl _, tp_X11_refuse h3 (fun v4 I4 J4 T4 h4 => ?_)⟩
    change ix_W _ _ _ (17, [some (.inr (.inr (.inl (some (0))))), some (.inl (a0)), some (.inl (a1)), some (.inl (a2)), some (.inl (a3))], [.inl (v4)], 0, 0, ix_mem 276 I4 J4 T4)
    exact ix_sp rfl ⟨Nat.le_refl _, Nat.le_refl _, trivial, hQ _ _ _ _ h4⟩
  · have h3 := h1.2 c2
    refine ix_go 9 (x' := (32, [some (.inr (.inr (.inl (some (0))))), some (.inl (a0)), some (.inl (a1)), some (.inl (a2)), some (.inl (a3))], [.inl (a3), .inl (a2), .inl (a1), .inl (a0), .inr (.inr (.inl (some (51))))], 0, 0, ix_mem 276 (ix_u2 I1 0 0 ((0 : Int32))) J1 T1)) rfl ⟨rfl, rfl, rfl, rfl⟩ ?_
    refine ix_sp rfl ⟨rfl, ⟨ix_lt rfl, ix_eq rfl, ix_lt rfl⟩, ix_le rfl, Nat.le_refl _, Nat.le_refl _, tp_X8_isOutOf h3 (fun v5 I5 J5 T5 h5 => ?_)⟩
    change ix_W _ _ _ (35, [some (.inr (.inr (.inl (some (0))))), some (.inl (a0)), some (.inl (a1)), some (.inl (a2)), some (.inl (a3))], [.inl (v5)], 0, 0, ix_mem 276 I5 J5 T5)
    refine ix_go 1 (x' := (if v5 = 0 then 42 else 38, [some (.inr (.inr (.inl (some (0))))), some (.inl (a0)), some (.inl (a1)), some (.inl (a2)), some (.inl (a3))], [], 0, 0, ix_mem 276 I5 J5 T5)) rfl trivial ?_
    refine ix_br (fun c6 => ?_) (fun c6 => ?_)
    · have h7 := h5.1 c6
      refine ix_go 1 (x' := (43, [some (.inr (.inr (.inl (some (0))))), some (.inl (a0)), some (.inl (a1)), some (.inl (a2)), some (.inl (a3))], [.inl ((0 : Int32))], 0, 0, ix_mem 276 I5 J5 T5)) rfl trivial ?_
      exact ix_sp rfl ⟨Nat.le_refl _, Nat.le_refl _, trivial, hQ _ _ _ _ h7⟩
    · have h7 := h5.2 c6
      refine ix_go 2 (x' := (43, [some (.inr (.inr (.inl (some (0))))), some (.inl (a0)), some (.inl (a1)), some (.inl (a2)), some (.inl (a3))], [.inl ((1 : Int32))], 0, 0, ix_mem 276 I5 J5 T5)) rfl trivial ?_
      exact ix_sp rfl ⟨Nat.le_refl _, Nat.le_refl _, trivial, hQ _ _ _ _ h7⟩
def wp_X11_isMail (a0 : Int32) (a1 : Int32) (a2 : Int32) (a3 : Int32) (a4 : Int32) (a5 : Int32) (I : Nat → Nat → Int32) (J : Nat → Nat → Int64) (T : Option Nat) (P : Int32 → (Nat → Nat → Int32) → (Nat → Nat → Int64) → Option Nat → Prop) : Prop := wp_X11_isPair (a0) (a1) I J T (fun v1 I1 J1 T1 => ((v1 = 0 → P ((0 : Int32)) I1 J1 T1) ∧ (¬ (v1 = 0) → wp_X11_outside ((a2).toInt64) ((0 : Int64)) ((3 : Int64)) I1 J1 T1 (fun v4 I4 J4 T4 => ((v4 = 0 → wp_X11_outside ((a3).toInt64) ((1 : Int64)) ((1000000000 : Int64)) I4 J4 T4 (fun v7 I7 J7 T7 => ((v7 = 0 → wp_X11_outside ((a4).toInt64) ((1 : Int64)) ((1000000 : Int64)) I7 J7 T7 (fun v10 I10 J10 T10 => ((v10 = 0 → wp_X11_isDay (a5) I10 J10 T10 (fun v13 I13 J13 T13 => ((v13 = 0 → P ((0 : Int32)) I13 J13 T13) ∧ (¬ (v13 = 0) → P ((1 : Int32)) I13 J13 T13)))) ∧ (¬ (v10 = 0) → P ((0 : Int32)) I10 J10 T10)))) ∧ (¬ (v7 = 0) → P ((0 : Int32)) I7 J7 T7)))) ∧ (¬ (v4 = 0) → P ((0 : Int32)) I4 J4 T4))))))
set_option maxRecDepth 20000 in
theorem tp_X11_isMail {d : Nat} {a0 : Int32} {a1 : Int32} {a2 : Int32} {a3 : Int32} {a4 : Int32} {a5 : Int32} {I : Nat → Nat → Int32} {J : Nat → Nat → Int64} {T : Option Nat} {P : Int32 → (Nat → Nat → Int32) → (Nat → Nat → Int64) → Option Nat → Prop} {Q : ix_Q} (h : wp_X11_isMail a0 a1 a2 a3 a4 a5 I J T P) (hQ : ∀ v I J T, P v I J T → Q (some (.inl v)) (ix_mem 276 I J T)) : ix_C (d + 4) 185 [.inr (.inr (.inl (some (0)))), .inl (a0), .inl (a1), .inl (a2), .inl (a3), .inl (a4), .inl (a5)] (ix_mem 276 I J T) Q := by
  unfold wp_X11_isMail at h
  refine ix_enter (ls := [some (.inr (.inr (.inl (some (0))))), some (.inl (a0)), some (.inl (a1)), some (.inl (a2)), some (.inl (a3)), some (.inl (a4)), some (.inl (a5))]) rfl rfl rfl (Nat.le_of_ble_eq_true rfl) ?_
  refine ix_go 3 (x' := (3, [some (.inr (.inr (.inl (some (0))))), some (.inl (a0)), some (.inl (a1)), some (.inl (a2)), some (.inl (a3)), some (.inl (a4)), some (.inl (a5))], [.inl (a1), .inl (a0), .inr (.inr (.inl (some (0))))], 0, 0, ix_mem 276 I J T)) rfl trivial ?_
  refine ix_sp rfl ⟨rfl, ⟨ix_lt rfl, ix_eq rfl, ix_lt rfl⟩, ix_le rfl, Nat.le_refl _, Nat.le_refl _, tp_X11_isPair h (fun v1 I1 J1 T1 h1 => ?_)⟩
  change ix_W _ _ _ (6, [some (.inr (.inr (.inl (some (0))))), some (.inl (a0)), some (.inl (a1)), some (.inl (a2)), some (.inl (a3)), some (.inl (a4)), some (.inl (a5))], [.inl (v1)], 0, 0, ix_mem 276 I1 J1 T1)
  refine ix_go 1 (x' := (if v1 = 0 then 59 else 9, [some (.inr (.inr (.inl (some (0))))), some (.inl (a0)), some (.inl (a1)), some (.inl (a2)), some (.inl (a3)), some (.inl (a4)), some (.inl (a5))], [], 0, 0, ix_mem 276 I1 J1 T1)) rfl trivial ?_
  refine ix_br (fun c2 => ?_) (fun c2 => ?_)
  · have h3 := h1.1 c2
    refine ix_go 1 (x' := (60, [some (.inr (.inr (.inl (some (0))))), some (.inl (a0)), some (.inl (a1)), some (.inl (a2)), some (.inl (a3)), some (.inl (a4)), some (.inl (a5))], [.inl ((0 : Int32))], 0, 0, ix_mem 276 I1 J1 T1)) rfl trivial ?_
    exact ix_sp rfl ⟨Nat.le_refl _, Nat.le_refl _, ix_01_ok rfl, hQ _ _ _ _ h3⟩
  · have h3 := h1.2 c2
    refine ix_go 4 (x' := (15, [some (.inr (.inr (.inl (some (0))))), some (.inl (a0)), some (.inl (a1)), some (.inl (a2)), some (.inl (a3)), some (.inl (a4)), some (.inl (a5))], [.inr (.inl ((3 : Int64))), .inr (.inl ((0 : Int64))), .inr (.inl ((a2).toInt64))], 0, 0, ix_mem 276 I1 J1 T1)) rfl trivial ?_
    refine ix_sp rfl ⟨rfl, trivial, ix_le rfl, Nat.le_refl _, Nat.le_refl _, tp_X11_outside h3 (fun v4 I4 J4 T4 h4 => ?_)⟩
    change ix_W _ _ _ (18, [some (.inr (.inr (.inl (some (0))))), some (.inl (a0)), some (.inl (a1)), some (.inl (a2)), some (.inl (a3)), some (.inl (a4)), some (.inl (a5))], [.inl (v4)], 0, 0, ix_mem 276 I4 J4 T4)
    refine ix_go 1 (x' := (if v4 = 0 then 21 else 59, [some (.inr (.inr (.inl (some (0))))), some (.inl (a0)), some (.inl (a1)), some (.inl (a2)), some (.inl (a3)), some (.inl (a4)), some (.inl (a5))], [], 0, 0, ix_mem 276 I4 J4 T4)) rfl trivial ?_
    refine ix_br (fun c5 => ?_) (fun c5 => ?_)
    · have h6 := h4.1 c5
      refine ix_go 4 (x' := (28, [some (.inr (.inr (.inl (some (0))))), some (.inl (a0)), some (.inl (a1)), some (.inl (a2)), some (.inl (a3)), some (.inl (a4)), some (.inl (a5))], [.inr (.inl ((1000000000 : Int64))), .inr (.inl ((1 : Int64))), .inr (.inl ((a3).toInt64))], 0, 0, ix_mem 276 I4 J4 T4)) rfl trivial ?_
      refine ix_sp rfl ⟨rfl, trivial, ix_le rfl, Nat.le_refl _, Nat.le_refl _, tp_X11_outside h6 (fun v7 I7 J7 T7 h7 => ?_)⟩
      change ix_W _ _ _ (31, [some (.inr (.inr (.inl (some (0))))), some (.inl (a0)), some (.inl (a1)), some (.inl (a2)), some (.inl (a3)), some (.inl (a4)), some (.inl (a5))], [.inl (v7)], 0, 0, ix_mem 276 I7 J7 T7)
      refine ix_go 1 (x' := (if v7 = 0 then 34 else 59, [some (.inr (.inr (.inl (some (0))))), some (.inl (a0)), some (.inl (a1)), some (.inl (a2)), some (.inl (a3)), some (.inl (a4)), some (.inl (a5))], [], 0, 0, ix_mem 276 I7 J7 T7)) rfl trivial ?_
      refine ix_br (fun c8 => ?_) (fun c8 => ?_)
      · have h9 := h7.1 c8
        refine ix_go 4 (x' := (41, [some (.inr (.inr (.inl (some (0))))), some (.inl (a0)), some (.inl (a1)), some (.inl (a2)), some (.inl (a3)), some (.inl (a4)), some (.inl (a5))], [.inr (.inl ((1000000 : Int64))), .inr (.inl ((1 : Int64))), .inr (.inl ((a4).toInt64))], 0, 0, ix_mem 276 I7 J7 T7)) rfl trivial ?_
        refine ix_sp rfl ⟨rfl, trivial, ix_le rfl, Nat.le_refl _, Nat.le_refl _, tp_X11_outside h9 (fun v10 I10 J10 T10 h10 => ?_)⟩
        change ix_W _ _ _ (44, [some (.inr (.inr (.inl (some (0))))), some (.inl (a0)), some (.inl (a1)), some (.inl (a2)), some (.inl (a3)), some (.inl (a4)), some (.inl (a5))], [.inl (v10)], 0, 0, ix_mem 276 I10 J10 T10)
        refine ix_go 1 (x' := (if v10 = 0 then 47 else 59, [some (.inr (.inr (.inl (some (0))))), some (.inl (a0)), some (.inl (a1)), some (.inl (a2)), some (.inl (a3)), some (.inl (a4)), some (.inl (a5))], [], 0, 0, ix_mem 276 I10 J10 T10)) rfl trivial ?_
        refine ix_br (fun c11 => ?_) (fun c11 => ?_)
        · have h12 := h10.1 c11
          refine ix_go 1 (x' := (49, [some (.inr (.inr (.inl (some (0))))), some (.inl (a0)), some (.inl (a1)), some (.inl (a2)), some (.inl (a3)), some (.inl (a4)), some (.inl (a5))], [.inl (a5)], 0, 0, ix_mem 276 I10 J10 T10)) rfl trivial ?_
          refine ix_sp rfl ⟨rfl, trivial, ix_le rfl, Nat.le_refl _, Nat.le_refl _, tp_X11_isDay h12 (fun v13 I13 J13 T13 h13 => ?_)⟩
          change ix_W _ _ _ (52, [some (.inr (.inr (.inl (some (0))))), some (.inl (a0)), some (.inl (a1)), some (.inl (a2)), some (.inl (a3)), some (.inl (a4)), some (.inl (a5))], [.inl (v13)], 0, 0, ix_mem 276 I13 J13 T13)
          refine ix_go 1 (x' := (if v13 = 0 then 59 else 55, [some (.inr (.inr (.inl (some (0))))), some (.inl (a0)), some (.inl (a1)), some (.inl (a2)), some (.inl (a3)), some (.inl (a4)), some (.inl (a5))], [], 0, 0, ix_mem 276 I13 J13 T13)) rfl trivial ?_
          refine ix_br (fun c14 => ?_) (fun c14 => ?_)
          · have h15 := h13.1 c14
            refine ix_go 1 (x' := (60, [some (.inr (.inr (.inl (some (0))))), some (.inl (a0)), some (.inl (a1)), some (.inl (a2)), some (.inl (a3)), some (.inl (a4)), some (.inl (a5))], [.inl ((0 : Int32))], 0, 0, ix_mem 276 I13 J13 T13)) rfl trivial ?_
            exact ix_sp rfl ⟨Nat.le_refl _, Nat.le_refl _, ix_01_ok rfl, hQ _ _ _ _ h15⟩
          · have h15 := h13.2 c14
            refine ix_go 2 (x' := (60, [some (.inr (.inr (.inl (some (0))))), some (.inl (a0)), some (.inl (a1)), some (.inl (a2)), some (.inl (a3)), some (.inl (a4)), some (.inl (a5))], [.inl ((1 : Int32))], 0, 0, ix_mem 276 I13 J13 T13)) rfl trivial ?_
            exact ix_sp rfl ⟨Nat.le_refl _, Nat.le_refl _, ix_01_ok rfl, hQ _ _ _ _ h15⟩
        · have h12 := h10.2 c11
          refine ix_go 1 (x' := (60, [some (.inr (.inr (.inl (some (0))))), some (.inl (a0)), some (.inl (a1)), some (.inl (a2)), some (.inl (a3)), some (.inl (a4)), some (.inl (a5))], [.inl ((0 : Int32))], 0, 0, ix_mem 276 I10 J10 T10)) rfl trivial ?_
          exact ix_sp rfl ⟨Nat.le_refl _, Nat.le_refl _, ix_01_ok rfl, hQ _ _ _ _ h12⟩
      · have h9 := h7.2 c8
        refine ix_go 1 (x' := (60, [some (.inr (.inr (.inl (some (0))))), some (.inl (a0)), some (.inl (a1)), some (.inl (a2)), some (.inl (a3)), some (.inl (a4)), some (.inl (a5))], [.inl ((0 : Int32))], 0, 0, ix_mem 276 I7 J7 T7)) rfl trivial ?_
        exact ix_sp rfl ⟨Nat.le_refl _, Nat.le_refl _, ix_01_ok rfl, hQ _ _ _ _ h9⟩
    · have h6 := h4.2 c5
      refine ix_go 1 (x' := (60, [some (.inr (.inr (.inl (some (0))))), some (.inl (a0)), some (.inl (a1)), some (.inl (a2)), some (.inl (a3)), some (.inl (a4)), some (.inl (a5))], [.inl ((0 : Int32))], 0, 0, ix_mem 276 I4 J4 T4)) rfl trivial ?_
      exact ix_sp rfl ⟨Nat.le_refl _, Nat.le_refl _, ix_01_ok rfl, hQ _ _ _ _ h6⟩
def wp_X11_due (a0 : Int32) (a1 : Int32) (a2 : Int32) (a3 : Int32) (a4 : Int32) (a5 : Int32) (a6 : Int32) (I : Nat → Nat → Int32) (J : Nat → Nat → Int64) (T : Option Nat) (P : Int64 → (Nat → Nat → Int32) → (Nat → Nat → Int64) → Option Nat → Prop) : Prop := wp_X11_isMail (a0) (a1) (a2) (a3) (a4) (a5) I J T (fun v1 I1 J1 T1 => ((v1 = 0 → wp_X11_refuse ((1 : Int32)) I1 J1 T1 (fun v4 I4 J4 T4 => P ((v4).toInt64) I4 J4 T4)) ∧ (¬ (v1 = 0) → wp_X11_outside ((a6).toInt64) ((0 : Int64)) ((3 : Int64)) I1 J1 T1 (fun v5 I5 J5 T5 => ((v5 = 0 → wp_X6_become (a0) (a1) (a2) (a3) (a4) (a5) I5 J5 T5 (fun I8 J8 T8 => wp_X6_goOver (a6) ((-1 : Int32)) I8 J8 T8 (fun I9 J9 T9 => wp_X8_charge ((0 : Int32)) (ix_u2 I9 0 0 ((0 : Int32))) J9 T9 (fun v10 I10 J10 T10 => P (v10) I10 J10 T10)))) ∧ (¬ (v5 = 0) → wp_X11_refuse ((1 : Int32)) I5 J5 T5 (fun v11 I11 J11 T11 => P ((v11).toInt64) I11 J11 T11)))))))
set_option maxRecDepth 20000 in
theorem tp_X11_due {d : Nat} {a0 : Int32} {a1 : Int32} {a2 : Int32} {a3 : Int32} {a4 : Int32} {a5 : Int32} {a6 : Int32} {I : Nat → Nat → Int32} {J : Nat → Nat → Int64} {T : Option Nat} {P : Int64 → (Nat → Nat → Int32) → (Nat → Nat → Int64) → Option Nat → Prop} {Q : ix_Q} (h : wp_X11_due a0 a1 a2 a3 a4 a5 a6 I J T P) (hQ : ∀ v I J T, P v I J T → Q (some (.inr (.inl v))) (ix_mem 276 I J T)) : ix_C (d + 6) 186 [.inr (.inr (.inl (some (0)))), .inl (a0), .inl (a1), .inl (a2), .inl (a3), .inl (a4), .inl (a5), .inl (a6)] (ix_mem 276 I J T) Q := by
  unfold wp_X11_due at h
  refine ix_enter (ls := [some (.inr (.inr (.inl (some (0))))), some (.inl (a0)), some (.inl (a1)), some (.inl (a2)), some (.inl (a3)), some (.inl (a4)), some (.inl (a5)), some (.inl (a6))]) rfl rfl rfl (Nat.le_of_ble_eq_true rfl) ?_
  refine ix_go 7 (x' := (10, [some (.inr (.inr (.inl (some (0))))), some (.inl (a0)), some (.inl (a1)), some (.inl (a2)), some (.inl (a3)), some (.inl (a4)), some (.inl (a5)), some (.inl (a6))], [.inl (a5), .inl (a4), .inl (a3), .inl (a2), .inl (a1), .inl (a0), .inr (.inr (.inl (some (0))))], 0, 0, ix_mem 276 I J T)) rfl trivial ?_
  refine ix_sp rfl ⟨rfl, ⟨ix_lt rfl, ix_eq rfl, ix_lt rfl⟩, ix_le rfl, Nat.le_refl _, Nat.le_refl _, tp_X11_isMail h (fun v1 I1 J1 T1 h1 => ?_)⟩
  change ix_W _ _ _ (13, [some (.inr (.inr (.inl (some (0))))), some (.inl (a0)), some (.inl (a1)), some (.inl (a2)), some (.inl (a3)), some (.inl (a4)), some (.inl (a5)), some (.inl (a6))], [.inl (v1)], 0, 0, ix_mem 276 I1 J1 T1)
  refine ix_go 1 (x' := (if v1 = 0 then 29 else 16, [some (.inr (.inr (.inl (some (0))))), some (.inl (a0)), some (.inl (a1)), some (.inl (a2)), some (.inl (a3)), some (.inl (a4)), some (.inl (a5)), some (.inl (a6))], [], 0, 0, ix_mem 276 I1 J1 T1)) rfl trivial ?_
  refine ix_br (fun c2 => ?_) (fun c2 => ?_)
  · have h3 := h1.1 c2
    refine ix_go 2 (x' := (31, [some (.inr (.inr (.inl (some (0))))), some (.inl (a0)), some (.inl (a1)), some (.inl (a2)), some (.inl (a3)), some (.inl (a4)), some (.inl (a5)), some (.inl (a6))], [.inl ((1 : Int32)), .inr (.inr (.inl (some (0))))], 0, 0, ix_mem 276 I1 J1 T1)) rfl trivial ?_
    refine ix_sp rfl ⟨rfl, ⟨ix_lt rfl, ix_eq rfl, ix_lt rfl⟩, ix_le rfl, Nat.le_refl _, Nat.le_refl _, tp_X11_refuse h3 (fun v4 I4 J4 T4 h4 => ?_)⟩
    change ix_W _ _ _ (34, [some (.inr (.inr (.inl (some (0))))), some (.inl (a0)), some (.inl (a1)), some (.inl (a2)), some (.inl (a3)), some (.inl (a4)), some (.inl (a5)), some (.inl (a6))], [.inl (v4)], 0, 0, ix_mem 276 I4 J4 T4)
    refine ix_go 1 (x' := (35, [some (.inr (.inr (.inl (some (0))))), some (.inl (a0)), some (.inl (a1)), some (.inl (a2)), some (.inl (a3)), some (.inl (a4)), some (.inl (a5)), some (.inl (a6))], [.inr (.inl ((v4).toInt64))], 0, 0, ix_mem 276 I4 J4 T4)) rfl trivial ?_
    exact ix_sp rfl ⟨Nat.le_refl _, Nat.le_refl _, rfl, hQ _ _ _ _ h4⟩
  · have h3 := h1.2 c2
    refine ix_go 4 (x' := (23, [some (.inr (.inr (.inl (some (0))))), some (.inl (a0)), some (.inl (a1)), some (.inl (a2)), some (.inl (a3)), some (.inl (a4)), some (.inl (a5)), some (.inl (a6))], [.inr (.inl ((3 : Int64))), .inr (.inl ((0 : Int64))), .inr (.inl ((a6).toInt64))], 0, 0, ix_mem 276 I1 J1 T1)) rfl trivial ?_
    refine ix_sp rfl ⟨rfl, trivial, ix_le rfl, Nat.le_refl _, Nat.le_refl _, tp_X11_outside h3 (fun v5 I5 J5 T5 h5 => ?_)⟩
    change ix_W _ _ _ (26, [some (.inr (.inr (.inl (some (0))))), some (.inl (a0)), some (.inl (a1)), some (.inl (a2)), some (.inl (a3)), some (.inl (a4)), some (.inl (a5)), some (.inl (a6))], [.inl (v5)], 0, 0, ix_mem 276 I5 J5 T5)
    refine ix_go 1 (x' := (if v5 = 0 then 36 else 29, [some (.inr (.inr (.inl (some (0))))), some (.inl (a0)), some (.inl (a1)), some (.inl (a2)), some (.inl (a3)), some (.inl (a4)), some (.inl (a5)), some (.inl (a6))], [], 0, 0, ix_mem 276 I5 J5 T5)) rfl trivial ?_
    refine ix_br (fun c6 => ?_) (fun c6 => ?_)
    · have h7 := h5.1 c6
      refine ix_go 7 (x' := (47, [some (.inr (.inr (.inl (some (0))))), some (.inl (a0)), some (.inl (a1)), some (.inl (a2)), some (.inl (a3)), some (.inl (a4)), some (.inl (a5)), some (.inl (a6))], [.inl (a4), .inl (a3), .inl (a2), .inl (a1), .inl (a0), .inr (.inr (.inl (some (95))))], 0, 0, ix_mem 276 I5 J5 T5)) rfl ⟨rfl, rfl⟩ ?_
      refine ix_go 1 (x' := (49, [some (.inr (.inr (.inl (some (0))))), some (.inl (a0)), some (.inl (a1)), some (.inl (a2)), some (.inl (a3)), some (.inl (a4)), some (.inl (a5)), some (.inl (a6))], [.inl (a5), .inl (a4), .inl (a3), .inl (a2), .inl (a1), .inl (a0), .inr (.inr (.inl (some (95))))], 0, 0, ix_mem 276 I5 J5 T5)) rfl trivial ?_
      refine ix_sp rfl ⟨rfl, ⟨ix_lt rfl, ix_eq rfl, ix_lt rfl⟩, ix_le rfl, Nat.le_refl _, Nat.le_refl _, tp_X6_become h7 (fun I8 J8 T8 h8 => ?_)⟩
      change ix_W _ _ _ (52, [some (.inr (.inr (.inl (some (0))))), some (.inl (a0)), some (.inl (a1)), some (.inl (a2)), some (.inl (a3)), some (.inl (a4)), some (.inl (a5)), some (.inl (a6))], [], 0, 0, ix_mem 276 I8 J8 T8)
      refine ix_go 4 (x' := (59, [some (.inr (.inr (.inl (some (0))))), some (.inl (a0)), some (.inl (a1)), some (.inl (a2)), some (.inl (a3)), some (.inl (a4)), some (.inl (a5)), some (.inl (a6))], [.inl ((-1 : Int32)), .inl (a6), .inr (.inr (.inl (some (95))))], 0, 0, ix_mem 276 I8 J8 T8)) rfl ⟨rfl, rfl⟩ ?_
      refine ix_sp rfl ⟨rfl, ⟨ix_lt rfl, ix_eq rfl, ix_lt rfl⟩, ix_le rfl, Nat.le_refl _, Nat.le_refl _, tp_X6_goOver h8 (fun I9 J9 T9 h9 => ?_)⟩
      change ix_W _ _ _ (62, [some (.inr (.inr (.inl (some (0))))), some (.inl (a0)), some (.inl (a1)), some (.inl (a2)), some (.inl (a3)), some (.inl (a4)), some (.inl (a5)), some (.inl (a6))], [], 0, 0, ix_mem 276 I9 J9 T9)
      refine ix_go 7 (x' := (73, [some (.inr (.inr (.inl (some (0))))), some (.inl (a0)), some (.inl (a1)), some (.inl (a2)), some (.inl (a3)), some (.inl (a4)), some (.inl (a5)), some (.inl (a6))], [.inr (.inr (.inl (some (0)))), .inl ((0 : Int32)), .inr (.inr (.inl (some (51))))], 0, 0, ix_mem 276 (ix_u2 I9 0 0 ((0 : Int32))) J9 T9)) rfl ⟨rfl, rfl, rfl, rfl⟩ ?_
      refine ix_go 1 (x' := (76, [some (.inr (.inr (.inl (some (0))))), some (.inl (a0)), some (.inl (a1)), some (.inl (a2)), some (.inl (a3)), some (.inl (a4)), some (.inl (a5)), some (.inl (a6))], [.inr (.inr (.inl (some (95)))), .inl ((0 : Int32)), .inr (.inr (.inl (some (51))))], 0, 0, ix_mem 276 (ix_u2 I9 0 0 ((0 : Int32))) J9 T9)) rfl ⟨rfl, rfl⟩ ?_
      refine ix_sp rfl ⟨rfl, ⟨ix_lt rfl, ix_eq rfl, ix_lt rfl⟩, ix_le rfl, Nat.le_refl _, Nat.le_refl _, tp_X8_charge h9 (fun v10 I10 J10 T10 h10 => ?_)⟩
      change ix_W _ _ _ (79, [some (.inr (.inr (.inl (some (0))))), some (.inl (a0)), some (.inl (a1)), some (.inl (a2)), some (.inl (a3)), some (.inl (a4)), some (.inl (a5)), some (.inl (a6))], [.inr (.inl (v10))], 0, 0, ix_mem 276 I10 J10 T10)
      exact ix_sp rfl ⟨Nat.le_refl _, Nat.le_refl _, rfl, hQ _ _ _ _ h10⟩
    · have h7 := h5.2 c6
      refine ix_go 2 (x' := (31, [some (.inr (.inr (.inl (some (0))))), some (.inl (a0)), some (.inl (a1)), some (.inl (a2)), some (.inl (a3)), some (.inl (a4)), some (.inl (a5)), some (.inl (a6))], [.inl ((1 : Int32)), .inr (.inr (.inl (some (0))))], 0, 0, ix_mem 276 I5 J5 T5)) rfl trivial ?_
      refine ix_sp rfl ⟨rfl, ⟨ix_lt rfl, ix_eq rfl, ix_lt rfl⟩, ix_le rfl, Nat.le_refl _, Nat.le_refl _, tp_X11_refuse h7 (fun v11 I11 J11 T11 h11 => ?_)⟩
      change ix_W _ _ _ (34, [some (.inr (.inr (.inl (some (0))))), some (.inl (a0)), some (.inl (a1)), some (.inl (a2)), some (.inl (a3)), some (.inl (a4)), some (.inl (a5)), some (.inl (a6))], [.inl (v11)], 0, 0, ix_mem 276 I11 J11 T11)
      refine ix_go 1 (x' := (35, [some (.inr (.inr (.inl (some (0))))), some (.inl (a0)), some (.inl (a1)), some (.inl (a2)), some (.inl (a3)), some (.inl (a4)), some (.inl (a5)), some (.inl (a6))], [.inr (.inl ((v11).toInt64))], 0, 0, ix_mem 276 I11 J11 T11)) rfl trivial ?_
      exact ix_sp rfl ⟨Nat.le_refl _, Nat.le_refl _, rfl, hQ _ _ _ _ h11⟩
