def wp_X11_dueBy (a0 : Int32) (a1 : Int32) (a2 : Int32) (a3 : Int32) (a4 : Int32) (a5 : Int32) (a6 : Int32) (I : Nat → Nat → Int32) (J : Nat → Nat → Int64) (T : Option Nat) (P : Int32 → (Nat → Nat → Int32) → (Nat → Nat → Int64) → Option Nat → Prop) : Prop := wp_X11_isMail (a0) (a1) (a2) (a3) (a4) (a5) I J T (fun v1 I1 J1 T1 => ((v1 = 0 → wp_X11_refuse ((1 : Int32)) I1 J1 T1 (fun v4 I4 J4 T4 => P (v4) I4 J4 T4)) ∧ (¬ (v1 = 0) → wp_X11_outside ((a6).toInt64) ((0 : Int64)) ((3 : Int64)) I1 J1 T1 (fun v5 I5 J5 T5 => ((v5 = 0 → wp_X6_become (a0) (a1) (a2) (a3) (a4) (a5) I5 J5 T5 (fun I8 J8 T8 => wp_X6_goOver (a6) ((-1 : Int32)) I8 J8 T8 (fun I9 J9 T9 => wp_X8_clauseFor ((0 : Int32)) I9 J9 T9 (fun v10 I10 J10 T10 => wp_X11_answerOrNoneSuch (v10) I10 J10 T10 (fun v11 I11 J11 T11 => P (v11) I11 J11 T11))))) ∧ (¬ (v5 = 0) → wp_X11_refuse ((1 : Int32)) I5 J5 T5 (fun v12 I12 J12 T12 => P (v12) I12 J12 T12)))))))
set_option maxRecDepth 20000 in
theorem tp_X11_dueBy {d : Nat} {a0 : Int32} {a1 : Int32} {a2 : Int32} {a3 : Int32} {a4 : Int32} {a5 : Int32} {a6 : Int32} {I : Nat → Nat → Int32} {J : Nat → Nat → Int64} {T : Option Nat} {P : Int32 → (Nat → Nat → Int32) → (Nat → Nat → Int64) → Option Nat → Prop} {Q : ix_Q} (h : wp_X11_dueBy a0 a1 a2 a3 a4 a5 a6 I J T P) (hQ : ∀ v I J T, P v I J T → Q (some (.inl v)) (ix_mem 276 I J T)) : ix_C (d + 5) 187 [.inr (.inr (.inl (some (0)))), .inl (a0), .inl (a1), .inl (a2), .inl (a3), .inl (a4), .inl (a5), .inl (a6)] (ix_mem 276 I J T) Q := by
  unfold wp_X11_dueBy at h
  refine ix_enter (ls := [some (.inr (.inr (.inl (some (0))))), some (.inl (a0)), some (.inl (a1)), some (.inl (a2)), some (.inl (a3)), some (.inl (a4)), some (.inl (a5)), some (.inl (a6))]) rfl rfl rfl (Nat.le_of_ble_eq_true rfl) ?_
  refine ix_go 7 (x' := (10, [some (.inr (.inr (.inl (some (0))))), some (.inl (a0)), some (.inl (a1)), some (.inl (a2)), some (.inl (a3)), some (.inl (a4)), some (.inl (a5)), some (.inl (a6))], [.inl (a5), .inl (a4), .inl (a3), .inl (a2), .inl (a1), .inl (a0), .inr (.inr (.inl (some (0))))], 0, 0, ix_mem 276 I J T)) rfl trivial ?_
  refine ix_sp rfl ⟨rfl, ⟨ix_lt rfl, ix_eq rfl, ix_lt rfl⟩, ix_le rfl, Nat.le_refl _, Nat.le_refl _, tp_X11_isMail h (fun v1 I1 J1 T1 h1 => ?_)⟩
  change ix_W _ _ _ (13, [some (.inr (.inr (.inl (some (0))))), some (.inl (a0)), some (.inl (a1)), some (.inl (a2)), some (.inl (a3)), some (.inl (a4)), some (.inl (a5)), some (.inl (a6))], [.inl (v1)], 0, 0, ix_mem 276 I1 J1 T1)
  refine ix_go 1 (x' := (if v1 = 0 then 29 else 16, [some (.inr (.inr (.inl (some (0))))), some (.inl (a0)), some (.inl (a1)), some (.inl (a2)), some (.inl (a3)), some (.inl (a4)), some (.inl (a5)), some (.inl (a6))], [], 0, 0, ix_mem 276 I1 J1 T1)) rfl trivial ?_
  refine ix_br (fun c2 => ?_) (fun c2 => ?_)
  · have h3 := h1.1 c2
    refine ix_go 2 (x' := (31, [some (.inr (.inr (.inl (some (0))))), some (.inl (a0)), some (.inl (a1)), some (.inl (a2)), some (.inl (a3)), some (.inl (a4)), some (.inl (a5)), some (.inl (a6))], [.inl ((1 : Int32)), .inr (.inr (.inl (some (0))))], 0, 0, ix_mem 276 I1 J1 T1)) rfl trivial ?_
    refine ix_sp rfl ⟨rfl, ⟨ix_lt rfl, ix_eq rfl, ix_lt rfl⟩, ix_le rfl, Nat.le_refl _, Nat.le_refl _, tp_X11_refuse h3 (fun v4 I4 J4 T4 h4 => ?_)⟩
    change ix_W _ _ _ (34, [some (.inr (.inr (.inl (some (0))))), some (.inl (a0)), some (.inl (a1)), some (.inl (a2)), some (.inl (a3)), some (.inl (a4)), some (.inl (a5)), some (.inl (a6))], [.inl (v4)], 0, 0, ix_mem 276 I4 J4 T4)
    exact ix_sp rfl ⟨Nat.le_refl _, Nat.le_refl _, trivial, hQ _ _ _ _ h4⟩
  · have h3 := h1.2 c2
    refine ix_go 4 (x' := (23, [some (.inr (.inr (.inl (some (0))))), some (.inl (a0)), some (.inl (a1)), some (.inl (a2)), some (.inl (a3)), some (.inl (a4)), some (.inl (a5)), some (.inl (a6))], [.inr (.inl ((3 : Int64))), .inr (.inl ((0 : Int64))), .inr (.inl ((a6).toInt64))], 0, 0, ix_mem 276 I1 J1 T1)) rfl trivial ?_
    refine ix_sp rfl ⟨rfl, trivial, ix_le rfl, Nat.le_refl _, Nat.le_refl _, tp_X11_outside h3 (fun v5 I5 J5 T5 h5 => ?_)⟩
    change ix_W _ _ _ (26, [some (.inr (.inr (.inl (some (0))))), some (.inl (a0)), some (.inl (a1)), some (.inl (a2)), some (.inl (a3)), some (.inl (a4)), some (.inl (a5)), some (.inl (a6))], [.inl (v5)], 0, 0, ix_mem 276 I5 J5 T5)
    refine ix_go 1 (x' := (if v5 = 0 then 35 else 29, [some (.inr (.inr (.inl (some (0))))), some (.inl (a0)), some (.inl (a1)), some (.inl (a2)), some (.inl (a3)), some (.inl (a4)), some (.inl (a5)), some (.inl (a6))], [], 0, 0, ix_mem 276 I5 J5 T5)) rfl trivial ?_
    refine ix_br (fun c6 => ?_) (fun c6 => ?_)
    · have h7 := h5.1 c6
      refine ix_go 7 (x' := (46, [some (.inr (.inr (.inl (some (0))))), some (.inl (a0)), some (.inl (a1)), some (.inl (a2)), some (.inl (a3)), some (.inl (a4)), some (.inl (a5)), some (.inl (a6))], [.inl (a4), .inl (a3), .inl (a2), .inl (a1), .inl (a0), .inr (.inr (.inl (some (95))))], 0, 0, ix_mem 276 I5 J5 T5)) rfl ⟨rfl, rfl⟩ ?_
      refine ix_go 1 (x' := (48, [some (.inr (.inr (.inl (some (0))))), some (.inl (a0)), some (.inl (a1)), some (.inl (a2)), some (.inl (a3)), some (.inl (a4)), some (.inl (a5)), some (.inl (a6))], [.inl (a5), .inl (a4), .inl (a3), .inl (a2), .inl (a1), .inl (a0), .inr (.inr (.inl (some (95))))], 0, 0, ix_mem 276 I5 J5 T5)) rfl trivial ?_
      refine ix_sp rfl ⟨rfl, ⟨ix_lt rfl, ix_eq rfl, ix_lt rfl⟩, ix_le rfl, Nat.le_refl _, Nat.le_refl _, tp_X6_become h7 (fun I8 J8 T8 h8 => ?_)⟩
      change ix_W _ _ _ (51, [some (.inr (.inr (.inl (some (0))))), some (.inl (a0)), some (.inl (a1)), some (.inl (a2)), some (.inl (a3)), some (.inl (a4)), some (.inl (a5)), some (.inl (a6))], [], 0, 0, ix_mem 276 I8 J8 T8)
      refine ix_go 4 (x' := (58, [some (.inr (.inr (.inl (some (0))))), some (.inl (a0)), some (.inl (a1)), some (.inl (a2)), some (.inl (a3)), some (.inl (a4)), some (.inl (a5)), some (.inl (a6))], [.inl ((-1 : Int32)), .inl (a6), .inr (.inr (.inl (some (95))))], 0, 0, ix_mem 276 I8 J8 T8)) rfl ⟨rfl, rfl⟩ ?_
      refine ix_sp rfl ⟨rfl, ⟨ix_lt rfl, ix_eq rfl, ix_lt rfl⟩, ix_le rfl, Nat.le_refl _, Nat.le_refl _, tp_X6_goOver h8 (fun I9 J9 T9 h9 => ?_)⟩
      change ix_W _ _ _ (61, [some (.inr (.inr (.inl (some (0))))), some (.inl (a0)), some (.inl (a1)), some (.inl (a2)), some (.inl (a3)), some (.inl (a4)), some (.inl (a5)), some (.inl (a6))], [], 0, 0, ix_mem 276 I9 J9 T9)
      refine ix_go 6 (x' := (71, [some (.inr (.inr (.inl (some (0))))), some (.inl (a0)), some (.inl (a1)), some (.inl (a2)), some (.inl (a3)), some (.inl (a4)), some (.inl (a5)), some (.inl (a6))], [.inr (.inr (.inl (some (95)))), .inl ((0 : Int32)), .inr (.inr (.inl (some (51)))), .inr (.inr (.inl (some (0))))], 0, 0, ix_mem 276 I9 J9 T9)) rfl ⟨rfl, rfl, rfl, rfl⟩ ?_
      refine ix_sp rfl ⟨rfl, ⟨ix_lt rfl, ix_eq rfl, ix_lt rfl⟩, ix_le rfl, Nat.le_refl _, Nat.le_refl _, tp_X8_clauseFor h9 (fun v10 I10 J10 T10 h10 => ?_)⟩
      change ix_W _ _ _ (74, [some (.inr (.inr (.inl (some (0))))), some (.inl (a0)), some (.inl (a1)), some (.inl (a2)), some (.inl (a3)), some (.inl (a4)), some (.inl (a5)), some (.inl (a6))], [.inl (v10), .inr (.inr (.inl (some (0))))], 0, 0, ix_mem 276 I10 J10 T10)
      refine ix_sp rfl ⟨rfl, ⟨ix_lt rfl, ix_eq rfl, ix_lt rfl⟩, ix_le rfl, Nat.le_refl _, Nat.le_refl _, tp_X11_answerOrNoneSuch h10 (fun v11 I11 J11 T11 h11 => ?_)⟩
      change ix_W _ _ _ (77, [some (.inr (.inr (.inl (some (0))))), some (.inl (a0)), some (.inl (a1)), some (.inl (a2)), some (.inl (a3)), some (.inl (a4)), some (.inl (a5)), some (.inl (a6))], [.inl (v11)], 0, 0, ix_mem 276 I11 J11 T11)
      exact ix_sp rfl ⟨Nat.le_refl _, Nat.le_refl _, trivial, hQ _ _ _ _ h11⟩
    · have h7 := h5.2 c6
      refine ix_go 2 (x' := (31, [some (.inr (.inr (.inl (some (0))))), some (.inl (a0)), some (.inl (a1)), some (.inl (a2)), some (.inl (a3)), some (.inl (a4)), some (.inl (a5)), some (.inl (a6))], [.inl ((1 : Int32)), .inr (.inr (.inl (some (0))))], 0, 0, ix_mem 276 I5 J5 T5)) rfl trivial ?_
      refine ix_sp rfl ⟨rfl, ⟨ix_lt rfl, ix_eq rfl, ix_lt rfl⟩, ix_le rfl, Nat.le_refl _, Nat.le_refl _, tp_X11_refuse h7 (fun v12 I12 J12 T12 h12 => ?_)⟩
      change ix_W _ _ _ (34, [some (.inr (.inr (.inl (some (0))))), some (.inl (a0)), some (.inl (a1)), some (.inl (a2)), some (.inl (a3)), some (.inl (a4)), some (.inl (a5)), some (.inl (a6))], [.inl (v12)], 0, 0, ix_mem 276 I12 J12 T12)
      exact ix_sp rfl ⟨Nat.le_refl _, Nat.le_refl _, trivial, hQ _ _ _ _ h12⟩
def wp_X11_third (a0 : Int32) (a1 : Int32) (a2 : Int32) (a3 : Int32) (a4 : Int32) (a5 : Int32) (a6 : Int32) (a7 : Int32) (I : Nat → Nat → Int32) (J : Nat → Nat → Int64) (T : Option Nat) (P : Int64 → (Nat → Nat → Int32) → (Nat → Nat → Int64) → Option Nat → Prop) : Prop := wp_X11_isMail (a0) (a1) (a3) (a4) (a5) (a6) I J T (fun v1 I1 J1 T1 => ((v1 = 0 → wp_X11_refuse ((1 : Int32)) I1 J1 T1 (fun v4 I4 J4 T4 => P ((v4).toInt64) I4 J4 T4)) ∧ (¬ (v1 = 0) → wp_X11_outside ((a7).toInt64) ((1 : Int64)) ((3 : Int64)) I1 J1 T1 (fun v5 I5 J5 T5 => ((v5 = 0 → wp_X11_isPair (a0) (a2) I5 J5 T5 (fun v8 I8 J8 T8 => ((v8 = 0 → wp_X11_refuse ((1 : Int32)) I8 J8 T8 (fun v11 I11 J11 T11 => P ((v11).toInt64) I11 J11 T11)) ∧ (¬ (v8 = 0) → wp_X11_isPair (a2) (a1) I8 J8 T8 (fun v12 I12 J12 T12 => ((v12 = 0 → wp_X11_refuse ((1 : Int32)) I12 J12 T12 (fun v15 I15 J15 T15 => P ((v15).toInt64) I15 J15 T15)) ∧ (¬ (v12 = 0) → wp_X6_become (a0) (a1) (a3) (a4) (a5) (a6) I12 J12 T12 (fun I16 J16 T16 => wp_X6_goOver (a7) (a2) I16 J16 T16 (fun I17 J17 T17 => wp_X8_charge ((1 : Int32)) (ix_u2 I17 0 0 ((0 : Int32))) J17 T17 (fun v18 I18 J18 T18 => P (v18) I18 J18 T18)))))))))) ∧ (¬ (v5 = 0) → wp_X11_refuse ((1 : Int32)) I5 J5 T5 (fun v19 I19 J19 T19 => P ((v19).toInt64) I19 J19 T19)))))))
set_option maxRecDepth 20000 in
theorem tp_X11_third {d : Nat} {a0 : Int32} {a1 : Int32} {a2 : Int32} {a3 : Int32} {a4 : Int32} {a5 : Int32} {a6 : Int32} {a7 : Int32} {I : Nat → Nat → Int32} {J : Nat → Nat → Int64} {T : Option Nat} {P : Int64 → (Nat → Nat → Int32) → (Nat → Nat → Int64) → Option Nat → Prop} {Q : ix_Q} (h : wp_X11_third a0 a1 a2 a3 a4 a5 a6 a7 I J T P) (hQ : ∀ v I J T, P v I J T → Q (some (.inr (.inl v))) (ix_mem 276 I J T)) : ix_C (d + 6) 188 [.inr (.inr (.inl (some (0)))), .inl (a0), .inl (a1), .inl (a2), .inl (a3), .inl (a4), .inl (a5), .inl (a6), .inl (a7)] (ix_mem 276 I J T) Q := by
  unfold wp_X11_third at h
  refine ix_enter (ls := [some (.inr (.inr (.inl (some (0))))), some (.inl (a0)), some (.inl (a1)), some (.inl (a2)), some (.inl (a3)), some (.inl (a4)), some (.inl (a5)), some (.inl (a6)), some (.inl (a7))]) rfl rfl rfl (Nat.le_of_ble_eq_true rfl) ?_
  refine ix_go 7 (x' := (11, [some (.inr (.inr (.inl (some (0))))), some (.inl (a0)), some (.inl (a1)), some (.inl (a2)), some (.inl (a3)), some (.inl (a4)), some (.inl (a5)), some (.inl (a6)), some (.inl (a7))], [.inl (a6), .inl (a5), .inl (a4), .inl (a3), .inl (a1), .inl (a0), .inr (.inr (.inl (some (0))))], 0, 0, ix_mem 276 I J T)) rfl trivial ?_
  refine ix_sp rfl ⟨rfl, ⟨ix_lt rfl, ix_eq rfl, ix_lt rfl⟩, ix_le rfl, Nat.le_refl _, Nat.le_refl _, tp_X11_isMail h (fun v1 I1 J1 T1 h1 => ?_)⟩
  change ix_W _ _ _ (14, [some (.inr (.inr (.inl (some (0))))), some (.inl (a0)), some (.inl (a1)), some (.inl (a2)), some (.inl (a3)), some (.inl (a4)), some (.inl (a5)), some (.inl (a6)), some (.inl (a7))], [.inl (v1)], 0, 0, ix_mem 276 I1 J1 T1)
  refine ix_go 1 (x' := (if v1 = 0 then 48 else 17, [some (.inr (.inr (.inl (some (0))))), some (.inl (a0)), some (.inl (a1)), some (.inl (a2)), some (.inl (a3)), some (.inl (a4)), some (.inl (a5)), some (.inl (a6)), some (.inl (a7))], [], 0, 0, ix_mem 276 I1 J1 T1)) rfl trivial ?_
  refine ix_br (fun c2 => ?_) (fun c2 => ?_)
  · have h3 := h1.1 c2
    refine ix_go 2 (x' := (50, [some (.inr (.inr (.inl (some (0))))), some (.inl (a0)), some (.inl (a1)), some (.inl (a2)), some (.inl (a3)), some (.inl (a4)), some (.inl (a5)), some (.inl (a6)), some (.inl (a7))], [.inl ((1 : Int32)), .inr (.inr (.inl (some (0))))], 0, 0, ix_mem 276 I1 J1 T1)) rfl trivial ?_
    refine ix_sp rfl ⟨rfl, ⟨ix_lt rfl, ix_eq rfl, ix_lt rfl⟩, ix_le rfl, Nat.le_refl _, Nat.le_refl _, tp_X11_refuse h3 (fun v4 I4 J4 T4 h4 => ?_)⟩
    change ix_W _ _ _ (53, [some (.inr (.inr (.inl (some (0))))), some (.inl (a0)), some (.inl (a1)), some (.inl (a2)), some (.inl (a3)), some (.inl (a4)), some (.inl (a5)), some (.inl (a6)), some (.inl (a7))], [.inl (v4)], 0, 0, ix_mem 276 I4 J4 T4)
    refine ix_go 1 (x' := (54, [some (.inr (.inr (.inl (some (0))))), some (.inl (a0)), some (.inl (a1)), some (.inl (a2)), some (.inl (a3)), some (.inl (a4)), some (.inl (a5)), some (.inl (a6)), some (.inl (a7))], [.inr (.inl ((v4).toInt64))], 0, 0, ix_mem 276 I4 J4 T4)) rfl trivial ?_
    exact ix_sp rfl ⟨Nat.le_refl _, Nat.le_refl _, rfl, hQ _ _ _ _ h4⟩
  · have h3 := h1.2 c2
    refine ix_go 4 (x' := (24, [some (.inr (.inr (.inl (some (0))))), some (.inl (a0)), some (.inl (a1)), some (.inl (a2)), some (.inl (a3)), some (.inl (a4)), some (.inl (a5)), some (.inl (a6)), some (.inl (a7))], [.inr (.inl ((3 : Int64))), .inr (.inl ((1 : Int64))), .inr (.inl ((a7).toInt64))], 0, 0, ix_mem 276 I1 J1 T1)) rfl trivial ?_
    refine ix_sp rfl ⟨rfl, trivial, ix_le rfl, Nat.le_refl _, Nat.le_refl _, tp_X11_outside h3 (fun v5 I5 J5 T5 h5 => ?_)⟩
    change ix_W _ _ _ (27, [some (.inr (.inr (.inl (some (0))))), some (.inl (a0)), some (.inl (a1)), some (.inl (a2)), some (.inl (a3)), some (.inl (a4)), some (.inl (a5)), some (.inl (a6)), some (.inl (a7))], [.inl (v5)], 0, 0, ix_mem 276 I5 J5 T5)
    refine ix_go 1 (x' := (if v5 = 0 then 30 else 48, [some (.inr (.inr (.inl (some (0))))), some (.inl (a0)), some (.inl (a1)), some (.inl (a2)), some (.inl (a3)), some (.inl (a4)), some (.inl (a5)), some (.inl (a6)), some (.inl (a7))], [], 0, 0, ix_mem 276 I5 J5 T5)) rfl trivial ?_
    refine ix_br (fun c6 => ?_) (fun c6 => ?_)
    · have h7 := h5.1 c6
      refine ix_go 3 (x' := (33, [some (.inr (.inr (.inl (some (0))))), some (.inl (a0)), some (.inl (a1)), some (.inl (a2)), some (.inl (a3)), some (.inl (a4)), some (.inl (a5)), some (.inl (a6)), some (.inl (a7))], [.inl (a2), .inl (a0), .inr (.inr (.inl (some (0))))], 0, 0, ix_mem 276 I5 J5 T5)) rfl trivial ?_
      refine ix_sp rfl ⟨rfl, ⟨ix_lt rfl, ix_eq rfl, ix_lt rfl⟩, ix_le rfl, Nat.le_refl _, Nat.le_refl _, tp_X11_isPair h7 (fun v8 I8 J8 T8 h8 => ?_)⟩
      change ix_W _ _ _ (36, [some (.inr (.inr (.inl (some (0))))), some (.inl (a0)), some (.inl (a1)), some (.inl (a2)), some (.inl (a3)), some (.inl (a4)), some (.inl (a5)), some (.inl (a6)), some (.inl (a7))], [.inl (v8)], 0, 0, ix_mem 276 I8 J8 T8)
      refine ix_go 1 (x' := (if v8 = 0 then 48 else 39, [some (.inr (.inr (.inl (some (0))))), some (.inl (a0)), some (.inl (a1)), some (.inl (a2)), some (.inl (a3)), some (.inl (a4)), some (.inl (a5)), some (.inl (a6)), some (.inl (a7))], [], 0, 0, ix_mem 276 I8 J8 T8)) rfl trivial ?_
      refine ix_br (fun c9 => ?_) (fun c9 => ?_)
      · have h10 := h8.1 c9
        refine ix_go 2 (x' := (50, [some (.inr (.inr (.inl (some (0))))), some (.inl (a0)), some (.inl (a1)), some (.inl (a2)), some (.inl (a3)), some (.inl (a4)), some (.inl (a5)), some (.inl (a6)), some (.inl (a7))], [.inl ((1 : Int32)), .inr (.inr (.inl (some (0))))], 0, 0, ix_mem 276 I8 J8 T8)) rfl trivial ?_
        refine ix_sp rfl ⟨rfl, ⟨ix_lt rfl, ix_eq rfl, ix_lt rfl⟩, ix_le rfl, Nat.le_refl _, Nat.le_refl _, tp_X11_refuse h10 (fun v11 I11 J11 T11 h11 => ?_)⟩
        change ix_W _ _ _ (53, [some (.inr (.inr (.inl (some (0))))), some (.inl (a0)), some (.inl (a1)), some (.inl (a2)), some (.inl (a3)), some (.inl (a4)), some (.inl (a5)), some (.inl (a6)), some (.inl (a7))], [.inl (v11)], 0, 0, ix_mem 276 I11 J11 T11)
        refine ix_go 1 (x' := (54, [some (.inr (.inr (.inl (some (0))))), some (.inl (a0)), some (.inl (a1)), some (.inl (a2)), some (.inl (a3)), some (.inl (a4)), some (.inl (a5)), some (.inl (a6)), some (.inl (a7))], [.inr (.inl ((v11).toInt64))], 0, 0, ix_mem 276 I11 J11 T11)) rfl trivial ?_
        exact ix_sp rfl ⟨Nat.le_refl _, Nat.le_refl _, rfl, hQ _ _ _ _ h11⟩
      · have h10 := h8.2 c9
        refine ix_go 3 (x' := (42, [some (.inr (.inr (.inl (some (0))))), some (.inl (a0)), some (.inl (a1)), some (.inl (a2)), some (.inl (a3)), some (.inl (a4)), some (.inl (a5)), some (.inl (a6)), some (.inl (a7))], [.inl (a1), .inl (a2), .inr (.inr (.inl (some (0))))], 0, 0, ix_mem 276 I8 J8 T8)) rfl trivial ?_
        refine ix_sp rfl ⟨rfl, ⟨ix_lt rfl, ix_eq rfl, ix_lt rfl⟩, ix_le rfl, Nat.le_refl _, Nat.le_refl _, tp_X11_isPair h10 (fun v12 I12 J12 T12 h12 => ?_)⟩
        change ix_W _ _ _ (45, [some (.inr (.inr (.inl (some (0))))), some (.inl (a0)), some (.inl (a1)), some (.inl (a2)), some (.inl (a3)), some (.inl (a4)), some (.inl (a5)), some (.inl (a6)), some (.inl (a7))], [.inl (v12)], 0, 0, ix_mem 276 I12 J12 T12)
        refine ix_go 1 (x' := (if v12 = 0 then 48 else 55, [some (.inr (.inr (.inl (some (0))))), some (.inl (a0)), some (.inl (a1)), some (.inl (a2)), some (.inl (a3)), some (.inl (a4)), some (.inl (a5)), some (.inl (a6)), some (.inl (a7))], [], 0, 0, ix_mem 276 I12 J12 T12)) rfl trivial ?_
        refine ix_br (fun c13 => ?_) (fun c13 => ?_)
        · have h14 := h12.1 c13
          refine ix_go 2 (x' := (50, [some (.inr (.inr (.inl (some (0))))), some (.inl (a0)), some (.inl (a1)), some (.inl (a2)), some (.inl (a3)), some (.inl (a4)), some (.inl (a5)), some (.inl (a6)), some (.inl (a7))], [.inl ((1 : Int32)), .inr (.inr (.inl (some (0))))], 0, 0, ix_mem 276 I12 J12 T12)) rfl trivial ?_
          refine ix_sp rfl ⟨rfl, ⟨ix_lt rfl, ix_eq rfl, ix_lt rfl⟩, ix_le rfl, Nat.le_refl _, Nat.le_refl _, tp_X11_refuse h14 (fun v15 I15 J15 T15 h15 => ?_)⟩
          change ix_W _ _ _ (53, [some (.inr (.inr (.inl (some (0))))), some (.inl (a0)), some (.inl (a1)), some (.inl (a2)), some (.inl (a3)), some (.inl (a4)), some (.inl (a5)), some (.inl (a6)), some (.inl (a7))], [.inl (v15)], 0, 0, ix_mem 276 I15 J15 T15)
          refine ix_go 1 (x' := (54, [some (.inr (.inr (.inl (some (0))))), some (.inl (a0)), some (.inl (a1)), some (.inl (a2)), some (.inl (a3)), some (.inl (a4)), some (.inl (a5)), some (.inl (a6)), some (.inl (a7))], [.inr (.inl ((v15).toInt64))], 0, 0, ix_mem 276 I15 J15 T15)) rfl trivial ?_
          exact ix_sp rfl ⟨Nat.le_refl _, Nat.le_refl _, rfl, hQ _ _ _ _ h15⟩
        · have h14 := h12.2 c13
          refine ix_go 7 (x' := (67, [some (.inr (.inr (.inl (some (0))))), some (.inl (a0)), some (.inl (a1)), some (.inl (a2)), some (.inl (a3)), some (.inl (a4)), some (.inl (a5)), some (.inl (a6)), some (.inl (a7))], [.inl (a5), .inl (a4), .inl (a3), .inl (a1), .inl (a0), .inr (.inr (.inl (some (95))))], 0, 0, ix_mem 276 I12 J12 T12)) rfl ⟨rfl, rfl⟩ ?_
          refine ix_go 1 (x' := (69, [some (.inr (.inr (.inl (some (0))))), some (.inl (a0)), some (.inl (a1)), some (.inl (a2)), some (.inl (a3)), some (.inl (a4)), some (.inl (a5)), some (.inl (a6)), some (.inl (a7))], [.inl (a6), .inl (a5), .inl (a4), .inl (a3), .inl (a1), .inl (a0), .inr (.inr (.inl (some (95))))], 0, 0, ix_mem 276 I12 J12 T12)) rfl trivial ?_
          refine ix_sp rfl ⟨rfl, ⟨ix_lt rfl, ix_eq rfl, ix_lt rfl⟩, ix_le rfl, Nat.le_refl _, Nat.le_refl _, tp_X6_become h14 (fun I16 J16 T16 h16 => ?_)⟩
          change ix_W _ _ _ (72, [some (.inr (.inr (.inl (some (0))))), some (.inl (a0)), some (.inl (a1)), some (.inl (a2)), some (.inl (a3)), some (.inl (a4)), some (.inl (a5)), some (.inl (a6)), some (.inl (a7))], [], 0, 0, ix_mem 276 I16 J16 T16)
          refine ix_go 4 (x' := (79, [some (.inr (.inr (.inl (some (0))))), some (.inl (a0)), some (.inl (a1)), some (.inl (a2)), some (.inl (a3)), some (.inl (a4)), some (.inl (a5)), some (.inl (a6)), some (.inl (a7))], [.inl (a2), .inl (a7), .inr (.inr (.inl (some (95))))], 0, 0, ix_mem 276 I16 J16 T16)) rfl ⟨rfl, rfl⟩ ?_
          refine ix_sp rfl ⟨rfl, ⟨ix_lt rfl, ix_eq rfl, ix_lt rfl⟩, ix_le rfl, Nat.le_refl _, Nat.le_refl _, tp_X6_goOver h16 (fun I17 J17 T17 h17 => ?_)⟩
          change ix_W _ _ _ (82, [some (.inr (.inr (.inl (some (0))))), some (.inl (a0)), some (.inl (a1)), some (.inl (a2)), some (.inl (a3)), some (.inl (a4)), some (.inl (a5)), some (.inl (a6)), some (.inl (a7))], [], 0, 0, ix_mem 276 I17 J17 T17)
          refine ix_go 7 (x' := (93, [some (.inr (.inr (.inl (some (0))))), some (.inl (a0)), some (.inl (a1)), some (.inl (a2)), some (.inl (a3)), some (.inl (a4)), some (.inl (a5)), some (.inl (a6)), some (.inl (a7))], [.inr (.inr (.inl (some (0)))), .inl ((1 : Int32)), .inr (.inr (.inl (some (51))))], 0, 0, ix_mem 276 (ix_u2 I17 0 0 ((0 : Int32))) J17 T17)) rfl ⟨rfl, rfl, rfl, rfl⟩ ?_
          refine ix_go 1 (x' := (96, [some (.inr (.inr (.inl (some (0))))), some (.inl (a0)), some (.inl (a1)), some (.inl (a2)), some (.inl (a3)), some (.inl (a4)), some (.inl (a5)), some (.inl (a6)), some (.inl (a7))], [.inr (.inr (.inl (some (95)))), .inl ((1 : Int32)), .inr (.inr (.inl (some (51))))], 0, 0, ix_mem 276 (ix_u2 I17 0 0 ((0 : Int32))) J17 T17)) rfl ⟨rfl, rfl⟩ ?_
          refine ix_sp rfl ⟨rfl, ⟨ix_lt rfl, ix_eq rfl, ix_lt rfl⟩, ix_le rfl, Nat.le_refl _, Nat.le_refl _, tp_X8_charge h17 (fun v18 I18 J18 T18 h18 => ?_)⟩
          change ix_W _ _ _ (99, [some (.inr (.inr (.inl (some (0))))), some (.inl (a0)), some (.inl (a1)), some (.inl (a2)), some (.inl (a3)), some (.inl (a4)), some (.inl (a5)), some (.inl (a6)), some (.inl (a7))], [.inr (.inl (v18))], 0, 0, ix_mem 276 I18 J18 T18)
          exact ix_sp rfl ⟨Nat.le_refl _, Nat.le_refl _, rfl, hQ _ _ _ _ h18⟩
    · have h7 := h5.2 c6
      refine ix_go 2 (x' := (50, [some (.inr (.inr (.inl (some (0))))), some (.inl (a0)), some (.inl (a1)), some (.inl (a2)), some (.inl (a3)), some (.inl (a4)), some (.inl (a5)), some (.inl (a6)), some (.inl (a7))], [.inl ((1 : Int32)), .inr (.inr (.inl (some (0))))], 0, 0, ix_mem 276 I5 J5 T5)) rfl trivial ?_
      refine ix_sp rfl ⟨rfl, ⟨ix_lt rfl, ix_eq rfl, ix_lt rfl⟩, ix_le rfl, Nat.le_refl _, Nat.le_refl _, tp_X11_refuse h7 (fun v19 I19 J19 T19 h19 => ?_)⟩
      change ix_W _ _ _ (53, [some (.inr (.inr (.inl (some (0))))), some (.inl (a0)), some (.inl (a1)), some (.inl (a2)), some (.inl (a3)), some (.inl (a4)), some (.inl (a5)), some (.inl (a6)), some (.inl (a7))], [.inl (v19)], 0, 0, ix_mem 276 I19 J19 T19)
      refine ix_go 1 (x' := (54, [some (.inr (.inr (.inl (some (0))))), some (.inl (a0)), some (.inl (a1)), some (.inl (a2)), some (.inl (a3)), some (.inl (a4)), some (.inl (a5)), some (.inl (a6)), some (.inl (a7))], [.inr (.inl ((v19).toInt64))], 0, 0, ix_mem 276 I19 J19 T19)) rfl trivial ?_
      exact ix_sp rfl ⟨Nat.le_refl _, Nat.le_refl _, rfl, hQ _ _ _ _ h19⟩
def wp_X11_price (a0 : Int32) (a1 : Int32) (a2 : Int32) (a3 : Int32) (a4 : Int32) (a5 : Int32) (I : Nat → Nat → Int32) (J : Nat → Nat → Int64) (T : Option Nat) (P : Int64 → (Nat → Nat → Int32) → (Nat → Nat → Int64) → Option Nat → Prop) : Prop := wp_X11_isMail (a0) (a1) (a2) (a3) (a4) (a5) I J T (fun v1 I1 J1 T1 => ((v1 = 0 → wp_X11_refuse ((1 : Int32)) I1 J1 T1 (fun v4 I4 J4 T4 => P ((v4).toInt64) I4 J4 T4)) ∧ (¬ (v1 = 0) → wp_X6_become (a0) (a1) (a2) (a3) (a4) (a5) I1 J1 T1 (fun I5 J5 T5 => wp_X10_findBest I5 J5 T5 (fun v6 I6 J6 T6 => ((v6 = 0 → wp_X11_refuse ((6 : Int32)) I6 J6 T6 (fun v9 I9 J9 T9 => P ((v9).toInt64) I9 J9 T9)) ∧ (¬ (v6 = 0) → wp_X10_bestPrice (ix_u2 I6 0 0 ((0 : Int32))) J6 T6 (fun v10 I10 J10 T10 => P (v10) I10 J10 T10))))))))
set_option maxRecDepth 20000 in
theorem tp_X11_price {d : Nat} {a0 : Int32} {a1 : Int32} {a2 : Int32} {a3 : Int32} {a4 : Int32} {a5 : Int32} {I : Nat → Nat → Int32} {J : Nat → Nat → Int64} {T : Option Nat} {P : Int64 → (Nat → Nat → Int32) → (Nat → Nat → Int64) → Option Nat → Prop} {Q : ix_Q} (h : wp_X11_price a0 a1 a2 a3 a4 a5 I J T P) (hQ : ∀ v I J T, P v I J T → Q (some (.inr (.inl v))) (ix_mem 276 I J T)) : ix_C (d + 10) 189 [.inr (.inr (.inl (some (0)))), .inl (a0), .inl (a1), .inl (a2), .inl (a3), .inl (a4), .inl (a5)] (ix_mem 276 I J T) Q := by
  unfold wp_X11_price at h
  refine ix_enter (ls := [some (.inr (.inr (.inl (some (0))))), some (.inl (a0)), some (.inl (a1)), some (.inl (a2)), some (.inl (a3)), some (.inl (a4)), some (.inl (a5))]) rfl rfl rfl (Nat.le_of_ble_eq_true rfl) ?_
  refine ix_go 7 (x' := (10, [some (.inr (.inr (.inl (some (0))))), some (.inl (a0)), some (.inl (a1)), some (.inl (a2)), some (.inl (a3)), some (.inl (a4)), some (.inl (a5))], [.inl (a5), .inl (a4), .inl (a3), .inl (a2), .inl (a1), .inl (a0), .inr (.inr (.inl (some (0))))], 0, 0, ix_mem 276 I J T)) rfl trivial ?_
  refine ix_sp rfl ⟨rfl, ⟨ix_lt rfl, ix_eq rfl, ix_lt rfl⟩, ix_le rfl, Nat.le_refl _, Nat.le_refl _, tp_X11_isMail h (fun v1 I1 J1 T1 h1 => ?_)⟩
  change ix_W _ _ _ (13, [some (.inr (.inr (.inl (some (0))))), some (.inl (a0)), some (.inl (a1)), some (.inl (a2)), some (.inl (a3)), some (.inl (a4)), some (.inl (a5))], [.inl (v1)], 0, 0, ix_mem 276 I1 J1 T1)
  refine ix_go 1 (x' := (if v1 = 0 then 16 else 23, [some (.inr (.inr (.inl (some (0))))), some (.inl (a0)), some (.inl (a1)), some (.inl (a2)), some (.inl (a3)), some (.inl (a4)), some (.inl (a5))], [], 0, 0, ix_mem 276 I1 J1 T1)) rfl trivial ?_
  refine ix_br (fun c2 => ?_) (fun c2 => ?_)
  · have h3 := h1.1 c2
    refine ix_go 2 (x' := (18, [some (.inr (.inr (.inl (some (0))))), some (.inl (a0)), some (.inl (a1)), some (.inl (a2)), some (.inl (a3)), some (.inl (a4)), some (.inl (a5))], [.inl ((1 : Int32)), .inr (.inr (.inl (some (0))))], 0, 0, ix_mem 276 I1 J1 T1)) rfl trivial ?_
    refine ix_sp rfl ⟨rfl, ⟨ix_lt rfl, ix_eq rfl, ix_lt rfl⟩, ix_le rfl, Nat.le_refl _, Nat.le_refl _, tp_X11_refuse h3 (fun v4 I4 J4 T4 h4 => ?_)⟩
    change ix_W _ _ _ (21, [some (.inr (.inr (.inl (some (0))))), some (.inl (a0)), some (.inl (a1)), some (.inl (a2)), some (.inl (a3)), some (.inl (a4)), some (.inl (a5))], [.inl (v4)], 0, 0, ix_mem 276 I4 J4 T4)
    refine ix_go 1 (x' := (22, [some (.inr (.inr (.inl (some (0))))), some (.inl (a0)), some (.inl (a1)), some (.inl (a2)), some (.inl (a3)), some (.inl (a4)), some (.inl (a5))], [.inr (.inl ((v4).toInt64))], 0, 0, ix_mem 276 I4 J4 T4)) rfl trivial ?_
    exact ix_sp rfl ⟨Nat.le_refl _, Nat.le_refl _, rfl, hQ _ _ _ _ h4⟩
  · have h3 := h1.2 c2
    refine ix_go 7 (x' := (34, [some (.inr (.inr (.inl (some (0))))), some (.inl (a0)), some (.inl (a1)), some (.inl (a2)), some (.inl (a3)), some (.inl (a4)), some (.inl (a5))], [.inl (a4), .inl (a3), .inl (a2), .inl (a1), .inl (a0), .inr (.inr (.inl (some (95))))], 0, 0, ix_mem 276 I1 J1 T1)) rfl ⟨rfl, rfl⟩ ?_
    refine ix_go 1 (x' := (36, [some (.inr (.inr (.inl (some (0))))), some (.inl (a0)), some (.inl (a1)), some (.inl (a2)), some (.inl (a3)), some (.inl (a4)), some (.inl (a5))], [.inl (a5), .inl (a4), .inl (a3), .inl (a2), .inl (a1), .inl (a0), .inr (.inr (.inl (some (95))))], 0, 0, ix_mem 276 I1 J1 T1)) rfl trivial ?_
    refine ix_sp rfl ⟨rfl, ⟨ix_lt rfl, ix_eq rfl, ix_lt rfl⟩, ix_le rfl, Nat.le_refl _, Nat.le_refl _, tp_X6_become h3 (fun I5 J5 T5 h5 => ?_)⟩
    change ix_W _ _ _ (39, [some (.inr (.inr (.inl (some (0))))), some (.inl (a0)), some (.inl (a1)), some (.inl (a2)), some (.inl (a3)), some (.inl (a4)), some (.inl (a5))], [], 0, 0, ix_mem 276 I5 J5 T5)
    refine ix_go 4 (x' := (47, [some (.inr (.inr (.inl (some (0))))), some (.inl (a0)), some (.inl (a1)), some (.inl (a2)), some (.inl (a3)), some (.inl (a4)), some (.inl (a5))], [.inr (.inr (.inl (some (95)))), .inr (.inr (.inl (some (97))))], 0, 0, ix_mem 276 I5 J5 T5)) rfl ⟨rfl, rfl, rfl, rfl⟩ ?_
    refine ix_sp rfl ⟨rfl, ⟨ix_lt rfl, ix_eq rfl, ix_lt rfl⟩, ix_le rfl, Nat.le_refl _, Nat.le_refl _, tp_X10_findBest h5 (fun v6 I6 J6 T6 h6 => ?_)⟩
    change ix_W _ _ _ (50, [some (.inr (.inr (.inl (some (0))))), some (.inl (a0)), some (.inl (a1)), some (.inl (a2)), some (.inl (a3)), some (.inl (a4)), some (.inl (a5))], [.inl (v6)], 0, 0, ix_mem 276 I6 J6 T6)
    refine ix_go 1 (x' := (if v6 = 0 then 53 else 61, [some (.inr (.inr (.inl (some (0))))), some (.inl (a0)), some (.inl (a1)), some (.inl (a2)), some (.inl (a3)), some (.inl (a4)), some (.inl (a5))], [], 0, 0, ix_mem 276 I6 J6 T6)) rfl trivial ?_
    refine ix_br (fun c7 => ?_) (fun c7 => ?_)
    · have h8 := h6.1 c7
      refine ix_go 2 (x' := (56, [some (.inr (.inr (.inl (some (0))))), some (.inl (a0)), some (.inl (a1)), some (.inl (a2)), some (.inl (a3)), some (.inl (a4)), some (.inl (a5))], [.inl ((6 : Int32)), .inr (.inr (.inl (some (0))))], 0, 0, ix_mem 276 I6 J6 T6)) rfl trivial ?_
      refine ix_sp rfl ⟨rfl, ⟨ix_lt rfl, ix_eq rfl, ix_lt rfl⟩, ix_le rfl, Nat.le_refl _, Nat.le_refl _, tp_X11_refuse h8 (fun v9 I9 J9 T9 h9 => ?_)⟩
      change ix_W _ _ _ (59, [some (.inr (.inr (.inl (some (0))))), some (.inl (a0)), some (.inl (a1)), some (.inl (a2)), some (.inl (a3)), some (.inl (a4)), some (.inl (a5))], [.inl (v9)], 0, 0, ix_mem 276 I9 J9 T9)
      refine ix_go 1 (x' := (60, [some (.inr (.inr (.inl (some (0))))), some (.inl (a0)), some (.inl (a1)), some (.inl (a2)), some (.inl (a3)), some (.inl (a4)), some (.inl (a5))], [.inr (.inl ((v9).toInt64))], 0, 0, ix_mem 276 I9 J9 T9)) rfl trivial ?_
      exact ix_sp rfl ⟨Nat.le_refl _, Nat.le_refl _, rfl, hQ _ _ _ _ h9⟩
    · have h8 := h6.2 c7
      refine ix_go 5 (x' := (70, [some (.inr (.inr (.inl (some (0))))), some (.inl (a0)), some (.inl (a1)), some (.inl (a2)), some (.inl (a3)), some (.inl (a4)), some (.inl (a5))], [.inr (.inr (.inl (some (97))))], 0, 0, ix_mem 276 (ix_u2 I6 0 0 ((0 : Int32))) J6 T6)) rfl ⟨rfl, rfl, rfl, rfl⟩ ?_
      refine ix_sp rfl ⟨rfl, ⟨ix_lt rfl, ix_eq rfl, ix_lt rfl⟩, ix_le rfl, Nat.le_refl _, Nat.le_refl _, tp_X10_bestPrice h8 (fun v10 I10 J10 T10 h10 => ?_)⟩
      change ix_W _ _ _ (73, [some (.inr (.inr (.inl (some (0))))), some (.inl (a0)), some (.inl (a1)), some (.inl (a2)), some (.inl (a3)), some (.inl (a4)), some (.inl (a5))], [.inr (.inl (v10))], 0, 0, ix_mem 276 I10 J10 T10)
      exact ix_sp rfl ⟨Nat.le_refl _, Nat.le_refl _, rfl, hQ _ _ _ _ h10⟩
def wp_X11_way (a0 : Int32) (a1 : Int32) (a2 : Int32) (a3 : Int32) (a4 : Int32) (a5 : Int32) (a6 : Int32) (I : Nat → Nat → Int32) (J : Nat → Nat → Int64) (T : Option Nat) (P : Int32 → (Nat → Nat → Int32) → (Nat → Nat → Int64) → Option Nat → Prop) : Prop := wp_X11_isMail (a0) (a1) (a2) (a3) (a4) (a5) I J T (fun v1 I1 J1 T1 => ((v1 = 0 → wp_X11_refuse ((1 : Int32)) I1 J1 T1 (fun v4 I4 J4 T4 => P (v4) I4 J4 T4)) ∧ (¬ (v1 = 0) → wp_X11_outside ((a6).toInt64) ((0 : Int64)) ((6 : Int64)) I1 J1 T1 (fun v5 I5 J5 T5 => ((v5 = 0 → wp_X6_become (a0) (a1) (a2) (a3) (a4) (a5) I5 J5 T5 (fun I8 J8 T8 => wp_X10_findBest I8 J8 T8 (fun v9 I9 J9 T9 => ((v9 = 0 → wp_X11_refuse ((6 : Int32)) I9 J9 T9 (fun v12 I12 J12 T12 => P (v12) I12 J12 T12)) ∧ (¬ (v9 = 0) → ((a6 = 0 → wp_X10_bestLength I9 J9 T9 (fun v15 I15 J15 T15 => wp_X11_answerOrNoneSuch (v15) I15 J15 T15 (fun v16 I16 J16 T16 => P (v16) I16 J16 T16))) ∧ (¬ (a6 = 0) → ((a6 = (1 : Int32) → wp_X10_bestDays I9 J9 T9 (fun v19 I19 J19 T19 => wp_X11_answerOrNoneSuch (v19) I19 J19 T19 (fun v20 I20 J20 T20 => P (v20) I20 J20 T20))) ∧ (¬ (a6 = (1 : Int32)) → wp_X10_bestLand ((a6) - ((2 : Int32))) I9 J9 T9 (fun v21 I21 J21 T21 => wp_X11_answerOrNoneSuch (v21) I21 J21 T21 (fun v22 I22 J22 T22 => P (v22) I22 J22 T22))))))))))) ∧ (¬ (v5 = 0) → wp_X11_refuse ((1 : Int32)) I5 J5 T5 (fun v23 I23 J23 T23 => P (v23) I23 J23 T23)))))))
set_option maxRecDepth 20000 in
theorem tp_X11_way {d : Nat} {a0 : Int32} {a1 : Int32} {a2 : Int32} {a3 : Int32} {a4 : Int32} {a5 : Int32} {a6 : Int32} {I : Nat → Nat → Int32} {J : Nat → Nat → Int64} {T : Option Nat} {P : Int32 → (Nat → Nat → Int32) → (Nat → Nat → Int64) → Option Nat → Prop} {Q : ix_Q} (h : wp_X11_way a0 a1 a2 a3 a4 a5 a6 I J T P) (hQ : ∀ v I J T, P v I J T → Q (some (.inl v)) (ix_mem 276 I J T)) : ix_C (d + 10) 190 [.inr (.inr (.inl (some (0)))), .inl (a0), .inl (a1), .inl (a2), .inl (a3), .inl (a4), .inl (a5), .inl (a6)] (ix_mem 276 I J T) Q := by
  unfold wp_X11_way at h
  refine ix_enter (ls := [some (.inr (.inr (.inl (some (0))))), some (.inl (a0)), some (.inl (a1)), some (.inl (a2)), some (.inl (a3)), some (.inl (a4)), some (.inl (a5)), some (.inl (a6))]) rfl rfl rfl (Nat.le_of_ble_eq_true rfl) ?_
  refine ix_go 7 (x' := (10, [some (.inr (.inr (.inl (some (0))))), some (.inl (a0)), some (.inl (a1)), some (.inl (a2)), some (.inl (a3)), some (.inl (a4)), some (.inl (a5)), some (.inl (a6))], [.inl (a5), .inl (a4), .inl (a3), .inl (a2), .inl (a1), .inl (a0), .inr (.inr (.inl (some (0))))], 0, 0, ix_mem 276 I J T)) rfl trivial ?_
  refine ix_sp rfl ⟨rfl, ⟨ix_lt rfl, ix_eq rfl, ix_lt rfl⟩, ix_le rfl, Nat.le_refl _, Nat.le_refl _, tp_X11_isMail h (fun v1 I1 J1 T1 h1 => ?_)⟩
  change ix_W _ _ _ (13, [some (.inr (.inr (.inl (some (0))))), some (.inl (a0)), some (.inl (a1)), some (.inl (a2)), some (.inl (a3)), some (.inl (a4)), some (.inl (a5)), some (.inl (a6))], [.inl (v1)], 0, 0, ix_mem 276 I1 J1 T1)
  refine ix_go 1 (x' := (if v1 = 0 then 29 else 16, [some (.inr (.inr (.inl (some (0))))), some (.inl (a0)), some (.inl (a1)), some (.inl (a2)), some (.inl (a3)), some (.inl (a4)), some (.inl (a5)), some (.inl (a6))], [], 0, 0, ix_mem 276 I1 J1 T1)) rfl trivial ?_
  refine ix_br (fun c2 => ?_) (fun c2 => ?_)
  · have h3 := h1.1 c2
    refine ix_go 2 (x' := (31, [some (.inr (.inr (.inl (some (0))))), some (.inl (a0)), some (.inl (a1)), some (.inl (a2)), some (.inl (a3)), some (.inl (a4)), some (.inl (a5)), some (.inl (a6))], [.inl ((1 : Int32)), .inr (.inr (.inl (some (0))))], 0, 0, ix_mem 276 I1 J1 T1)) rfl trivial ?_
    refine ix_sp rfl ⟨rfl, ⟨ix_lt rfl, ix_eq rfl, ix_lt rfl⟩, ix_le rfl, Nat.le_refl _, Nat.le_refl _, tp_X11_refuse h3 (fun v4 I4 J4 T4 h4 => ?_)⟩
    change ix_W _ _ _ (34, [some (.inr (.inr (.inl (some (0))))), some (.inl (a0)), some (.inl (a1)), some (.inl (a2)), some (.inl (a3)), some (.inl (a4)), some (.inl (a5)), some (.inl (a6))], [.inl (v4)], 0, 0, ix_mem 276 I4 J4 T4)
    exact ix_sp rfl ⟨Nat.le_refl _, Nat.le_refl _, trivial, hQ _ _ _ _ h4⟩
  · have h3 := h1.2 c2
    refine ix_go 4 (x' := (23, [some (.inr (.inr (.inl (some (0))))), some (.inl (a0)), some (.inl (a1)), some (.inl (a2)), some (.inl (a3)), some (.inl (a4)), some (.inl (a5)), some (.inl (a6))], [.inr (.inl ((6 : Int64))), .inr (.inl ((0 : Int64))), .inr (.inl ((a6).toInt64))], 0, 0, ix_mem 276 I1 J1 T1)) rfl trivial ?_
    refine ix_sp rfl ⟨rfl, trivial, ix_le rfl, Nat.le_refl _, Nat.le_refl _, tp_X11_outside h3 (fun v5 I5 J5 T5 h5 => ?_)⟩
    change ix_W _ _ _ (26, [some (.inr (.inr (.inl (some (0))))), some (.inl (a0)), some (.inl (a1)), some (.inl (a2)), some (.inl (a3)), some (.inl (a4)), some (.inl (a5)), some (.inl (a6))], [.inl (v5)], 0, 0, ix_mem 276 I5 J5 T5)
    refine ix_go 1 (x' := (if v5 = 0 then 35 else 29, [some (.inr (.inr (.inl (some (0))))), some (.inl (a0)), some (.inl (a1)), some (.inl (a2)), some (.inl (a3)), some (.inl (a4)), some (.inl (a5)), some (.inl (a6))], [], 0, 0, ix_mem 276 I5 J5 T5)) rfl trivial ?_
    refine ix_br (fun c6 => ?_) (fun c6 => ?_)
    · have h7 := h5.1 c6
      refine ix_go 7 (x' := (46, [some (.inr (.inr (.inl (some (0))))), some (.inl (a0)), some (.inl (a1)), some (.inl (a2)), some (.inl (a3)), some (.inl (a4)), some (.inl (a5)), some (.inl (a6))], [.inl (a4), .inl (a3), .inl (a2), .inl (a1), .inl (a0), .inr (.inr (.inl (some (95))))], 0, 0, ix_mem 276 I5 J5 T5)) rfl ⟨rfl, rfl⟩ ?_
      refine ix_go 1 (x' := (48, [some (.inr (.inr (.inl (some (0))))), some (.inl (a0)), some (.inl (a1)), some (.inl (a2)), some (.inl (a3)), some (.inl (a4)), some (.inl (a5)), some (.inl (a6))], [.inl (a5), .inl (a4), .inl (a3), .inl (a2), .inl (a1), .inl (a0), .inr (.inr (.inl (some (95))))], 0, 0, ix_mem 276 I5 J5 T5)) rfl trivial ?_
      refine ix_sp rfl ⟨rfl, ⟨ix_lt rfl, ix_eq rfl, ix_lt rfl⟩, ix_le rfl, Nat.le_refl _, Nat.le_refl _, tp_X6_become h7 (fun I8 J8 T8 h8 => ?_)⟩
      change ix_W _ _ _ (51, [some (.inr (.inr (.inl (some (0))))), some (.inl (a0)), some (.inl (a1)), some (.inl (a2)), some (.inl (a3)), some (.inl (a4)), some (.inl (a5)), some (.inl (a6))], [], 0, 0, ix_mem 276 I8 J8 T8)
      refine ix_go 4 (x' := (59, [some (.inr (.inr (.inl (some (0))))), some (.inl (a0)), some (.inl (a1)), some (.inl (a2)), some (.inl (a3)), some (.inl (a4)), some (.inl (a5)), some (.inl (a6))], [.inr (.inr (.inl (some (95)))), .inr (.inr (.inl (some (97))))], 0, 0, ix_mem 276 I8 J8 T8)) rfl ⟨rfl, rfl, rfl, rfl⟩ ?_
      refine ix_sp rfl ⟨rfl, ⟨ix_lt rfl, ix_eq rfl, ix_lt rfl⟩, ix_le rfl, Nat.le_refl _, Nat.le_refl _, tp_X10_findBest h8 (fun v9 I9 J9 T9 h9 => ?_)⟩
      change ix_W _ _ _ (62, [some (.inr (.inr (.inl (some (0))))), some (.inl (a0)), some (.inl (a1)), some (.inl (a2)), some (.inl (a3)), some (.inl (a4)), some (.inl (a5)), some (.inl (a6))], [.inl (v9)], 0, 0, ix_mem 276 I9 J9 T9)
      refine ix_go 1 (x' := (if v9 = 0 then 65 else 72, [some (.inr (.inr (.inl (some (0))))), some (.inl (a0)), some (.inl (a1)), some (.inl (a2)), some (.inl (a3)), some (.inl (a4)), some (.inl (a5)), some (.inl (a6))], [], 0, 0, ix_mem 276 I9 J9 T9)) rfl trivial ?_
      refine ix_br (fun c10 => ?_) (fun c10 => ?_)
      · have h11 := h9.1 c10
        refine ix_go 2 (x' := (68, [some (.inr (.inr (.inl (some (0))))), some (.inl (a0)), some (.inl (a1)), some (.inl (a2)), some (.inl (a3)), some (.inl (a4)), some (.inl (a5)), some (.inl (a6))], [.inl ((6 : Int32)), .inr (.inr (.inl (some (0))))], 0, 0, ix_mem 276 I9 J9 T9)) rfl trivial ?_
        refine ix_sp rfl ⟨rfl, ⟨ix_lt rfl, ix_eq rfl, ix_lt rfl⟩, ix_le rfl, Nat.le_refl _, Nat.le_refl _, tp_X11_refuse h11 (fun v12 I12 J12 T12 h12 => ?_)⟩
        change ix_W _ _ _ (71, [some (.inr (.inr (.inl (some (0))))), some (.inl (a0)), some (.inl (a1)), some (.inl (a2)), some (.inl (a3)), some (.inl (a4)), some (.inl (a5)), some (.inl (a6))], [.inl (v12)], 0, 0, ix_mem 276 I12 J12 T12)
        exact ix_sp rfl ⟨Nat.le_refl _, Nat.le_refl _, trivial, hQ _ _ _ _ h12⟩
      · have h11 := h9.2 c10
        refine ix_go 2 (x' := (if a6 = 0 then 77 else 89, [some (.inr (.inr (.inl (some (0))))), some (.inl (a0)), some (.inl (a1)), some (.inl (a2)), some (.inl (a3)), some (.inl (a4)), some (.inl (a5)), some (.inl (a6))], [], 0, 0, ix_mem 276 I9 J9 T9)) rfl trivial ?_
        refine ix_br (fun c13 => ?_) (fun c13 => ?_)
        · have h14 := h11.1 c13
          refine ix_go 3 (x' := (82, [some (.inr (.inr (.inl (some (0))))), some (.inl (a0)), some (.inl (a1)), some (.inl (a2)), some (.inl (a3)), some (.inl (a4)), some (.inl (a5)), some (.inl (a6))], [.inr (.inr (.inl (some (97)))), .inr (.inr (.inl (some (0))))], 0, 0, ix_mem 276 I9 J9 T9)) rfl ⟨rfl, rfl⟩ ?_
          refine ix_sp rfl ⟨rfl, ⟨ix_lt rfl, ix_eq rfl, ix_lt rfl⟩, ix_le rfl, Nat.le_refl _, Nat.le_refl _, tp_X10_bestLength h14 (fun v15 I15 J15 T15 h15 => ?_)⟩
          change ix_W _ _ _ (85, [some (.inr (.inr (.inl (some (0))))), some (.inl (a0)), some (.inl (a1)), some (.inl (a2)), some (.inl (a3)), some (.inl (a4)), some (.inl (a5)), some (.inl (a6))], [.inl (v15), .inr (.inr (.inl (some (0))))], 0, 0, ix_mem 276 I15 J15 T15)
          refine ix_sp rfl ⟨rfl, ⟨ix_lt rfl, ix_eq rfl, ix_lt rfl⟩, ix_le rfl, Nat.le_refl _, Nat.le_refl _, tp_X11_answerOrNoneSuch h15 (fun v16 I16 J16 T16 h16 => ?_)⟩
          change ix_W _ _ _ (88, [some (.inr (.inr (.inl (some (0))))), some (.inl (a0)), some (.inl (a1)), some (.inl (a2)), some (.inl (a3)), some (.inl (a4)), some (.inl (a5)), some (.inl (a6))], [.inl (v16)], 0, 0, ix_mem 276 I16 J16 T16)
          exact ix_sp rfl ⟨Nat.le_refl _, Nat.le_refl _, trivial, hQ _ _ _ _ h16⟩
        · have h14 := h11.2 c13
          refine ix_go 4 (x' := (if a6 = (1 : Int32) then 96 else 106, [some (.inr (.inr (.inl (some (0))))), some (.inl (a0)), some (.inl (a1)), some (.inl (a2)), some (.inl (a3)), some (.inl (a4)), some (.inl (a5)), some (.inl (a6))], [.inr (.inr (.inl (some (0))))], 0, 0, ix_mem 276 I9 J9 T9)) rfl trivial ?_
          refine ix_br (fun c17 => ?_) (fun c17 => ?_)
          · have h18 := h14.1 c17
            refine ix_go 2 (x' := (100, [some (.inr (.inr (.inl (some (0))))), some (.inl (a0)), some (.inl (a1)), some (.inl (a2)), some (.inl (a3)), some (.inl (a4)), some (.inl (a5)), some (.inl (a6))], [.inr (.inr (.inl (some (97)))), .inr (.inr (.inl (some (0))))], 0, 0, ix_mem 276 I9 J9 T9)) rfl ⟨rfl, rfl⟩ ?_
            refine ix_sp rfl ⟨rfl, ⟨ix_lt rfl, ix_eq rfl, ix_lt rfl⟩, ix_le rfl, Nat.le_refl _, Nat.le_refl _, tp_X10_bestDays h18 (fun v19 I19 J19 T19 h19 => ?_)⟩
            change ix_W _ _ _ (103, [some (.inr (.inr (.inl (some (0))))), some (.inl (a0)), some (.inl (a1)), some (.inl (a2)), some (.inl (a3)), some (.inl (a4)), some (.inl (a5)), some (.inl (a6))], [.inl (v19), .inr (.inr (.inl (some (0))))], 0, 0, ix_mem 276 I19 J19 T19)
            refine ix_go 1 (x' := (117, [some (.inr (.inr (.inl (some (0))))), some (.inl (a0)), some (.inl (a1)), some (.inl (a2)), some (.inl (a3)), some (.inl (a4)), some (.inl (a5)), some (.inl (a6))], [.inl (v19), .inr (.inr (.inl (some (0))))], 0, 0, ix_mem 276 I19 J19 T19)) rfl trivial ?_
            refine ix_sp rfl ⟨rfl, ⟨ix_lt rfl, ix_eq rfl, ix_lt rfl⟩, ix_le rfl, Nat.le_refl _, Nat.le_refl _, tp_X11_answerOrNoneSuch h19 (fun v20 I20 J20 T20 h20 => ?_)⟩
            change ix_W _ _ _ (120, [some (.inr (.inr (.inl (some (0))))), some (.inl (a0)), some (.inl (a1)), some (.inl (a2)), some (.inl (a3)), some (.inl (a4)), some (.inl (a5)), some (.inl (a6))], [.inl (v20)], 0, 0, ix_mem 276 I20 J20 T20)
            exact ix_sp rfl ⟨Nat.le_refl _, Nat.le_refl _, trivial, hQ _ _ _ _ h20⟩
          · have h18 := h14.2 c17
            refine ix_go 5 (x' := (114, [some (.inr (.inr (.inl (some (0))))), some (.inl (a0)), some (.inl (a1)), some (.inl (a2)), some (.inl (a3)), some (.inl (a4)), some (.inl (a5)), some (.inl (a6))], [.inl ((a6) - ((2 : Int32))), .inr (.inr (.inl (some (97)))), .inr (.inr (.inl (some (0))))], 0, 0, ix_mem 276 I9 J9 T9)) rfl ⟨rfl, rfl⟩ ?_
            refine ix_sp rfl ⟨rfl, ⟨ix_lt rfl, ix_eq rfl, ix_lt rfl⟩, ix_le rfl, Nat.le_refl _, Nat.le_refl _, tp_X10_bestLand h18 (fun v21 I21 J21 T21 h21 => ?_)⟩
            change ix_W _ _ _ (117, [some (.inr (.inr (.inl (some (0))))), some (.inl (a0)), some (.inl (a1)), some (.inl (a2)), some (.inl (a3)), some (.inl (a4)), some (.inl (a5)), some (.inl (a6))], [.inl (v21), .inr (.inr (.inl (some (0))))], 0, 0, ix_mem 276 I21 J21 T21)
            refine ix_sp rfl ⟨rfl, ⟨ix_lt rfl, ix_eq rfl, ix_lt rfl⟩, ix_le rfl, Nat.le_refl _, Nat.le_refl _, tp_X11_answerOrNoneSuch h21 (fun v22 I22 J22 T22 h22 => ?_)⟩
            change ix_W _ _ _ (120, [some (.inr (.inr (.inl (some (0))))), some (.inl (a0)), some (.inl (a1)), some (.inl (a2)), some (.inl (a3)), some (.inl (a4)), some (.inl (a5)), some (.inl (a6))], [.inl (v22)], 0, 0, ix_mem 276 I22 J22 T22)
            exact ix_sp rfl ⟨Nat.le_refl _, Nat.le_refl _, trivial, hQ _ _ _ _ h22⟩
    · have h7 := h5.2 c6
      refine ix_go 2 (x' := (31, [some (.inr (.inr (.inl (some (0))))), some (.inl (a0)), some (.inl (a1)), some (.inl (a2)), some (.inl (a3)), some (.inl (a4)), some (.inl (a5)), some (.inl (a6))], [.inl ((1 : Int32)), .inr (.inr (.inl (some (0))))], 0, 0, ix_mem 276 I5 J5 T5)) rfl trivial ?_
      refine ix_sp rfl ⟨rfl, ⟨ix_lt rfl, ix_eq rfl, ix_lt rfl⟩, ix_le rfl, Nat.le_refl _, Nat.le_refl _, tp_X11_refuse h7 (fun v23 I23 J23 T23 h23 => ?_)⟩
      change ix_W _ _ _ (34, [some (.inr (.inr (.inl (some (0))))), some (.inl (a0)), some (.inl (a1)), some (.inl (a2)), some (.inl (a3)), some (.inl (a4)), some (.inl (a5)), some (.inl (a6))], [.inl (v23)], 0, 0, ix_mem 276 I23 J23 T23)
      exact ix_sp rfl ⟨Nat.le_refl _, Nat.le_refl _, trivial, hQ _ _ _ _ h23⟩
def wp_X11_carried (a0 : Int32) (a1 : Int32) (I : Nat → Nat → Int32) (J : Nat → Nat → Int64) (T : Option Nat) (P : Int32 → (Nat → Nat → Int32) → (Nat → Nat → Int64) → Option Nat → Prop) : Prop := wp_X11_isLand (a0) I J T (fun v1 I1 J1 T1 => ((v1 = 0 → wp_X11_refuse ((1 : Int32)) I1 J1 T1 (fun v4 I4 J4 T4 => P (v4) I4 J4 T4)) ∧ (¬ (v1 = 0) → wp_X11_isLand (a1) I1 J1 T1 (fun v5 I5 J5 T5 => ((v5 = 0 → wp_X11_refuse ((1 : Int32)) I5 J5 T5 (fun v8 I8 J8 T8 => P (v8) I8 J8 T8)) ∧ (¬ (v5 = 0) → wp_X5_isReached (a0) (a1) I5 J5 T5 (fun v9 I9 J9 T9 => ((v9 = 0 → wp_X11_answerOrNoneSuch ((-1 : Int32)) I9 J9 T9 (fun v12 I12 J12 T12 => P (v12) I12 J12 T12)) ∧ (¬ (v9 = 0) → wp_X5_carriage (a0) (a1) I9 J9 T9 (fun v13 I13 J13 T13 => wp_X11_answerOrNoneSuch (v13) I13 J13 T13 (fun v14 I14 J14 T14 => P (v14) I14 J14 T14)))))))))))
set_option maxRecDepth 20000 in
theorem tp_X11_carried {d : Nat} {a0 : Int32} {a1 : Int32} {I : Nat → Nat → Int32} {J : Nat → Nat → Int64} {T : Option Nat} {P : Int32 → (Nat → Nat → Int32) → (Nat → Nat → Int64) → Option Nat → Prop} {Q : ix_Q} (h : wp_X11_carried a0 a1 I J T P) (hQ : ∀ v I J T, P v I J T → Q (some (.inl v)) (ix_mem 276 I J T)) : ix_C (d + 3) 191 [.inr (.inr (.inl (some (0)))), .inl (a0), .inl (a1)] (ix_mem 276 I J T) Q := by
  unfold wp_X11_carried at h
  refine ix_enter (ls := [some (.inr (.inr (.inl (some (0))))), some (.inl (a0)), some (.inl (a1))]) rfl rfl rfl (Nat.le_of_ble_eq_true rfl) ?_
  refine ix_go 2 (x' := (2, [some (.inr (.inr (.inl (some (0))))), some (.inl (a0)), some (.inl (a1))], [.inl (a0), .inr (.inr (.inl (some (0))))], 0, 0, ix_mem 276 I J T)) rfl trivial ?_
  refine ix_sp rfl ⟨rfl, ⟨ix_lt rfl, ix_eq rfl, ix_lt rfl⟩, ix_le rfl, Nat.le_refl _, Nat.le_refl _, tp_X11_isLand h (fun v1 I1 J1 T1 h1 => ?_)⟩
  change ix_W _ _ _ (5, [some (.inr (.inr (.inl (some (0))))), some (.inl (a0)), some (.inl (a1))], [.inl (v1)], 0, 0, ix_mem 276 I1 J1 T1)
  refine ix_go 1 (x' := (if v1 = 0 then 16 else 8, [some (.inr (.inr (.inl (some (0))))), some (.inl (a0)), some (.inl (a1))], [], 0, 0, ix_mem 276 I1 J1 T1)) rfl trivial ?_
  refine ix_br (fun c2 => ?_) (fun c2 => ?_)
  · have h3 := h1.1 c2
    refine ix_go 2 (x' := (18, [some (.inr (.inr (.inl (some (0))))), some (.inl (a0)), some (.inl (a1))], [.inl ((1 : Int32)), .inr (.inr (.inl (some (0))))], 0, 0, ix_mem 276 I1 J1 T1)) rfl trivial ?_
    refine ix_sp rfl ⟨rfl, ⟨ix_lt rfl, ix_eq rfl, ix_lt rfl⟩, ix_le rfl, Nat.le_refl _, Nat.le_refl _, tp_X11_refuse h3 (fun v4 I4 J4 T4 h4 => ?_)⟩
    change ix_W _ _ _ (21, [some (.inr (.inr (.inl (some (0))))), some (.inl (a0)), some (.inl (a1))], [.inl (v4)], 0, 0, ix_mem 276 I4 J4 T4)
    exact ix_sp rfl ⟨Nat.le_refl _, Nat.le_refl _, trivial, hQ _ _ _ _ h4⟩
  · have h3 := h1.2 c2
    refine ix_go 2 (x' := (10, [some (.inr (.inr (.inl (some (0))))), some (.inl (a0)), some (.inl (a1))], [.inl (a1), .inr (.inr (.inl (some (0))))], 0, 0, ix_mem 276 I1 J1 T1)) rfl trivial ?_
    refine ix_sp rfl ⟨rfl, ⟨ix_lt rfl, ix_eq rfl, ix_lt rfl⟩, ix_le rfl, Nat.le_refl _, Nat.le_refl _, tp_X11_isLand h3 (fun v5 I5 J5 T5 h5 => ?_)⟩
    change ix_W _ _ _ (13, [some (.inr (.inr (.inl (some (0))))), some (.inl (a0)), some (.inl (a1))], [.inl (v5)], 0, 0, ix_mem 276 I5 J5 T5)
    refine ix_go 1 (x' := (if v5 = 0 then 16 else 22, [some (.inr (.inr (.inl (some (0))))), some (.inl (a0)), some (.inl (a1))], [], 0, 0, ix_mem 276 I5 J5 T5)) rfl trivial ?_
    refine ix_br (fun c6 => ?_) (fun c6 => ?_)
    · have h7 := h5.1 c6
      refine ix_go 2 (x' := (18, [some (.inr (.inr (.inl (some (0))))), some (.inl (a0)), some (.inl (a1))], [.inl ((1 : Int32)), .inr (.inr (.inl (some (0))))], 0, 0, ix_mem 276 I5 J5 T5)) rfl trivial ?_
      refine ix_sp rfl ⟨rfl, ⟨ix_lt rfl, ix_eq rfl, ix_lt rfl⟩, ix_le rfl, Nat.le_refl _, Nat.le_refl _, tp_X11_refuse h7 (fun v8 I8 J8 T8 h8 => ?_)⟩
      change ix_W _ _ _ (21, [some (.inr (.inr (.inl (some (0))))), some (.inl (a0)), some (.inl (a1))], [.inl (v8)], 0, 0, ix_mem 276 I8 J8 T8)
      exact ix_sp rfl ⟨Nat.le_refl _, Nat.le_refl _, trivial, hQ _ _ _ _ h8⟩
    · have h7 := h5.2 c6
      refine ix_go 5 (x' := (29, [some (.inr (.inr (.inl (some (0))))), some (.inl (a0)), some (.inl (a1))], [.inl (a1), .inl (a0), .inr (.inr (.inl (some (8)))), .inr (.inr (.inl (some (0))))], 0, 0, ix_mem 276 I5 J5 T5)) rfl ⟨rfl, rfl⟩ ?_
      refine ix_sp rfl ⟨rfl, ⟨ix_lt rfl, ix_eq rfl, ix_lt rfl⟩, ix_le rfl, Nat.le_refl _, Nat.le_refl _, tp_X5_isReached h7 (fun v9 I9 J9 T9 h9 => ?_)⟩
      change ix_W _ _ _ (32, [some (.inr (.inr (.inl (some (0))))), some (.inl (a0)), some (.inl (a1))], [.inl (v9), .inr (.inr (.inl (some (0))))], 0, 0, ix_mem 276 I9 J9 T9)
      refine ix_go 1 (x' := (if v9 = 0 then 47 else 35, [some (.inr (.inr (.inl (some (0))))), some (.inl (a0)), some (.inl (a1))], [.inr (.inr (.inl (some (0))))], 0, 0, ix_mem 276 I9 J9 T9)) rfl trivial ?_
      refine ix_br (fun c10 => ?_) (fun c10 => ?_)
      · have h11 := h9.1 c10
        refine ix_go 1 (x' := (48, [some (.inr (.inr (.inl (some (0))))), some (.inl (a0)), some (.inl (a1))], [.inl ((-1 : Int32)), .inr (.inr (.inl (some (0))))], 0, 0, ix_mem 276 I9 J9 T9)) rfl trivial ?_
        refine ix_sp rfl ⟨rfl, ⟨ix_lt rfl, ix_eq rfl, ix_lt rfl⟩, ix_le rfl, Nat.le_refl _, Nat.le_refl _, tp_X11_answerOrNoneSuch h11 (fun v12 I12 J12 T12 h12 => ?_)⟩
        change ix_W _ _ _ (51, [some (.inr (.inr (.inl (some (0))))), some (.inl (a0)), some (.inl (a1))], [.inl (v12)], 0, 0, ix_mem 276 I12 J12 T12)
        exact ix_sp rfl ⟨Nat.le_refl _, Nat.le_refl _, trivial, hQ _ _ _ _ h12⟩
      · have h11 := h9.2 c10
        refine ix_go 4 (x' := (41, [some (.inr (.inr (.inl (some (0))))), some (.inl (a0)), some (.inl (a1))], [.inl (a1), .inl (a0), .inr (.inr (.inl (some (8)))), .inr (.inr (.inl (some (0))))], 0, 0, ix_mem 276 I9 J9 T9)) rfl ⟨rfl, rfl⟩ ?_
        refine ix_sp rfl ⟨rfl, ⟨ix_lt rfl, ix_eq rfl, ix_lt rfl⟩, ix_le rfl, Nat.le_refl _, Nat.le_refl _, tp_X5_carriage h11 (fun v13 I13 J13 T13 h13 => ?_)⟩
        change ix_W _ _ _ (44, [some (.inr (.inr (.inl (some (0))))), some (.inl (a0)), some (.inl (a1))], [.inl (v13), .inr (.inr (.inl (some (0))))], 0, 0, ix_mem 276 I13 J13 T13)
        refine ix_go 1 (x' := (48, [some (.inr (.inr (.inl (some (0))))), some (.inl (a0)), some (.inl (a1))], [.inl (v13), .inr (.inr (.inl (some (0))))], 0, 0, ix_mem 276 I13 J13 T13)) rfl trivial ?_
        refine ix_sp rfl ⟨rfl, ⟨ix_lt rfl, ix_eq rfl, ix_lt rfl⟩, ix_le rfl, Nat.le_refl _, Nat.le_refl _, tp_X11_answerOrNoneSuch h13 (fun v14 I14 J14 T14 h14 => ?_)⟩
        change ix_W _ _ _ (51, [some (.inr (.inr (.inl (some (0))))), some (.inl (a0)), some (.inl (a1))], [.inl (v14)], 0, 0, ix_mem 276 I14 J14 T14)
        exact ix_sp rfl ⟨Nat.le_refl _, Nat.le_refl _, trivial, hQ _ _ _ _ h14⟩
def wp_X11_remailed (a0 : Int32) (a1 : Int32) (a2 : Int32) (a3 : Int32) (a4 : Int32) (a5 : Int32) (I : Nat → Nat → Int32) (J : Nat → Nat → Int64) (T : Option Nat) (P : Int64 → (Nat → Nat → Int32) → (Nat → Nat → Int64) → Option Nat → Prop) : Prop := wp_X11_isMail (a0) (a1) (a2) (a3) (a4) (a5) I J T (fun v1 I1 J1 T1 => ((v1 = 0 → wp_X11_refuse ((1 : Int32)) I1 J1 T1 (fun v4 I4 J4 T4 => P ((v4).toInt64) I4 J4 T4)) ∧ (¬ (v1 = 0) → wp_X6_become (a0) (a1) (a2) (a3) (a4) (a5) I1 J1 T1 (fun I5 J5 T5 => wp_X10_findRemailer I5 J5 T5 (fun v6 I6 J6 T6 => ((v6 = (-1 : Int32) → wp_X11_refuse ((6 : Int32)) I6 J6 T6 (fun v9 I9 J9 T9 => P ((v9).toInt64) I9 J9 T9)) ∧ (¬ (v6 = (-1 : Int32)) → wp_X10_remailPrice (ix_u2 I6 0 0 ((0 : Int32))) J6 T6 (fun v10 I10 J10 T10 => P (v10) I10 J10 T10))))))))
set_option maxRecDepth 20000 in
theorem tp_X11_remailed {d : Nat} {a0 : Int32} {a1 : Int32} {a2 : Int32} {a3 : Int32} {a4 : Int32} {a5 : Int32} {I : Nat → Nat → Int32} {J : Nat → Nat → Int64} {T : Option Nat} {P : Int64 → (Nat → Nat → Int32) → (Nat → Nat → Int64) → Option Nat → Prop} {Q : ix_Q} (h : wp_X11_remailed a0 a1 a2 a3 a4 a5 I J T P) (hQ : ∀ v I J T, P v I J T → Q (some (.inr (.inl v))) (ix_mem 276 I J T)) : ix_C (d + 11) 192 [.inr (.inr (.inl (some (0)))), .inl (a0), .inl (a1), .inl (a2), .inl (a3), .inl (a4), .inl (a5)] (ix_mem 276 I J T) Q := by
  unfold wp_X11_remailed at h
  refine ix_enter (ls := [some (.inr (.inr (.inl (some (0))))), some (.inl (a0)), some (.inl (a1)), some (.inl (a2)), some (.inl (a3)), some (.inl (a4)), some (.inl (a5))]) rfl rfl rfl (Nat.le_of_ble_eq_true rfl) ?_
  refine ix_go 7 (x' := (10, [some (.inr (.inr (.inl (some (0))))), some (.inl (a0)), some (.inl (a1)), some (.inl (a2)), some (.inl (a3)), some (.inl (a4)), some (.inl (a5))], [.inl (a5), .inl (a4), .inl (a3), .inl (a2), .inl (a1), .inl (a0), .inr (.inr (.inl (some (0))))], 0, 0, ix_mem 276 I J T)) rfl trivial ?_
  refine ix_sp rfl ⟨rfl, ⟨ix_lt rfl, ix_eq rfl, ix_lt rfl⟩, ix_le rfl, Nat.le_refl _, Nat.le_refl _, tp_X11_isMail h (fun v1 I1 J1 T1 h1 => ?_)⟩
  change ix_W _ _ _ (13, [some (.inr (.inr (.inl (some (0))))), some (.inl (a0)), some (.inl (a1)), some (.inl (a2)), some (.inl (a3)), some (.inl (a4)), some (.inl (a5))], [.inl (v1)], 0, 0, ix_mem 276 I1 J1 T1)
  refine ix_go 1 (x' := (if v1 = 0 then 16 else 23, [some (.inr (.inr (.inl (some (0))))), some (.inl (a0)), some (.inl (a1)), some (.inl (a2)), some (.inl (a3)), some (.inl (a4)), some (.inl (a5))], [], 0, 0, ix_mem 276 I1 J1 T1)) rfl trivial ?_
  refine ix_br (fun c2 => ?_) (fun c2 => ?_)
  · have h3 := h1.1 c2
    refine ix_go 2 (x' := (18, [some (.inr (.inr (.inl (some (0))))), some (.inl (a0)), some (.inl (a1)), some (.inl (a2)), some (.inl (a3)), some (.inl (a4)), some (.inl (a5))], [.inl ((1 : Int32)), .inr (.inr (.inl (some (0))))], 0, 0, ix_mem 276 I1 J1 T1)) rfl trivial ?_
    refine ix_sp rfl ⟨rfl, ⟨ix_lt rfl, ix_eq rfl, ix_lt rfl⟩, ix_le rfl, Nat.le_refl _, Nat.le_refl _, tp_X11_refuse h3 (fun v4 I4 J4 T4 h4 => ?_)⟩
    change ix_W _ _ _ (21, [some (.inr (.inr (.inl (some (0))))), some (.inl (a0)), some (.inl (a1)), some (.inl (a2)), some (.inl (a3)), some (.inl (a4)), some (.inl (a5))], [.inl (v4)], 0, 0, ix_mem 276 I4 J4 T4)
    refine ix_go 1 (x' := (22, [some (.inr (.inr (.inl (some (0))))), some (.inl (a0)), some (.inl (a1)), some (.inl (a2)), some (.inl (a3)), some (.inl (a4)), some (.inl (a5))], [.inr (.inl ((v4).toInt64))], 0, 0, ix_mem 276 I4 J4 T4)) rfl trivial ?_
    exact ix_sp rfl ⟨Nat.le_refl _, Nat.le_refl _, rfl, hQ _ _ _ _ h4⟩
  · have h3 := h1.2 c2
    refine ix_go 7 (x' := (34, [some (.inr (.inr (.inl (some (0))))), some (.inl (a0)), some (.inl (a1)), some (.inl (a2)), some (.inl (a3)), some (.inl (a4)), some (.inl (a5))], [.inl (a4), .inl (a3), .inl (a2), .inl (a1), .inl (a0), .inr (.inr (.inl (some (95))))], 0, 0, ix_mem 276 I1 J1 T1)) rfl ⟨rfl, rfl⟩ ?_
    refine ix_go 1 (x' := (36, [some (.inr (.inr (.inl (some (0))))), some (.inl (a0)), some (.inl (a1)), some (.inl (a2)), some (.inl (a3)), some (.inl (a4)), some (.inl (a5))], [.inl (a5), .inl (a4), .inl (a3), .inl (a2), .inl (a1), .inl (a0), .inr (.inr (.inl (some (95))))], 0, 0, ix_mem 276 I1 J1 T1)) rfl trivial ?_
    refine ix_sp rfl ⟨rfl, ⟨ix_lt rfl, ix_eq rfl, ix_lt rfl⟩, ix_le rfl, Nat.le_refl _, Nat.le_refl _, tp_X6_become h3 (fun I5 J5 T5 h5 => ?_)⟩
    change ix_W _ _ _ (39, [some (.inr (.inr (.inl (some (0))))), some (.inl (a0)), some (.inl (a1)), some (.inl (a2)), some (.inl (a3)), some (.inl (a4)), some (.inl (a5))], [], 0, 0, ix_mem 276 I5 J5 T5)
    refine ix_go 4 (x' := (47, [some (.inr (.inr (.inl (some (0))))), some (.inl (a0)), some (.inl (a1)), some (.inl (a2)), some (.inl (a3)), some (.inl (a4)), some (.inl (a5))], [.inr (.inr (.inl (some (95)))), .inr (.inr (.inl (some (97))))], 0, 0, ix_mem 276 I5 J5 T5)) rfl ⟨rfl, rfl, rfl, rfl⟩ ?_
    refine ix_sp rfl ⟨rfl, ⟨ix_lt rfl, ix_eq rfl, ix_lt rfl⟩, ix_le rfl, Nat.le_refl _, Nat.le_refl _, tp_X10_findRemailer h5 (fun v6 I6 J6 T6 h6 => ?_)⟩
    change ix_W _ _ _ (50, [some (.inr (.inr (.inl (some (0))))), some (.inl (a0)), some (.inl (a1)), some (.inl (a2)), some (.inl (a3)), some (.inl (a4)), some (.inl (a5))], [.inl (v6)], 0, 0, ix_mem 276 I6 J6 T6)
    refine ix_go 2 (x' := (if v6 = (-1 : Int32) then 54 else 62, [some (.inr (.inr (.inl (some (0))))), some (.inl (a0)), some (.inl (a1)), some (.inl (a2)), some (.inl (a3)), some (.inl (a4)), some (.inl (a5))], [], 0, 0, ix_mem 276 I6 J6 T6)) rfl trivial ?_
    refine ix_br (fun c7 => ?_) (fun c7 => ?_)
    · have h8 := h6.1 c7
      refine ix_go 2 (x' := (57, [some (.inr (.inr (.inl (some (0))))), some (.inl (a0)), some (.inl (a1)), some (.inl (a2)), some (.inl (a3)), some (.inl (a4)), some (.inl (a5))], [.inl ((6 : Int32)), .inr (.inr (.inl (some (0))))], 0, 0, ix_mem 276 I6 J6 T6)) rfl trivial ?_
      refine ix_sp rfl ⟨rfl, ⟨ix_lt rfl, ix_eq rfl, ix_lt rfl⟩, ix_le rfl, Nat.le_refl _, Nat.le_refl _, tp_X11_refuse h8 (fun v9 I9 J9 T9 h9 => ?_)⟩
      change ix_W _ _ _ (60, [some (.inr (.inr (.inl (some (0))))), some (.inl (a0)), some (.inl (a1)), some (.inl (a2)), some (.inl (a3)), some (.inl (a4)), some (.inl (a5))], [.inl (v9)], 0, 0, ix_mem 276 I9 J9 T9)
      refine ix_go 1 (x' := (61, [some (.inr (.inr (.inl (some (0))))), some (.inl (a0)), some (.inl (a1)), some (.inl (a2)), some (.inl (a3)), some (.inl (a4)), some (.inl (a5))], [.inr (.inl ((v9).toInt64))], 0, 0, ix_mem 276 I9 J9 T9)) rfl trivial ?_
      exact ix_sp rfl ⟨Nat.le_refl _, Nat.le_refl _, rfl, hQ _ _ _ _ h9⟩
    · have h8 := h6.2 c7
      refine ix_go 5 (x' := (71, [some (.inr (.inr (.inl (some (0))))), some (.inl (a0)), some (.inl (a1)), some (.inl (a2)), some (.inl (a3)), some (.inl (a4)), some (.inl (a5))], [.inr (.inr (.inl (some (97))))], 0, 0, ix_mem 276 (ix_u2 I6 0 0 ((0 : Int32))) J6 T6)) rfl ⟨rfl, rfl, rfl, rfl⟩ ?_
      refine ix_sp rfl ⟨rfl, ⟨ix_lt rfl, ix_eq rfl, ix_lt rfl⟩, ix_le rfl, Nat.le_refl _, Nat.le_refl _, tp_X10_remailPrice h8 (fun v10 I10 J10 T10 h10 => ?_)⟩
      change ix_W _ _ _ (74, [some (.inr (.inr (.inl (some (0))))), some (.inl (a0)), some (.inl (a1)), some (.inl (a2)), some (.inl (a3)), some (.inl (a4)), some (.inl (a5))], [.inr (.inl (v10))], 0, 0, ix_mem 276 I10 J10 T10)
      exact ix_sp rfl ⟨Nat.le_refl _, Nat.le_refl _, rfl, hQ _ _ _ _ h10⟩
def wp_X11_remailer (a0 : Int32) (a1 : Int32) (a2 : Int32) (a3 : Int32) (a4 : Int32) (a5 : Int32) (I : Nat → Nat → Int32) (J : Nat → Nat → Int64) (T : Option Nat) (P : Int32 → (Nat → Nat → Int32) → (Nat → Nat → Int64) → Option Nat → Prop) : Prop := wp_X11_isMail (a0) (a1) (a2) (a3) (a4) (a5) I J T (fun v1 I1 J1 T1 => ((v1 = 0 → wp_X11_refuse ((1 : Int32)) I1 J1 T1 (fun v4 I4 J4 T4 => P (v4) I4 J4 T4)) ∧ (¬ (v1 = 0) → wp_X6_become (a0) (a1) (a2) (a3) (a4) (a5) I1 J1 T1 (fun I5 J5 T5 => wp_X10_findRemailer I5 J5 T5 (fun v6 I6 J6 T6 => wp_X11_answerOrNoneSuch (v6) I6 J6 T6 (fun v7 I7 J7 T7 => P (v7) I7 J7 T7))))))
set_option maxRecDepth 20000 in
theorem tp_X11_remailer {d : Nat} {a0 : Int32} {a1 : Int32} {a2 : Int32} {a3 : Int32} {a4 : Int32} {a5 : Int32} {I : Nat → Nat → Int32} {J : Nat → Nat → Int64} {T : Option Nat} {P : Int32 → (Nat → Nat → Int32) → (Nat → Nat → Int64) → Option Nat → Prop} {Q : ix_Q} (h : wp_X11_remailer a0 a1 a2 a3 a4 a5 I J T P) (hQ : ∀ v I J T, P v I J T → Q (some (.inl v)) (ix_mem 276 I J T)) : ix_C (d + 11) 193 [.inr (.inr (.inl (some (0)))), .inl (a0), .inl (a1), .inl (a2), .inl (a3), .inl (a4), .inl (a5)] (ix_mem 276 I J T) Q := by
  unfold wp_X11_remailer at h
  refine ix_enter (ls := [some (.inr (.inr (.inl (some (0))))), some (.inl (a0)), some (.inl (a1)), some (.inl (a2)), some (.inl (a3)), some (.inl (a4)), some (.inl (a5))]) rfl rfl rfl (Nat.le_of_ble_eq_true rfl) ?_
  refine ix_go 7 (x' := (10, [some (.inr (.inr (.inl (some (0))))), some (.inl (a0)), some (.inl (a1)), some (.inl (a2)), some (.inl (a3)), some (.inl (a4)), some (.inl (a5))], [.inl (a5), .inl (a4), .inl (a3), .inl (a2), .inl (a1), .inl (a0), .inr (.inr (.inl (some (0))))], 0, 0, ix_mem 276 I J T)) rfl trivial ?_
  refine ix_sp rfl ⟨rfl, ⟨ix_lt rfl, ix_eq rfl, ix_lt rfl⟩, ix_le rfl, Nat.le_refl _, Nat.le_refl _, tp_X11_isMail h (fun v1 I1 J1 T1 h1 => ?_)⟩
  change ix_W _ _ _ (13, [some (.inr (.inr (.inl (some (0))))), some (.inl (a0)), some (.inl (a1)), some (.inl (a2)), some (.inl (a3)), some (.inl (a4)), some (.inl (a5))], [.inl (v1)], 0, 0, ix_mem 276 I1 J1 T1)
  refine ix_go 1 (x' := (if v1 = 0 then 16 else 22, [some (.inr (.inr (.inl (some (0))))), some (.inl (a0)), some (.inl (a1)), some (.inl (a2)), some (.inl (a3)), some (.inl (a4)), some (.inl (a5))], [], 0, 0, ix_mem 276 I1 J1 T1)) rfl trivial ?_
  refine ix_br (fun c2 => ?_) (fun c2 => ?_)
  · have h3 := h1.1 c2
    refine ix_go 2 (x' := (18, [some (.inr (.inr (.inl (some (0))))), some (.inl (a0)), some (.inl (a1)), some (.inl (a2)), some (.inl (a3)), some (.inl (a4)), some (.inl (a5))], [.inl ((1 : Int32)), .inr (.inr (.inl (some (0))))], 0, 0, ix_mem 276 I1 J1 T1)) rfl trivial ?_
    refine ix_sp rfl ⟨rfl, ⟨ix_lt rfl, ix_eq rfl, ix_lt rfl⟩, ix_le rfl, Nat.le_refl _, Nat.le_refl _, tp_X11_refuse h3 (fun v4 I4 J4 T4 h4 => ?_)⟩
    change ix_W _ _ _ (21, [some (.inr (.inr (.inl (some (0))))), some (.inl (a0)), some (.inl (a1)), some (.inl (a2)), some (.inl (a3)), some (.inl (a4)), some (.inl (a5))], [.inl (v4)], 0, 0, ix_mem 276 I4 J4 T4)
    exact ix_sp rfl ⟨Nat.le_refl _, Nat.le_refl _, trivial, hQ _ _ _ _ h4⟩
  · have h3 := h1.2 c2
    refine ix_go 7 (x' := (33, [some (.inr (.inr (.inl (some (0))))), some (.inl (a0)), some (.inl (a1)), some (.inl (a2)), some (.inl (a3)), some (.inl (a4)), some (.inl (a5))], [.inl (a4), .inl (a3), .inl (a2), .inl (a1), .inl (a0), .inr (.inr (.inl (some (95))))], 0, 0, ix_mem 276 I1 J1 T1)) rfl ⟨rfl, rfl⟩ ?_
    refine ix_go 1 (x' := (35, [some (.inr (.inr (.inl (some (0))))), some (.inl (a0)), some (.inl (a1)), some (.inl (a2)), some (.inl (a3)), some (.inl (a4)), some (.inl (a5))], [.inl (a5), .inl (a4), .inl (a3), .inl (a2), .inl (a1), .inl (a0), .inr (.inr (.inl (some (95))))], 0, 0, ix_mem 276 I1 J1 T1)) rfl trivial ?_
    refine ix_sp rfl ⟨rfl, ⟨ix_lt rfl, ix_eq rfl, ix_lt rfl⟩, ix_le rfl, Nat.le_refl _, Nat.le_refl _, tp_X6_become h3 (fun I5 J5 T5 h5 => ?_)⟩
    change ix_W _ _ _ (38, [some (.inr (.inr (.inl (some (0))))), some (.inl (a0)), some (.inl (a1)), some (.inl (a2)), some (.inl (a3)), some (.inl (a4)), some (.inl (a5))], [], 0, 0, ix_mem 276 I5 J5 T5)
    refine ix_go 5 (x' := (47, [some (.inr (.inr (.inl (some (0))))), some (.inl (a0)), some (.inl (a1)), some (.inl (a2)), some (.inl (a3)), some (.inl (a4)), some (.inl (a5))], [.inr (.inr (.inl (some (95)))), .inr (.inr (.inl (some (97)))), .inr (.inr (.inl (some (0))))], 0, 0, ix_mem 276 I5 J5 T5)) rfl ⟨rfl, rfl, rfl, rfl⟩ ?_
    refine ix_sp rfl ⟨rfl, ⟨ix_lt rfl, ix_eq rfl, ix_lt rfl⟩, ix_le rfl, Nat.le_refl _, Nat.le_refl _, tp_X10_findRemailer h5 (fun v6 I6 J6 T6 h6 => ?_)⟩
    change ix_W _ _ _ (50, [some (.inr (.inr (.inl (some (0))))), some (.inl (a0)), some (.inl (a1)), some (.inl (a2)), some (.inl (a3)), some (.inl (a4)), some (.inl (a5))], [.inl (v6), .inr (.inr (.inl (some (0))))], 0, 0, ix_mem 276 I6 J6 T6)
    refine ix_sp rfl ⟨rfl, ⟨ix_lt rfl, ix_eq rfl, ix_lt rfl⟩, ix_le rfl, Nat.le_refl _, Nat.le_refl _, tp_X11_answerOrNoneSuch h6 (fun v7 I7 J7 T7 h7 => ?_)⟩
    change ix_W _ _ _ (53, [some (.inr (.inr (.inl (some (0))))), some (.inl (a0)), some (.inl (a1)), some (.inl (a2)), some (.inl (a3)), some (.inl (a4)), some (.inl (a5))], [.inl (v7)], 0, 0, ix_mem 276 I7 J7 T7)
    exact ix_sp rfl ⟨Nat.le_refl _, Nat.le_refl _, trivial, hQ _ _ _ _ h7⟩
