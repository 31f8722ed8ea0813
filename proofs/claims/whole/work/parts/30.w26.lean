def wp_X11_handed (a0 : Int32) (a1 : Int32) (a2 : Int32) (a3 : Int32) (I : Nat → Nat → Int32) (J : Nat → Nat → Int64) (T : Option Nat) (P : Int32 → (Nat → Nat → Int32) → (Nat → Nat → Int64) → Option Nat → Prop) : Prop := wp_X1_hasPlace (a0) (a1) I J T (fun v1 I1 J1 T1 => ((v1 = 0 → wp_X11_refused ((1 : Int32)) I1 J1 T1 (fun v4 I4 J4 T4 => ix_01 (v4) = true ∧ P (v4) I4 J4 T4)) ∧ (¬ (v1 = 0) → wp_X11_isDay (a2) I1 J1 T1 (fun v5 I5 J5 T5 => ((v5 = 0 → wp_X11_refused ((1 : Int32)) I5 J5 T5 (fun v8 I8 J8 T8 => ix_01 (v8) = true ∧ P (v8) I8 J8 T8)) ∧ (¬ (v5 = 0) → wp_X11_isDay (a3) I5 J5 T5 (fun v9 I9 J9 T9 => ((v9 = 0 → wp_X11_refused ((1 : Int32)) I9 J9 T9 (fun v12 I12 J12 T12 => ix_01 (v12) = true ∧ P (v12) I12 J12 T12)) ∧ (¬ (v9 = 0) → ((a3 < a2 → wp_X11_refused ((1 : Int32)) I9 J9 T9 (fun v15 I15 J15 T15 => ix_01 (v15) = true ∧ P (v15) I15 J15 T15)) ∧ (¬ (a3 < a2) → wp_X1_isHandedFull I9 J9 T9 (fun v16 I16 J16 T16 => ((v16 = 0 → wp_X1_latestKnown I16 J16 T16 (fun v19 I19 J19 T19 => ((a3 < v19 → wp_X11_refused ((5 : Int32)) I19 J19 T19 (fun v22 I22 J22 T22 => ix_01 (v22) = true ∧ P (v22) I22 J22 T22)) ∧ (¬ (a3 < v19) → wp_X1_addHanded (a0) (a1) (a2) (a3) I19 J19 T19 (fun I23 J23 T23 => wp_X11_accepted I23 J23 T23 (fun v24 I24 J24 T24 => ix_01 (v24) = true ∧ P (v24) I24 J24 T24)))))) ∧ (¬ (v16 = 0) → wp_X11_refused ((4 : Int32)) I16 J16 T16 (fun v25 I25 J25 T25 => ix_01 (v25) = true ∧ P (v25) I25 J25 T25)))))))))))))))
set_option maxRecDepth 20000 in
theorem tp_X11_handed {d : Nat} {a0 : Int32} {a1 : Int32} {a2 : Int32} {a3 : Int32} {I : Nat → Nat → Int32} {J : Nat → Nat → Int64} {T : Option Nat} {P : Int32 → (Nat → Nat → Int32) → (Nat → Nat → Int64) → Option Nat → Prop} {Q : ix_Q} (h : wp_X11_handed a0 a1 a2 a3 I J T P) (hQ : ∀ v I J T, P v I J T → Q (some (.inl v)) (ix_mem 276 I J T)) : ix_C (d + 3) 212 [.inr (.inr (.inl (some (0)))), .inl (a0), .inl (a1), .inl (a2), .inl (a3)] (ix_mem 276 I J T) Q := by
  unfold wp_X11_handed at h
  refine ix_enter (ls := [some (.inr (.inr (.inl (some (0))))), some (.inl (a0)), some (.inl (a1)), some (.inl (a2)), some (.inl (a3))]) rfl rfl rfl (Nat.le_of_ble_eq_true rfl) ?_
  refine ix_go 4 (x' := (6, [some (.inr (.inr (.inl (some (0))))), some (.inl (a0)), some (.inl (a1)), some (.inl (a2)), some (.inl (a3))], [.inl (a1), .inl (a0), .inr (.inr (.inl (some (142))))], 0, 0, ix_mem 276 I J T)) rfl ⟨rfl, rfl⟩ ?_
  refine ix_sp rfl ⟨rfl, ⟨ix_lt rfl, ix_eq rfl, ix_lt rfl⟩, ix_le rfl, Nat.le_refl _, Nat.le_refl _, tp_X1_hasPlace h (fun v1 I1 J1 T1 h1 => ?_)⟩
  change ix_W _ _ _ (9, [some (.inr (.inr (.inl (some (0))))), some (.inl (a0)), some (.inl (a1)), some (.inl (a2)), some (.inl (a3))], [.inl (v1)], 0, 0, ix_mem 276 I1 J1 T1)
  refine ix_go 1 (x' := (if v1 = 0 then 33 else 12, [some (.inr (.inr (.inl (some (0))))), some (.inl (a0)), some (.inl (a1)), some (.inl (a2)), some (.inl (a3))], [], 0, 0, ix_mem 276 I1 J1 T1)) rfl trivial ?_
  refine ix_br (fun c2 => ?_) (fun c2 => ?_)
  · have h3 := h1.1 c2
    refine ix_go 2 (x' := (35, [some (.inr (.inr (.inl (some (0))))), some (.inl (a0)), some (.inl (a1)), some (.inl (a2)), some (.inl (a3))], [.inl ((1 : Int32)), .inr (.inr (.inl (some (0))))], 0, 0, ix_mem 276 I1 J1 T1)) rfl trivial ?_
    refine ix_sp rfl ⟨rfl, ⟨ix_lt rfl, ix_eq rfl, ix_lt rfl⟩, ix_le rfl, Nat.le_refl _, Nat.le_refl _, tp_X11_refused h3 (fun v4 I4 J4 T4 h4 => ?_)⟩
    change ix_W _ _ _ (38, [some (.inr (.inr (.inl (some (0))))), some (.inl (a0)), some (.inl (a1)), some (.inl (a2)), some (.inl (a3))], [.inl (v4)], 0, 0, ix_mem 276 I4 J4 T4)
    exact ix_sp rfl ⟨Nat.le_refl _, Nat.le_refl _, ix_01_ok h4.1, hQ _ _ _ _ h4.2⟩
  · have h3 := h1.2 c2
    refine ix_go 1 (x' := (13, [some (.inr (.inr (.inl (some (0))))), some (.inl (a0)), some (.inl (a1)), some (.inl (a2)), some (.inl (a3))], [.inl (a2)], 0, 0, ix_mem 276 I1 J1 T1)) rfl trivial ?_
    refine ix_sp rfl ⟨rfl, trivial, ix_le rfl, Nat.le_refl _, Nat.le_refl _, tp_X11_isDay h3 (fun v5 I5 J5 T5 h5 => ?_)⟩
    change ix_W _ _ _ (16, [some (.inr (.inr (.inl (some (0))))), some (.inl (a0)), some (.inl (a1)), some (.inl (a2)), some (.inl (a3))], [.inl (v5)], 0, 0, ix_mem 276 I5 J5 T5)
    refine ix_go 1 (x' := (if v5 = 0 then 33 else 19, [some (.inr (.inr (.inl (some (0))))), some (.inl (a0)), some (.inl (a1)), some (.inl (a2)), some (.inl (a3))], [], 0, 0, ix_mem 276 I5 J5 T5)) rfl trivial ?_
    refine ix_br (fun c6 => ?_) (fun c6 => ?_)
    · have h7 := h5.1 c6
      refine ix_go 2 (x' := (35, [some (.inr (.inr (.inl (some (0))))), some (.inl (a0)), some (.inl (a1)), some (.inl (a2)), some (.inl (a3))], [.inl ((1 : Int32)), .inr (.inr (.inl (some (0))))], 0, 0, ix_mem 276 I5 J5 T5)) rfl trivial ?_
      refine ix_sp rfl ⟨rfl, ⟨ix_lt rfl, ix_eq rfl, ix_lt rfl⟩, ix_le rfl, Nat.le_refl _, Nat.le_refl _, tp_X11_refused h7 (fun v8 I8 J8 T8 h8 => ?_)⟩
      change ix_W _ _ _ (38, [some (.inr (.inr (.inl (some (0))))), some (.inl (a0)), some (.inl (a1)), some (.inl (a2)), some (.inl (a3))], [.inl (v8)], 0, 0, ix_mem 276 I8 J8 T8)
      exact ix_sp rfl ⟨Nat.le_refl _, Nat.le_refl _, ix_01_ok h8.1, hQ _ _ _ _ h8.2⟩
    · have h7 := h5.2 c6
      refine ix_go 1 (x' := (21, [some (.inr (.inr (.inl (some (0))))), some (.inl (a0)), some (.inl (a1)), some (.inl (a2)), some (.inl (a3))], [.inl (a3)], 0, 0, ix_mem 276 I5 J5 T5)) rfl trivial ?_
      refine ix_sp rfl ⟨rfl, trivial, ix_le rfl, Nat.le_refl _, Nat.le_refl _, tp_X11_isDay h7 (fun v9 I9 J9 T9 h9 => ?_)⟩
      change ix_W _ _ _ (24, [some (.inr (.inr (.inl (some (0))))), some (.inl (a0)), some (.inl (a1)), some (.inl (a2)), some (.inl (a3))], [.inl (v9)], 0, 0, ix_mem 276 I9 J9 T9)
      refine ix_go 1 (x' := (if v9 = 0 then 33 else 27, [some (.inr (.inr (.inl (some (0))))), some (.inl (a0)), some (.inl (a1)), some (.inl (a2)), some (.inl (a3))], [], 0, 0, ix_mem 276 I9 J9 T9)) rfl trivial ?_
      refine ix_br (fun c10 => ?_) (fun c10 => ?_)
      · have h11 := h9.1 c10
        refine ix_go 2 (x' := (35, [some (.inr (.inr (.inl (some (0))))), some (.inl (a0)), some (.inl (a1)), some (.inl (a2)), some (.inl (a3))], [.inl ((1 : Int32)), .inr (.inr (.inl (some (0))))], 0, 0, ix_mem 276 I9 J9 T9)) rfl trivial ?_
        refine ix_sp rfl ⟨rfl, ⟨ix_lt rfl, ix_eq rfl, ix_lt rfl⟩, ix_le rfl, Nat.le_refl _, Nat.le_refl _, tp_X11_refused h11 (fun v12 I12 J12 T12 h12 => ?_)⟩
        change ix_W _ _ _ (38, [some (.inr (.inr (.inl (some (0))))), some (.inl (a0)), some (.inl (a1)), some (.inl (a2)), some (.inl (a3))], [.inl (v12)], 0, 0, ix_mem 276 I12 J12 T12)
        exact ix_sp rfl ⟨Nat.le_refl _, Nat.le_refl _, ix_01_ok h12.1, hQ _ _ _ _ h12.2⟩
      · have h11 := h9.2 c10
        refine ix_go 3 (x' := (if a3 < a2 then 33 else 39, [some (.inr (.inr (.inl (some (0))))), some (.inl (a0)), some (.inl (a1)), some (.inl (a2)), some (.inl (a3))], [], 0, 0, ix_mem 276 I9 J9 T9)) rfl trivial ?_
        refine ix_br (fun c13 => ?_) (fun c13 => ?_)
        · have h14 := h11.1 c13
          refine ix_go 2 (x' := (35, [some (.inr (.inr (.inl (some (0))))), some (.inl (a0)), some (.inl (a1)), some (.inl (a2)), some (.inl (a3))], [.inl ((1 : Int32)), .inr (.inr (.inl (some (0))))], 0, 0, ix_mem 276 I9 J9 T9)) rfl trivial ?_
          refine ix_sp rfl ⟨rfl, ⟨ix_lt rfl, ix_eq rfl, ix_lt rfl⟩, ix_le rfl, Nat.le_refl _, Nat.le_refl _, tp_X11_refused h14 (fun v15 I15 J15 T15 h15 => ?_)⟩
          change ix_W _ _ _ (38, [some (.inr (.inr (.inl (some (0))))), some (.inl (a0)), some (.inl (a1)), some (.inl (a2)), some (.inl (a3))], [.inl (v15)], 0, 0, ix_mem 276 I15 J15 T15)
          exact ix_sp rfl ⟨Nat.le_refl _, Nat.le_refl _, ix_01_ok h15.1, hQ _ _ _ _ h15.2⟩
        · have h14 := h11.2 c13
          refine ix_go 2 (x' := (43, [some (.inr (.inr (.inl (some (0))))), some (.inl (a0)), some (.inl (a1)), some (.inl (a2)), some (.inl (a3))], [.inr (.inr (.inl (some (142))))], 0, 0, ix_mem 276 I9 J9 T9)) rfl ⟨rfl, rfl⟩ ?_
          refine ix_sp rfl ⟨rfl, ⟨ix_lt rfl, ix_eq rfl, ix_lt rfl⟩, ix_le rfl, Nat.le_refl _, Nat.le_refl _, tp_X1_isHandedFull h14 (fun v16 I16 J16 T16 h16 => ?_)⟩
          change ix_W _ _ _ (46, [some (.inr (.inr (.inl (some (0))))), some (.inl (a0)), some (.inl (a1)), some (.inl (a2)), some (.inl (a3))], [.inl (v16)], 0, 0, ix_mem 276 I16 J16 T16)
          refine ix_go 1 (x' := (if v16 = 0 then 55 else 49, [some (.inr (.inr (.inl (some (0))))), some (.inl (a0)), some (.inl (a1)), some (.inl (a2)), some (.inl (a3))], [], 0, 0, ix_mem 276 I16 J16 T16)) rfl trivial ?_
          refine ix_br (fun c17 => ?_) (fun c17 => ?_)
          · have h18 := h16.1 c17
            refine ix_go 3 (x' := (61, [some (.inr (.inr (.inl (some (0))))), some (.inl (a0)), some (.inl (a1)), some (.inl (a2)), some (.inl (a3))], [.inr (.inr (.inl (some (142)))), .inl (a3)], 0, 0, ix_mem 276 I16 J16 T16)) rfl ⟨rfl, rfl⟩ ?_
            refine ix_sp rfl ⟨rfl, ⟨ix_lt rfl, ix_eq rfl, ix_lt rfl⟩, ix_le rfl, Nat.le_refl _, Nat.le_refl _, tp_X1_latestKnown h18 (fun v19 I19 J19 T19 h19 => ?_)⟩
            change ix_W _ _ _ (64, [some (.inr (.inr (.inl (some (0))))), some (.inl (a0)), some (.inl (a1)), some (.inl (a2)), some (.inl (a3))], [.inl (v19), .inl (a3)], 0, 0, ix_mem 276 I19 J19 T19)
            refine ix_go 1 (x' := (if a3 < v19 then 67 else 73, [some (.inr (.inr (.inl (some (0))))), some (.inl (a0)), some (.inl (a1)), some (.inl (a2)), some (.inl (a3))], [], 0, 0, ix_mem 276 I19 J19 T19)) rfl trivial ?_
            refine ix_br (fun c20 => ?_) (fun c20 => ?_)
            · have h21 := h19.1 c20
              refine ix_go 2 (x' := (69, [some (.inr (.inr (.inl (some (0))))), some (.inl (a0)), some (.inl (a1)), some (.inl (a2)), some (.inl (a3))], [.inl ((5 : Int32)), .inr (.inr (.inl (some (0))))], 0, 0, ix_mem 276 I19 J19 T19)) rfl trivial ?_
              refine ix_sp rfl ⟨rfl, ⟨ix_lt rfl, ix_eq rfl, ix_lt rfl⟩, ix_le rfl, Nat.le_refl _, Nat.le_refl _, tp_X11_refused h21 (fun v22 I22 J22 T22 h22 => ?_)⟩
              change ix_W _ _ _ (72, [some (.inr (.inr (.inl (some (0))))), some (.inl (a0)), some (.inl (a1)), some (.inl (a2)), some (.inl (a3))], [.inl (v22)], 0, 0, ix_mem 276 I22 J22 T22)
              exact ix_sp rfl ⟨Nat.le_refl _, Nat.le_refl _, ix_01_ok h22.1, hQ _ _ _ _ h22.2⟩
            · have h21 := h19.2 c20
              refine ix_go 6 (x' := (82, [some (.inr (.inr (.inl (some (0))))), some (.inl (a0)), some (.inl (a1)), some (.inl (a2)), some (.inl (a3))], [.inl (a3), .inl (a2), .inl (a1), .inl (a0), .inr (.inr (.inl (some (142))))], 0, 0, ix_mem 276 I19 J19 T19)) rfl ⟨rfl, rfl⟩ ?_
              refine ix_sp rfl ⟨rfl, ⟨ix_lt rfl, ix_eq rfl, ix_lt rfl⟩, ix_le rfl, Nat.le_refl _, Nat.le_refl _, tp_X1_addHanded h21 (fun I23 J23 T23 h23 => ?_)⟩
              change ix_W _ _ _ (85, [some (.inr (.inr (.inl (some (0))))), some (.inl (a0)), some (.inl (a1)), some (.inl (a2)), some (.inl (a3))], [], 0, 0, ix_mem 276 I23 J23 T23)
              refine ix_go 1 (x' := (86, [some (.inr (.inr (.inl (some (0))))), some (.inl (a0)), some (.inl (a1)), some (.inl (a2)), some (.inl (a3))], [.inr (.inr (.inl (some (0))))], 0, 0, ix_mem 276 I23 J23 T23)) rfl trivial ?_
              refine ix_sp rfl ⟨rfl, ⟨ix_lt rfl, ix_eq rfl, ix_lt rfl⟩, ix_le rfl, Nat.le_refl _, Nat.le_refl _, tp_X11_accepted h23 (fun v24 I24 J24 T24 h24 => ?_)⟩
              change ix_W _ _ _ (89, [some (.inr (.inr (.inl (some (0))))), some (.inl (a0)), some (.inl (a1)), some (.inl (a2)), some (.inl (a3))], [.inl (v24)], 0, 0, ix_mem 276 I24 J24 T24)
              exact ix_sp rfl ⟨Nat.le_refl _, Nat.le_refl _, ix_01_ok h24.1, hQ _ _ _ _ h24.2⟩
          · have h18 := h16.2 c17
            refine ix_go 2 (x' := (51, [some (.inr (.inr (.inl (some (0))))), some (.inl (a0)), some (.inl (a1)), some (.inl (a2)), some (.inl (a3))], [.inl ((4 : Int32)), .inr (.inr (.inl (some (0))))], 0, 0, ix_mem 276 I16 J16 T16)) rfl trivial ?_
            refine ix_sp rfl ⟨rfl, ⟨ix_lt rfl, ix_eq rfl, ix_lt rfl⟩, ix_le rfl, Nat.le_refl _, Nat.le_refl _, tp_X11_refused h18 (fun v25 I25 J25 T25 h25 => ?_)⟩
            change ix_W _ _ _ (54, [some (.inr (.inr (.inl (some (0))))), some (.inl (a0)), some (.inl (a1)), some (.inl (a2)), some (.inl (a3))], [.inl (v25)], 0, 0, ix_mem 276 I25 J25 T25)
            exact ix_sp rfl ⟨Nat.le_refl _, Nat.le_refl _, ix_01_ok h25.1, hQ _ _ _ _ h25.2⟩
def wp_X11_where (a0 : Int32) (a1 : Int32) (I : Nat → Nat → Int32) (J : Nat → Nat → Int64) (T : Option Nat) (P : Int32 → (Nat → Nat → Int32) → (Nat → Nat → Int64) → Option Nat → Prop) : Prop := wp_X1_has (a0) I J T (fun v1 I1 J1 T1 => ((v1 = 0 → wp_X11_refuse ((1 : Int32)) I1 J1 T1 (fun v4 I4 J4 T4 => P (v4) I4 J4 T4)) ∧ (¬ (v1 = 0) → wp_X11_isDay (a1) I1 J1 T1 (fun v5 I5 J5 T5 => ((v5 = 0 → wp_X11_refuse ((1 : Int32)) I5 J5 T5 (fun v8 I8 J8 T8 => P (v8) I8 J8 T8)) ∧ (¬ (v5 = 0) → wp_X1_landOf (a0) (a1) (ix_u2 I5 0 0 ((0 : Int32))) J5 T5 (fun v9 I9 J9 T9 => P (v9) I9 J9 T9)))))))
set_option maxRecDepth 20000 in
theorem tp_X11_where {d : Nat} {a0 : Int32} {a1 : Int32} {I : Nat → Nat → Int32} {J : Nat → Nat → Int64} {T : Option Nat} {P : Int32 → (Nat → Nat → Int32) → (Nat → Nat → Int64) → Option Nat → Prop} {Q : ix_Q} (h : wp_X11_where a0 a1 I J T P) (hQ : ∀ v I J T, P v I J T → Q (some (.inl v)) (ix_mem 276 I J T)) : ix_C (d + 3) 213 [.inr (.inr (.inl (some (0)))), .inl (a0), .inl (a1)] (ix_mem 276 I J T) Q := by
  unfold wp_X11_where at h
  refine ix_enter (ls := [some (.inr (.inr (.inl (some (0))))), some (.inl (a0)), some (.inl (a1))]) rfl rfl rfl (Nat.le_of_ble_eq_true rfl) ?_
  refine ix_go 3 (x' := (5, [some (.inr (.inr (.inl (some (0))))), some (.inl (a0)), some (.inl (a1))], [.inl (a0), .inr (.inr (.inl (some (142))))], 0, 0, ix_mem 276 I J T)) rfl ⟨rfl, rfl⟩ ?_
  refine ix_sp rfl ⟨rfl, ⟨ix_lt rfl, ix_eq rfl, ix_lt rfl⟩, ix_le rfl, Nat.le_refl _, Nat.le_refl _, tp_X1_has h (fun v1 I1 J1 T1 h1 => ?_)⟩
  change ix_W _ _ _ (8, [some (.inr (.inr (.inl (some (0))))), some (.inl (a0)), some (.inl (a1))], [.inl (v1)], 0, 0, ix_mem 276 I1 J1 T1)
  refine ix_go 1 (x' := (if v1 = 0 then 18 else 11, [some (.inr (.inr (.inl (some (0))))), some (.inl (a0)), some (.inl (a1))], [], 0, 0, ix_mem 276 I1 J1 T1)) rfl trivial ?_
  refine ix_br (fun c2 => ?_) (fun c2 => ?_)
  · have h3 := h1.1 c2
    refine ix_go 2 (x' := (20, [some (.inr (.inr (.inl (some (0))))), some (.inl (a0)), some (.inl (a1))], [.inl ((1 : Int32)), .inr (.inr (.inl (some (0))))], 0, 0, ix_mem 276 I1 J1 T1)) rfl trivial ?_
    refine ix_sp rfl ⟨rfl, ⟨ix_lt rfl, ix_eq rfl, ix_lt rfl⟩, ix_le rfl, Nat.le_refl _, Nat.le_refl _, tp_X11_refuse h3 (fun v4 I4 J4 T4 h4 => ?_)⟩
    change ix_W _ _ _ (23, [some (.inr (.inr (.inl (some (0))))), some (.inl (a0)), some (.inl (a1))], [.inl (v4)], 0, 0, ix_mem 276 I4 J4 T4)
    exact ix_sp rfl ⟨Nat.le_refl _, Nat.le_refl _, trivial, hQ _ _ _ _ h4⟩
  · have h3 := h1.2 c2
    refine ix_go 1 (x' := (12, [some (.inr (.inr (.inl (some (0))))), some (.inl (a0)), some (.inl (a1))], [.inl (a1)], 0, 0, ix_mem 276 I1 J1 T1)) rfl trivial ?_
    refine ix_sp rfl ⟨rfl, trivial, ix_le rfl, Nat.le_refl _, Nat.le_refl _, tp_X11_isDay h3 (fun v5 I5 J5 T5 h5 => ?_)⟩
    change ix_W _ _ _ (15, [some (.inr (.inr (.inl (some (0))))), some (.inl (a0)), some (.inl (a1))], [.inl (v5)], 0, 0, ix_mem 276 I5 J5 T5)
    refine ix_go 1 (x' := (if v5 = 0 then 18 else 24, [some (.inr (.inr (.inl (some (0))))), some (.inl (a0)), some (.inl (a1))], [], 0, 0, ix_mem 276 I5 J5 T5)) rfl trivial ?_
    refine ix_br (fun c6 => ?_) (fun c6 => ?_)
    · have h7 := h5.1 c6
      refine ix_go 2 (x' := (20, [some (.inr (.inr (.inl (some (0))))), some (.inl (a0)), some (.inl (a1))], [.inl ((1 : Int32)), .inr (.inr (.inl (some (0))))], 0, 0, ix_mem 276 I5 J5 T5)) rfl trivial ?_
      refine ix_sp rfl ⟨rfl, ⟨ix_lt rfl, ix_eq rfl, ix_lt rfl⟩, ix_le rfl, Nat.le_refl _, Nat.le_refl _, tp_X11_refuse h7 (fun v8 I8 J8 T8 h8 => ?_)⟩
      change ix_W _ _ _ (23, [some (.inr (.inr (.inl (some (0))))), some (.inl (a0)), some (.inl (a1))], [.inl (v8)], 0, 0, ix_mem 276 I8 J8 T8)
      exact ix_sp rfl ⟨Nat.le_refl _, Nat.le_refl _, trivial, hQ _ _ _ _ h8⟩
    · have h7 := h5.2 c6
      refine ix_go 7 (x' := (35, [some (.inr (.inr (.inl (some (0))))), some (.inl (a0)), some (.inl (a1))], [.inl (a1), .inl (a0), .inr (.inr (.inl (some (142))))], 0, 0, ix_mem 276 (ix_u2 I5 0 0 ((0 : Int32))) J5 T5)) rfl ⟨rfl, rfl, rfl, rfl⟩ ?_
      refine ix_sp rfl ⟨rfl, ⟨ix_lt rfl, ix_eq rfl, ix_lt rfl⟩, ix_le rfl, Nat.le_refl _, Nat.le_refl _, tp_X1_landOf h7 (fun v9 I9 J9 T9 h9 => ?_)⟩
      change ix_W _ _ _ (38, [some (.inr (.inr (.inl (some (0))))), some (.inl (a0)), some (.inl (a1))], [.inl (v9)], 0, 0, ix_mem 276 I9 J9 T9)
      exact ix_sp rfl ⟨Nat.le_refl _, Nat.le_refl _, trivial, hQ _ _ _ _ h9⟩
def wp_X11_late (a0 : Int32) (a1 : Int32) (a2 : Int32) (I : Nat → Nat → Int32) (J : Nat → Nat → Int64) (T : Option Nat) (P : Int32 → (Nat → Nat → Int32) → (Nat → Nat → Int64) → Option Nat → Prop) : Prop := wp_X1_has (a0) I J T (fun v1 I1 J1 T1 => ((v1 = 0 → wp_X11_refuse ((1 : Int32)) I1 J1 T1 (fun v4 I4 J4 T4 => P (v4) I4 J4 T4)) ∧ (¬ (v1 = 0) → wp_X11_isDay (a1) I1 J1 T1 (fun v5 I5 J5 T5 => ((v5 = 0 → wp_X11_refuse ((1 : Int32)) I5 J5 T5 (fun v8 I8 J8 T8 => P (v8) I8 J8 T8)) ∧ (¬ (v5 = 0) → wp_X11_isDay (a2) I5 J5 T5 (fun v9 I9 J9 T9 => ((v9 = 0 → wp_X11_refuse ((1 : Int32)) I9 J9 T9 (fun v12 I12 J12 T12 => P (v12) I12 J12 T12)) ∧ (¬ (v9 = 0) → wp_X1_hasBegun (a0) (a1) I9 J9 T9 (fun v13 I13 J13 T13 => ((v13 = 0 → wp_X11_refuse ((1 : Int32)) I13 J13 T13 (fun v16 I16 J16 T16 => P (v16) I16 J16 T16)) ∧ (¬ (v13 = 0) → wp_X1_lateness (a0) (a1) (a2) (ix_u2 I13 0 0 ((0 : Int32))) J13 T13 (fun v17 I17 J17 T17 => P (v17) I17 J17 T17)))))))))))))
set_option maxRecDepth 20000 in
theorem tp_X11_late {d : Nat} {a0 : Int32} {a1 : Int32} {a2 : Int32} {I : Nat → Nat → Int32} {J : Nat → Nat → Int64} {T : Option Nat} {P : Int32 → (Nat → Nat → Int32) → (Nat → Nat → Int64) → Option Nat → Prop} {Q : ix_Q} (h : wp_X11_late a0 a1 a2 I J T P) (hQ : ∀ v I J T, P v I J T → Q (some (.inl v)) (ix_mem 276 I J T)) : ix_C (d + 3) 214 [.inr (.inr (.inl (some (0)))), .inl (a0), .inl (a1), .inl (a2)] (ix_mem 276 I J T) Q := by
  unfold wp_X11_late at h
  refine ix_enter (ls := [some (.inr (.inr (.inl (some (0))))), some (.inl (a0)), some (.inl (a1)), some (.inl (a2))]) rfl rfl rfl (Nat.le_of_ble_eq_true rfl) ?_
  refine ix_go 3 (x' := (5, [some (.inr (.inr (.inl (some (0))))), some (.inl (a0)), some (.inl (a1)), some (.inl (a2))], [.inl (a0), .inr (.inr (.inl (some (142))))], 0, 0, ix_mem 276 I J T)) rfl ⟨rfl, rfl⟩ ?_
  refine ix_sp rfl ⟨rfl, ⟨ix_lt rfl, ix_eq rfl, ix_lt rfl⟩, ix_le rfl, Nat.le_refl _, Nat.le_refl _, tp_X1_has h (fun v1 I1 J1 T1 h1 => ?_)⟩
  change ix_W _ _ _ (8, [some (.inr (.inr (.inl (some (0))))), some (.inl (a0)), some (.inl (a1)), some (.inl (a2))], [.inl (v1)], 0, 0, ix_mem 276 I1 J1 T1)
  refine ix_go 1 (x' := (if v1 = 0 then 37 else 11, [some (.inr (.inr (.inl (some (0))))), some (.inl (a0)), some (.inl (a1)), some (.inl (a2))], [], 0, 0, ix_mem 276 I1 J1 T1)) rfl trivial ?_
  refine ix_br (fun c2 => ?_) (fun c2 => ?_)
  · have h3 := h1.1 c2
    refine ix_go 2 (x' := (39, [some (.inr (.inr (.inl (some (0))))), some (.inl (a0)), some (.inl (a1)), some (.inl (a2))], [.inl ((1 : Int32)), .inr (.inr (.inl (some (0))))], 0, 0, ix_mem 276 I1 J1 T1)) rfl trivial ?_
    refine ix_sp rfl ⟨rfl, ⟨ix_lt rfl, ix_eq rfl, ix_lt rfl⟩, ix_le rfl, Nat.le_refl _, Nat.le_refl _, tp_X11_refuse h3 (fun v4 I4 J4 T4 h4 => ?_)⟩
    change ix_W _ _ _ (42, [some (.inr (.inr (.inl (some (0))))), some (.inl (a0)), some (.inl (a1)), some (.inl (a2))], [.inl (v4)], 0, 0, ix_mem 276 I4 J4 T4)
    exact ix_sp rfl ⟨Nat.le_refl _, Nat.le_refl _, trivial, hQ _ _ _ _ h4⟩
  · have h3 := h1.2 c2
    refine ix_go 1 (x' := (12, [some (.inr (.inr (.inl (some (0))))), some (.inl (a0)), some (.inl (a1)), some (.inl (a2))], [.inl (a1)], 0, 0, ix_mem 276 I1 J1 T1)) rfl trivial ?_
    refine ix_sp rfl ⟨rfl, trivial, ix_le rfl, Nat.le_refl _, Nat.le_refl _, tp_X11_isDay h3 (fun v5 I5 J5 T5 h5 => ?_)⟩
    change ix_W _ _ _ (15, [some (.inr (.inr (.inl (some (0))))), some (.inl (a0)), some (.inl (a1)), some (.inl (a2))], [.inl (v5)], 0, 0, ix_mem 276 I5 J5 T5)
    refine ix_go 1 (x' := (if v5 = 0 then 37 else 18, [some (.inr (.inr (.inl (some (0))))), some (.inl (a0)), some (.inl (a1)), some (.inl (a2))], [], 0, 0, ix_mem 276 I5 J5 T5)) rfl trivial ?_
    refine ix_br (fun c6 => ?_) (fun c6 => ?_)
    · have h7 := h5.1 c6
      refine ix_go 2 (x' := (39, [some (.inr (.inr (.inl (some (0))))), some (.inl (a0)), some (.inl (a1)), some (.inl (a2))], [.inl ((1 : Int32)), .inr (.inr (.inl (some (0))))], 0, 0, ix_mem 276 I5 J5 T5)) rfl trivial ?_
      refine ix_sp rfl ⟨rfl, ⟨ix_lt rfl, ix_eq rfl, ix_lt rfl⟩, ix_le rfl, Nat.le_refl _, Nat.le_refl _, tp_X11_refuse h7 (fun v8 I8 J8 T8 h8 => ?_)⟩
      change ix_W _ _ _ (42, [some (.inr (.inr (.inl (some (0))))), some (.inl (a0)), some (.inl (a1)), some (.inl (a2))], [.inl (v8)], 0, 0, ix_mem 276 I8 J8 T8)
      exact ix_sp rfl ⟨Nat.le_refl _, Nat.le_refl _, trivial, hQ _ _ _ _ h8⟩
    · have h7 := h5.2 c6
      refine ix_go 1 (x' := (19, [some (.inr (.inr (.inl (some (0))))), some (.inl (a0)), some (.inl (a1)), some (.inl (a2))], [.inl (a2)], 0, 0, ix_mem 276 I5 J5 T5)) rfl trivial ?_
      refine ix_sp rfl ⟨rfl, trivial, ix_le rfl, Nat.le_refl _, Nat.le_refl _, tp_X11_isDay h7 (fun v9 I9 J9 T9 h9 => ?_)⟩
      change ix_W _ _ _ (22, [some (.inr (.inr (.inl (some (0))))), some (.inl (a0)), some (.inl (a1)), some (.inl (a2))], [.inl (v9)], 0, 0, ix_mem 276 I9 J9 T9)
      refine ix_go 1 (x' := (if v9 = 0 then 37 else 25, [some (.inr (.inr (.inl (some (0))))), some (.inl (a0)), some (.inl (a1)), some (.inl (a2))], [], 0, 0, ix_mem 276 I9 J9 T9)) rfl trivial ?_
      refine ix_br (fun c10 => ?_) (fun c10 => ?_)
      · have h11 := h9.1 c10
        refine ix_go 2 (x' := (39, [some (.inr (.inr (.inl (some (0))))), some (.inl (a0)), some (.inl (a1)), some (.inl (a2))], [.inl ((1 : Int32)), .inr (.inr (.inl (some (0))))], 0, 0, ix_mem 276 I9 J9 T9)) rfl trivial ?_
        refine ix_sp rfl ⟨rfl, ⟨ix_lt rfl, ix_eq rfl, ix_lt rfl⟩, ix_le rfl, Nat.le_refl _, Nat.le_refl _, tp_X11_refuse h11 (fun v12 I12 J12 T12 h12 => ?_)⟩
        change ix_W _ _ _ (42, [some (.inr (.inr (.inl (some (0))))), some (.inl (a0)), some (.inl (a1)), some (.inl (a2))], [.inl (v12)], 0, 0, ix_mem 276 I12 J12 T12)
        exact ix_sp rfl ⟨Nat.le_refl _, Nat.le_refl _, trivial, hQ _ _ _ _ h12⟩
      · have h11 := h9.2 c10
        refine ix_go 4 (x' := (31, [some (.inr (.inr (.inl (some (0))))), some (.inl (a0)), some (.inl (a1)), some (.inl (a2))], [.inl (a1), .inl (a0), .inr (.inr (.inl (some (142))))], 0, 0, ix_mem 276 I9 J9 T9)) rfl ⟨rfl, rfl⟩ ?_
        refine ix_sp rfl ⟨rfl, ⟨ix_lt rfl, ix_eq rfl, ix_lt rfl⟩, ix_le rfl, Nat.le_refl _, Nat.le_refl _, tp_X1_hasBegun h11 (fun v13 I13 J13 T13 h13 => ?_)⟩
        change ix_W _ _ _ (34, [some (.inr (.inr (.inl (some (0))))), some (.inl (a0)), some (.inl (a1)), some (.inl (a2))], [.inl (v13)], 0, 0, ix_mem 276 I13 J13 T13)
        refine ix_go 1 (x' := (if v13 = 0 then 37 else 43, [some (.inr (.inr (.inl (some (0))))), some (.inl (a0)), some (.inl (a1)), some (.inl (a2))], [], 0, 0, ix_mem 276 I13 J13 T13)) rfl trivial ?_
        refine ix_br (fun c14 => ?_) (fun c14 => ?_)
        · have h15 := h13.1 c14
          refine ix_go 2 (x' := (39, [some (.inr (.inr (.inl (some (0))))), some (.inl (a0)), some (.inl (a1)), some (.inl (a2))], [.inl ((1 : Int32)), .inr (.inr (.inl (some (0))))], 0, 0, ix_mem 276 I13 J13 T13)) rfl trivial ?_
          refine ix_sp rfl ⟨rfl, ⟨ix_lt rfl, ix_eq rfl, ix_lt rfl⟩, ix_le rfl, Nat.le_refl _, Nat.le_refl _, tp_X11_refuse h15 (fun v16 I16 J16 T16 h16 => ?_)⟩
          change ix_W _ _ _ (42, [some (.inr (.inr (.inl (some (0))))), some (.inl (a0)), some (.inl (a1)), some (.inl (a2))], [.inl (v16)], 0, 0, ix_mem 276 I16 J16 T16)
          exact ix_sp rfl ⟨Nat.le_refl _, Nat.le_refl _, trivial, hQ _ _ _ _ h16⟩
        · have h15 := h13.2 c14
          refine ix_go 7 (x' := (54, [some (.inr (.inr (.inl (some (0))))), some (.inl (a0)), some (.inl (a1)), some (.inl (a2))], [.inl (a1), .inl (a0), .inr (.inr (.inl (some (142))))], 0, 0, ix_mem 276 (ix_u2 I13 0 0 ((0 : Int32))) J13 T13)) rfl ⟨rfl, rfl, rfl, rfl⟩ ?_
          refine ix_go 3 (x' := (59, [some (.inr (.inr (.inl (some (0))))), some (.inl (a0)), some (.inl (a1)), some (.inl (a2))], [.inr (.inr (.inl (some (8)))), .inl (a2), .inl (a1), .inl (a0), .inr (.inr (.inl (some (142))))], 0, 0, ix_mem 276 (ix_u2 I13 0 0 ((0 : Int32))) J13 T13)) rfl ⟨rfl, rfl⟩ ?_
          refine ix_sp rfl ⟨rfl, ⟨ix_lt rfl, ix_eq rfl, ix_lt rfl⟩, ix_le rfl, Nat.le_refl _, Nat.le_refl _, tp_X1_lateness h15 (fun v17 I17 J17 T17 h17 => ?_)⟩
          change ix_W _ _ _ (62, [some (.inr (.inr (.inl (some (0))))), some (.inl (a0)), some (.inl (a1)), some (.inl (a2))], [.inl (v17)], 0, 0, ix_mem 276 I17 J17 T17)
          exact ix_sp rfl ⟨Nat.le_refl _, Nat.le_refl _, trivial, hQ _ _ _ _ h17⟩
def wp_X11_loses (a0 : Int32) (a1 : Int32) (I : Nat → Nat → Int32) (J : Nat → Nat → Int64) (T : Option Nat) (P : Int64 → (Nat → Nat → Int32) → (Nat → Nat → Int64) → Option Nat → Prop) : Prop := wp_X11_isLand (a0) I J T (fun v1 I1 J1 T1 => ((v1 = 0 → wp_X11_refuse ((1 : Int32)) I1 J1 T1 (fun v4 I4 J4 T4 => P ((v4).toInt64) I4 J4 T4)) ∧ (¬ (v1 = 0) → wp_X11_isDay (a1) I1 J1 T1 (fun v5 I5 J5 T5 => ((v5 = 0 → wp_X11_refuse ((1 : Int32)) I5 J5 T5 (fun v8 I8 J8 T8 => P ((v8).toInt64) I8 J8 T8)) ∧ (¬ (v5 = 0) → wp_X1_lossesOf (a0) (a1) (ix_u2 I5 0 0 ((0 : Int32))) J5 T5 (fun v9 I9 J9 T9 => P (v9) I9 J9 T9)))))))
set_option maxRecDepth 20000 in
theorem tp_X11_loses {d : Nat} {a0 : Int32} {a1 : Int32} {I : Nat → Nat → Int32} {J : Nat → Nat → Int64} {T : Option Nat} {P : Int64 → (Nat → Nat → Int32) → (Nat → Nat → Int64) → Option Nat → Prop} {Q : ix_Q} (h : wp_X11_loses a0 a1 I J T P) (hQ : ∀ v I J T, P v I J T → Q (some (.inr (.inl v))) (ix_mem 276 I J T)) : ix_C (d + 4) 215 [.inr (.inr (.inl (some (0)))), .inl (a0), .inl (a1)] (ix_mem 276 I J T) Q := by
  unfold wp_X11_loses at h
  refine ix_enter (ls := [some (.inr (.inr (.inl (some (0))))), some (.inl (a0)), some (.inl (a1))]) rfl rfl rfl (Nat.le_of_ble_eq_true rfl) ?_
  refine ix_go 2 (x' := (2, [some (.inr (.inr (.inl (some (0))))), some (.inl (a0)), some (.inl (a1))], [.inl (a0), .inr (.inr (.inl (some (0))))], 0, 0, ix_mem 276 I J T)) rfl trivial ?_
  refine ix_sp rfl ⟨rfl, ⟨ix_lt rfl, ix_eq rfl, ix_lt rfl⟩, ix_le rfl, Nat.le_refl _, Nat.le_refl _, tp_X11_isLand h (fun v1 I1 J1 T1 h1 => ?_)⟩
  change ix_W _ _ _ (5, [some (.inr (.inr (.inl (some (0))))), some (.inl (a0)), some (.inl (a1))], [.inl (v1)], 0, 0, ix_mem 276 I1 J1 T1)
  refine ix_go 1 (x' := (if v1 = 0 then 15 else 8, [some (.inr (.inr (.inl (some (0))))), some (.inl (a0)), some (.inl (a1))], [], 0, 0, ix_mem 276 I1 J1 T1)) rfl trivial ?_
  refine ix_br (fun c2 => ?_) (fun c2 => ?_)
  · have h3 := h1.1 c2
    refine ix_go 2 (x' := (17, [some (.inr (.inr (.inl (some (0))))), some (.inl (a0)), some (.inl (a1))], [.inl ((1 : Int32)), .inr (.inr (.inl (some (0))))], 0, 0, ix_mem 276 I1 J1 T1)) rfl trivial ?_
    refine ix_sp rfl ⟨rfl, ⟨ix_lt rfl, ix_eq rfl, ix_lt rfl⟩, ix_le rfl, Nat.le_refl _, Nat.le_refl _, tp_X11_refuse h3 (fun v4 I4 J4 T4 h4 => ?_)⟩
    change ix_W _ _ _ (20, [some (.inr (.inr (.inl (some (0))))), some (.inl (a0)), some (.inl (a1))], [.inl (v4)], 0, 0, ix_mem 276 I4 J4 T4)
    refine ix_go 1 (x' := (21, [some (.inr (.inr (.inl (some (0))))), some (.inl (a0)), some (.inl (a1))], [.inr (.inl ((v4).toInt64))], 0, 0, ix_mem 276 I4 J4 T4)) rfl trivial ?_
    exact ix_sp rfl ⟨Nat.le_refl _, Nat.le_refl _, rfl, hQ _ _ _ _ h4⟩
  · have h3 := h1.2 c2
    refine ix_go 1 (x' := (9, [some (.inr (.inr (.inl (some (0))))), some (.inl (a0)), some (.inl (a1))], [.inl (a1)], 0, 0, ix_mem 276 I1 J1 T1)) rfl trivial ?_
    refine ix_sp rfl ⟨rfl, trivial, ix_le rfl, Nat.le_refl _, Nat.le_refl _, tp_X11_isDay h3 (fun v5 I5 J5 T5 h5 => ?_)⟩
    change ix_W _ _ _ (12, [some (.inr (.inr (.inl (some (0))))), some (.inl (a0)), some (.inl (a1))], [.inl (v5)], 0, 0, ix_mem 276 I5 J5 T5)
    refine ix_go 1 (x' := (if v5 = 0 then 15 else 22, [some (.inr (.inr (.inl (some (0))))), some (.inl (a0)), some (.inl (a1))], [], 0, 0, ix_mem 276 I5 J5 T5)) rfl trivial ?_
    refine ix_br (fun c6 => ?_) (fun c6 => ?_)
    · have h7 := h5.1 c6
      refine ix_go 2 (x' := (17, [some (.inr (.inr (.inl (some (0))))), some (.inl (a0)), some (.inl (a1))], [.inl ((1 : Int32)), .inr (.inr (.inl (some (0))))], 0, 0, ix_mem 276 I5 J5 T5)) rfl trivial ?_
      refine ix_sp rfl ⟨rfl, ⟨ix_lt rfl, ix_eq rfl, ix_lt rfl⟩, ix_le rfl, Nat.le_refl _, Nat.le_refl _, tp_X11_refuse h7 (fun v8 I8 J8 T8 h8 => ?_)⟩
      change ix_W _ _ _ (20, [some (.inr (.inr (.inl (some (0))))), some (.inl (a0)), some (.inl (a1))], [.inl (v8)], 0, 0, ix_mem 276 I8 J8 T8)
      refine ix_go 1 (x' := (21, [some (.inr (.inr (.inl (some (0))))), some (.inl (a0)), some (.inl (a1))], [.inr (.inl ((v8).toInt64))], 0, 0, ix_mem 276 I8 J8 T8)) rfl trivial ?_
      exact ix_sp rfl ⟨Nat.le_refl _, Nat.le_refl _, rfl, hQ _ _ _ _ h8⟩
    · have h7 := h5.2 c6
      refine ix_go 7 (x' := (33, [some (.inr (.inr (.inl (some (0))))), some (.inl (a0)), some (.inl (a1))], [.inl (a1), .inl (a0), .inr (.inr (.inl (some (142))))], 0, 0, ix_mem 276 (ix_u2 I5 0 0 ((0 : Int32))) J5 T5)) rfl ⟨rfl, rfl, rfl, rfl⟩ ?_
      refine ix_go 2 (x' := (37, [some (.inr (.inr (.inl (some (0))))), some (.inl (a0)), some (.inl (a1))], [.inr (.inr (.inl (some (8)))), .inl (a1), .inl (a0), .inr (.inr (.inl (some (142))))], 0, 0, ix_mem 276 (ix_u2 I5 0 0 ((0 : Int32))) J5 T5)) rfl ⟨rfl, rfl⟩ ?_
      refine ix_sp rfl ⟨rfl, ⟨ix_lt rfl, ix_eq rfl, ix_lt rfl⟩, ix_le rfl, Nat.le_refl _, Nat.le_refl _, tp_X1_lossesOf h7 (fun v9 I9 J9 T9 h9 => ?_)⟩
      change ix_W _ _ _ (40, [some (.inr (.inr (.inl (some (0))))), some (.inl (a0)), some (.inl (a1))], [.inr (.inl (v9))], 0, 0, ix_mem 276 I9 J9 T9)
      exact ix_sp rfl ⟨Nat.le_refl _, Nat.le_refl _, rfl, hQ _ _ _ _ h9⟩
def wp_X11_line (a0 : Int32) (a1 : Int32) (a2 : Int32) (a3 : Int32) (I : Nat → Nat → Int32) (J : Nat → Nat → Int64) (T : Option Nat) (P : Int32 → (Nat → Nat → Int32) → (Nat → Nat → Int64) → Option Nat → Prop) : Prop := wp_X11_outside ((a0).toInt64) ((0 : Int64)) ((1 : Int64)) I J T (fun v1 I1 J1 T1 => ((v1 = 0 → wp_X11_outside ((a1).toInt64) ((0 : Int64)) ((9999 : Int64)) I1 J1 T1 (fun v4 I4 J4 T4 => ((v4 = 0 → wp_X11_isDay (a2) I4 J4 T4 (fun v7 I7 J7 T7 => ((v7 = 0 → wp_X11_refuse ((1 : Int32)) I7 J7 T7 (fun v10 I10 J10 T10 => P (v10) I10 J10 T10)) ∧ (¬ (v7 = 0) → wp_X11_outside ((a3).toInt64) ((0 : Int64)) ((1000000 : Int64)) I7 J7 T7 (fun v11 I11 J11 T11 => ((v11 = 0 → wp_X2_isFull (a0) I11 J11 T11 (fun v14 I14 J14 T14 => ((v14 = 0 → wp_X2_add (a0) (a1) (a2) (a3) (ix_u2 I14 0 0 ((0 : Int32))) J14 T14 (fun v17 I17 J17 T17 => P (v17) I17 J17 T17)) ∧ (¬ (v14 = 0) → wp_X11_refuse ((4 : Int32)) I14 J14 T14 (fun v18 I18 J18 T18 => P (v18) I18 J18 T18))))) ∧ (¬ (v11 = 0) → wp_X11_refuse ((1 : Int32)) I11 J11 T11 (fun v19 I19 J19 T19 => P (v19) I19 J19 T19)))))))) ∧ (¬ (v4 = 0) → wp_X11_refuse ((1 : Int32)) I4 J4 T4 (fun v20 I20 J20 T20 => P (v20) I20 J20 T20))))) ∧ (¬ (v1 = 0) → wp_X11_refuse ((1 : Int32)) I1 J1 T1 (fun v21 I21 J21 T21 => P (v21) I21 J21 T21))))
set_option maxRecDepth 20000 in
theorem tp_X11_line {d : Nat} {a0 : Int32} {a1 : Int32} {a2 : Int32} {a3 : Int32} {I : Nat → Nat → Int32} {J : Nat → Nat → Int64} {T : Option Nat} {P : Int32 → (Nat → Nat → Int32) → (Nat → Nat → Int64) → Option Nat → Prop} {Q : ix_Q} (h : wp_X11_line a0 a1 a2 a3 I J T P) (hQ : ∀ v I J T, P v I J T → Q (some (.inl v)) (ix_mem 276 I J T)) : ix_C (d + 3) 216 [.inr (.inr (.inl (some (0)))), .inl (a0), .inl (a1), .inl (a2), .inl (a3)] (ix_mem 276 I J T) Q := by
  unfold wp_X11_line at h
  refine ix_enter (ls := [some (.inr (.inr (.inl (some (0))))), some (.inl (a0)), some (.inl (a1)), some (.inl (a2)), some (.inl (a3))]) rfl rfl rfl (Nat.le_of_ble_eq_true rfl) ?_
  refine ix_go 4 (x' := (4, [some (.inr (.inr (.inl (some (0))))), some (.inl (a0)), some (.inl (a1)), some (.inl (a2)), some (.inl (a3))], [.inr (.inl ((1 : Int64))), .inr (.inl ((0 : Int64))), .inr (.inl ((a0).toInt64))], 0, 0, ix_mem 276 I J T)) rfl trivial ?_
  refine ix_sp rfl ⟨rfl, trivial, ix_le rfl, Nat.le_refl _, Nat.le_refl _, tp_X11_outside h (fun v1 I1 J1 T1 h1 => ?_)⟩
  change ix_W _ _ _ (7, [some (.inr (.inr (.inl (some (0))))), some (.inl (a0)), some (.inl (a1)), some (.inl (a2)), some (.inl (a3))], [.inl (v1)], 0, 0, ix_mem 276 I1 J1 T1)
  refine ix_go 1 (x' := (if v1 = 0 then 10 else 42, [some (.inr (.inr (.inl (some (0))))), some (.inl (a0)), some (.inl (a1)), some (.inl (a2)), some (.inl (a3))], [], 0, 0, ix_mem 276 I1 J1 T1)) rfl trivial ?_
  refine ix_br (fun c2 => ?_) (fun c2 => ?_)
  · have h3 := h1.1 c2
    refine ix_go 4 (x' := (16, [some (.inr (.inr (.inl (some (0))))), some (.inl (a0)), some (.inl (a1)), some (.inl (a2)), some (.inl (a3))], [.inr (.inl ((9999 : Int64))), .inr (.inl ((0 : Int64))), .inr (.inl ((a1).toInt64))], 0, 0, ix_mem 276 I1 J1 T1)) rfl trivial ?_
    refine ix_sp rfl ⟨rfl, trivial, ix_le rfl, Nat.le_refl _, Nat.le_refl _, tp_X11_outside h3 (fun v4 I4 J4 T4 h4 => ?_)⟩
    change ix_W _ _ _ (19, [some (.inr (.inr (.inl (some (0))))), some (.inl (a0)), some (.inl (a1)), some (.inl (a2)), some (.inl (a3))], [.inl (v4)], 0, 0, ix_mem 276 I4 J4 T4)
    refine ix_go 1 (x' := (if v4 = 0 then 22 else 42, [some (.inr (.inr (.inl (some (0))))), some (.inl (a0)), some (.inl (a1)), some (.inl (a2)), some (.inl (a3))], [], 0, 0, ix_mem 276 I4 J4 T4)) rfl trivial ?_
    refine ix_br (fun c5 => ?_) (fun c5 => ?_)
    · have h6 := h4.1 c5
      refine ix_go 1 (x' := (23, [some (.inr (.inr (.inl (some (0))))), some (.inl (a0)), some (.inl (a1)), some (.inl (a2)), some (.inl (a3))], [.inl (a2)], 0, 0, ix_mem 276 I4 J4 T4)) rfl trivial ?_
      refine ix_sp rfl ⟨rfl, trivial, ix_le rfl, Nat.le_refl _, Nat.le_refl _, tp_X11_isDay h6 (fun v7 I7 J7 T7 h7 => ?_)⟩
      change ix_W _ _ _ (26, [some (.inr (.inr (.inl (some (0))))), some (.inl (a0)), some (.inl (a1)), some (.inl (a2)), some (.inl (a3))], [.inl (v7)], 0, 0, ix_mem 276 I7 J7 T7)
      refine ix_go 1 (x' := (if v7 = 0 then 42 else 29, [some (.inr (.inr (.inl (some (0))))), some (.inl (a0)), some (.inl (a1)), some (.inl (a2)), some (.inl (a3))], [], 0, 0, ix_mem 276 I7 J7 T7)) rfl trivial ?_
      refine ix_br (fun c8 => ?_) (fun c8 => ?_)
      · have h9 := h7.1 c8
        refine ix_go 2 (x' := (44, [some (.inr (.inr (.inl (some (0))))), some (.inl (a0)), some (.inl (a1)), some (.inl (a2)), some (.inl (a3))], [.inl ((1 : Int32)), .inr (.inr (.inl (some (0))))], 0, 0, ix_mem 276 I7 J7 T7)) rfl trivial ?_
        refine ix_sp rfl ⟨rfl, ⟨ix_lt rfl, ix_eq rfl, ix_lt rfl⟩, ix_le rfl, Nat.le_refl _, Nat.le_refl _, tp_X11_refuse h9 (fun v10 I10 J10 T10 h10 => ?_)⟩
        change ix_W _ _ _ (47, [some (.inr (.inr (.inl (some (0))))), some (.inl (a0)), some (.inl (a1)), some (.inl (a2)), some (.inl (a3))], [.inl (v10)], 0, 0, ix_mem 276 I10 J10 T10)
        exact ix_sp rfl ⟨Nat.le_refl _, Nat.le_refl _, trivial, hQ _ _ _ _ h10⟩
      · have h9 := h7.2 c8
        refine ix_go 4 (x' := (36, [some (.inr (.inr (.inl (some (0))))), some (.inl (a0)), some (.inl (a1)), some (.inl (a2)), some (.inl (a3))], [.inr (.inl ((1000000 : Int64))), .inr (.inl ((0 : Int64))), .inr (.inl ((a3).toInt64))], 0, 0, ix_mem 276 I7 J7 T7)) rfl trivial ?_
        refine ix_sp rfl ⟨rfl, trivial, ix_le rfl, Nat.le_refl _, Nat.le_refl _, tp_X11_outside h9 (fun v11 I11 J11 T11 h11 => ?_)⟩
        change ix_W _ _ _ (39, [some (.inr (.inr (.inl (some (0))))), some (.inl (a0)), some (.inl (a1)), some (.inl (a2)), some (.inl (a3))], [.inl (v11)], 0, 0, ix_mem 276 I11 J11 T11)
        refine ix_go 1 (x' := (if v11 = 0 then 48 else 42, [some (.inr (.inr (.inl (some (0))))), some (.inl (a0)), some (.inl (a1)), some (.inl (a2)), some (.inl (a3))], [], 0, 0, ix_mem 276 I11 J11 T11)) rfl trivial ?_
        refine ix_br (fun c12 => ?_) (fun c12 => ?_)
        · have h13 := h11.1 c12
          refine ix_go 3 (x' := (53, [some (.inr (.inr (.inl (some (0))))), some (.inl (a0)), some (.inl (a1)), some (.inl (a2)), some (.inl (a3))], [.inl (a0), .inr (.inr (.inl (some (181))))], 0, 0, ix_mem 276 I11 J11 T11)) rfl ⟨rfl, rfl⟩ ?_
          refine ix_sp rfl ⟨rfl, ⟨ix_lt rfl, ix_eq rfl, ix_lt rfl⟩, ix_le rfl, Nat.le_refl _, Nat.le_refl _, tp_X2_isFull h13 (fun v14 I14 J14 T14 h14 => ?_)⟩
          change ix_W _ _ _ (56, [some (.inr (.inr (.inl (some (0))))), some (.inl (a0)), some (.inl (a1)), some (.inl (a2)), some (.inl (a3))], [.inl (v14)], 0, 0, ix_mem 276 I14 J14 T14)
          refine ix_go 1 (x' := (if v14 = 0 then 65 else 59, [some (.inr (.inr (.inl (some (0))))), some (.inl (a0)), some (.inl (a1)), some (.inl (a2)), some (.inl (a3))], [], 0, 0, ix_mem 276 I14 J14 T14)) rfl trivial ?_
          refine ix_br (fun c15 => ?_) (fun c15 => ?_)
          · have h16 := h14.1 c15
            refine ix_go 7 (x' := (76, [some (.inr (.inr (.inl (some (0))))), some (.inl (a0)), some (.inl (a1)), some (.inl (a2)), some (.inl (a3))], [.inl (a1), .inl (a0), .inr (.inr (.inl (some (181))))], 0, 0, ix_mem 276 (ix_u2 I14 0 0 ((0 : Int32))) J14 T14)) rfl ⟨rfl, rfl, rfl, rfl⟩ ?_
            refine ix_go 2 (x' := (79, [some (.inr (.inr (.inl (some (0))))), some (.inl (a0)), some (.inl (a1)), some (.inl (a2)), some (.inl (a3))], [.inl (a3), .inl (a2), .inl (a1), .inl (a0), .inr (.inr (.inl (some (181))))], 0, 0, ix_mem 276 (ix_u2 I14 0 0 ((0 : Int32))) J14 T14)) rfl trivial ?_
            refine ix_sp rfl ⟨rfl, ⟨ix_lt rfl, ix_eq rfl, ix_lt rfl⟩, ix_le rfl, Nat.le_refl _, Nat.le_refl _, tp_X2_add h16 (fun v17 I17 J17 T17 h17 => ?_)⟩
            change ix_W _ _ _ (82, [some (.inr (.inr (.inl (some (0))))), some (.inl (a0)), some (.inl (a1)), some (.inl (a2)), some (.inl (a3))], [.inl (v17)], 0, 0, ix_mem 276 I17 J17 T17)
            exact ix_sp rfl ⟨Nat.le_refl _, Nat.le_refl _, trivial, hQ _ _ _ _ h17⟩
          · have h16 := h14.2 c15
            refine ix_go 2 (x' := (61, [some (.inr (.inr (.inl (some (0))))), some (.inl (a0)), some (.inl (a1)), some (.inl (a2)), some (.inl (a3))], [.inl ((4 : Int32)), .inr (.inr (.inl (some (0))))], 0, 0, ix_mem 276 I14 J14 T14)) rfl trivial ?_
            refine ix_sp rfl ⟨rfl, ⟨ix_lt rfl, ix_eq rfl, ix_lt rfl⟩, ix_le rfl, Nat.le_refl _, Nat.le_refl _, tp_X11_refuse h16 (fun v18 I18 J18 T18 h18 => ?_)⟩
            change ix_W _ _ _ (64, [some (.inr (.inr (.inl (some (0))))), some (.inl (a0)), some (.inl (a1)), some (.inl (a2)), some (.inl (a3))], [.inl (v18)], 0, 0, ix_mem 276 I18 J18 T18)
            exact ix_sp rfl ⟨Nat.le_refl _, Nat.le_refl _, trivial, hQ _ _ _ _ h18⟩
        · have h13 := h11.2 c12
          refine ix_go 2 (x' := (44, [some (.inr (.inr (.inl (some (0))))), some (.inl (a0)), some (.inl (a1)), some (.inl (a2)), some (.inl (a3))], [.inl ((1 : Int32)), .inr (.inr (.inl (some (0))))], 0, 0, ix_mem 276 I11 J11 T11)) rfl trivial ?_
          refine ix_sp rfl ⟨rfl, ⟨ix_lt rfl, ix_eq rfl, ix_lt rfl⟩, ix_le rfl, Nat.le_refl _, Nat.le_refl _, tp_X11_refuse h13 (fun v19 I19 J19 T19 h19 => ?_)⟩
          change ix_W _ _ _ (47, [some (.inr (.inr (.inl (some (0))))), some (.inl (a0)), some (.inl (a1)), some (.inl (a2)), some (.inl (a3))], [.inl (v19)], 0, 0, ix_mem 276 I19 J19 T19)
          exact ix_sp rfl ⟨Nat.le_refl _, Nat.le_refl _, trivial, hQ _ _ _ _ h19⟩
    · have h6 := h4.2 c5
      refine ix_go 2 (x' := (44, [some (.inr (.inr (.inl (some (0))))), some (.inl (a0)), some (.inl (a1)), some (.inl (a2)), some (.inl (a3))], [.inl ((1 : Int32)), .inr (.inr (.inl (some (0))))], 0, 0, ix_mem 276 I4 J4 T4)) rfl trivial ?_
      refine ix_sp rfl ⟨rfl, ⟨ix_lt rfl, ix_eq rfl, ix_lt rfl⟩, ix_le rfl, Nat.le_refl _, Nat.le_refl _, tp_X11_refuse h6 (fun v20 I20 J20 T20 h20 => ?_)⟩
      change ix_W _ _ _ (47, [some (.inr (.inr (.inl (some (0))))), some (.inl (a0)), some (.inl (a1)), some (.inl (a2)), some (.inl (a3))], [.inl (v20)], 0, 0, ix_mem 276 I20 J20 T20)
      exact ix_sp rfl ⟨Nat.le_refl _, Nat.le_refl _, trivial, hQ _ _ _ _ h20⟩
  · have h3 := h1.2 c2
    refine ix_go 2 (x' := (44, [some (.inr (.inr (.inl (some (0))))), some (.inl (a0)), some (.inl (a1)), some (.inl (a2)), some (.inl (a3))], [.inl ((1 : Int32)), .inr (.inr (.inl (some (0))))], 0, 0, ix_mem 276 I1 J1 T1)) rfl trivial ?_
    refine ix_sp rfl ⟨rfl, ⟨ix_lt rfl, ix_eq rfl, ix_lt rfl⟩, ix_le rfl, Nat.le_refl _, Nat.le_refl _, tp_X11_refuse h3 (fun v21 I21 J21 T21 h21 => ?_)⟩
    change ix_W _ _ _ (47, [some (.inr (.inr (.inl (some (0))))), some (.inl (a0)), some (.inl (a1)), some (.inl (a2)), some (.inl (a3))], [.inl (v21)], 0, 0, ix_mem 276 I21 J21 T21)
    exact ix_sp rfl ⟨Nat.le_refl _, Nat.le_refl _, trivial, hQ _ _ _ _ h21⟩
def wp_X11_close (I : Nat → Nat → Int32) (J : Nat → Nat → Int64) (T : Option Nat) (P : Int32 → (Nat → Nat → Int32) → (Nat → Nat → Int64) → Option Nat → Prop) : Prop := wp_X2_clear I J T (fun I1 J1 T1 => wp_X11_accepted I1 J1 T1 (fun v2 I2 J2 T2 => ix_01 (v2) = true ∧ P (v2) I2 J2 T2))
set_option maxRecDepth 20000 in
theorem tp_X11_close {d : Nat} {I : Nat → Nat → Int32} {J : Nat → Nat → Int64} {T : Option Nat} {P : Int32 → (Nat → Nat → Int32) → (Nat → Nat → Int64) → Option Nat → Prop} {Q : ix_Q} (h : wp_X11_close I J T P) (hQ : ∀ v I J T, P v I J T → Q (some (.inl v)) (ix_mem 276 I J T)) : ix_C (d + 2) 217 [.inr (.inr (.inl (some (0))))] (ix_mem 276 I J T) Q := by
  unfold wp_X11_close at h
  refine ix_enter (ls := [some (.inr (.inr (.inl (some (0)))))]) rfl rfl rfl (Nat.le_of_ble_eq_true rfl) ?_
  refine ix_go 2 (x' := (4, [some (.inr (.inr (.inl (some (0)))))], [.inr (.inr (.inl (some (181))))], 0, 0, ix_mem 276 I J T)) rfl ⟨rfl, rfl⟩ ?_
  refine ix_sp rfl ⟨rfl, ⟨ix_lt rfl, ix_eq rfl, ix_lt rfl⟩, ix_le rfl, Nat.le_refl _, Nat.le_refl _, tp_X2_clear h (fun I1 J1 T1 h1 => ?_)⟩
  change ix_W _ _ _ (7, [some (.inr (.inr (.inl (some (0)))))], [], 0, 0, ix_mem 276 I1 J1 T1)
  refine ix_go 1 (x' := (8, [some (.inr (.inr (.inl (some (0)))))], [.inr (.inr (.inl (some (0))))], 0, 0, ix_mem 276 I1 J1 T1)) rfl trivial ?_
  refine ix_sp rfl ⟨rfl, ⟨ix_lt rfl, ix_eq rfl, ix_lt rfl⟩, ix_le rfl, Nat.le_refl _, Nat.le_refl _, tp_X11_accepted h1 (fun v2 I2 J2 T2 h2 => ?_)⟩
  change ix_W _ _ _ (11, [some (.inr (.inr (.inl (some (0)))))], [.inl (v2)], 0, 0, ix_mem 276 I2 J2 T2)
  exact ix_sp rfl ⟨Nat.le_refl _, Nat.le_refl _, ix_01_ok h2.1, hQ _ _ _ _ h2.2⟩
def wp_X11_join (I : Nat → Nat → Int32) (J : Nat → Nat → Int64) (T : Option Nat) (P : Int32 → (Nat → Nat → Int32) → (Nat → Nat → Int64) → Option Nat → Prop) : Prop := wp_X2_joinLines (ix_u2 I 0 0 ((0 : Int32))) J T (fun I1 J1 T1 => wp_X2_joinedCost I1 J1 T1 (fun v2 I2 J2 T2 => P (v2) I2 J2 T2))
set_option maxRecDepth 20000 in
theorem tp_X11_join {d : Nat} {I : Nat → Nat → Int32} {J : Nat → Nat → Int64} {T : Option Nat} {P : Int32 → (Nat → Nat → Int32) → (Nat → Nat → Int64) → Option Nat → Prop} {Q : ix_Q} (h : wp_X11_join I J T P) (hQ : ∀ v I J T, P v I J T → Q (some (.inl v)) (ix_mem 276 I J T)) : ix_C (d + 7) 218 [.inr (.inr (.inl (some (0))))] (ix_mem 276 I J T) Q := by
  unfold wp_X11_join at h
  refine ix_enter (ls := [some (.inr (.inr (.inl (some (0)))))]) rfl rfl rfl (Nat.le_of_ble_eq_true rfl) ?_
  refine ix_go 5 (x' := (9, [some (.inr (.inr (.inl (some (0)))))], [.inr (.inr (.inl (some (181))))], 0, 0, ix_mem 276 (ix_u2 I 0 0 ((0 : Int32))) J T)) rfl ⟨rfl, rfl, rfl, rfl⟩ ?_
  refine ix_sp rfl ⟨rfl, ⟨ix_lt rfl, ix_eq rfl, ix_lt rfl⟩, ix_le rfl, Nat.le_refl _, Nat.le_refl _, tp_X2_joinLines h (fun I1 J1 T1 h1 => ?_)⟩
  change ix_W _ _ _ (12, [some (.inr (.inr (.inl (some (0)))))], [], 0, 0, ix_mem 276 I1 J1 T1)
  refine ix_go 2 (x' := (16, [some (.inr (.inr (.inl (some (0)))))], [.inr (.inr (.inl (some (181))))], 0, 0, ix_mem 276 I1 J1 T1)) rfl ⟨rfl, rfl⟩ ?_
  refine ix_sp rfl ⟨rfl, ⟨ix_lt rfl, ix_eq rfl, ix_lt rfl⟩, ix_le rfl, Nat.le_refl _, Nat.le_refl _, tp_X2_joinedCost h1 (fun v2 I2 J2 T2 h2 => ?_)⟩
  change ix_W _ _ _ (19, [some (.inr (.inr (.inl (some (0)))))], [.inl (v2)], 0, 0, ix_mem 276 I2 J2 T2)
  exact ix_sp rfl ⟨Nat.le_refl _, Nat.le_refl _, trivial, hQ _ _ _ _ h2⟩
def wp_X11_mate (a0 : Int32) (I : Nat → Nat → Int32) (J : Nat → Nat → Int64) (T : Option Nat) (P : Int32 → (Nat → Nat → Int32) → (Nat → Nat → Int64) → Option Nat → Prop) : Prop := wp_X2_has (a0) I J T (fun v1 I1 J1 T1 => ((v1 = 0 → wp_X11_refuse ((1 : Int32)) I1 J1 T1 (fun v4 I4 J4 T4 => P (v4) I4 J4 T4)) ∧ (¬ (v1 = 0) → wp_X2_joinLines I1 J1 T1 (fun I5 J5 T5 => wp_X2_mateOf (a0) I5 J5 T5 (fun v6 I6 J6 T6 => wp_X11_answerOrNoneSuch (v6) I6 J6 T6 (fun v7 I7 J7 T7 => P (v7) I7 J7 T7))))))
set_option maxRecDepth 20000 in
theorem tp_X11_mate {d : Nat} {a0 : Int32} {I : Nat → Nat → Int32} {J : Nat → Nat → Int64} {T : Option Nat} {P : Int32 → (Nat → Nat → Int32) → (Nat → Nat → Int64) → Option Nat → Prop} {Q : ix_Q} (h : wp_X11_mate a0 I J T P) (hQ : ∀ v I J T, P v I J T → Q (some (.inl v)) (ix_mem 276 I J T)) : ix_C (d + 7) 219 [.inr (.inr (.inl (some (0)))), .inl (a0)] (ix_mem 276 I J T) Q := by
  unfold wp_X11_mate at h
  refine ix_enter (ls := [some (.inr (.inr (.inl (some (0))))), some (.inl (a0))]) rfl rfl rfl (Nat.le_of_ble_eq_true rfl) ?_
  refine ix_go 3 (x' := (5, [some (.inr (.inr (.inl (some (0))))), some (.inl (a0))], [.inl (a0), .inr (.inr (.inl (some (181))))], 0, 0, ix_mem 276 I J T)) rfl ⟨rfl, rfl⟩ ?_
  refine ix_sp rfl ⟨rfl, ⟨ix_lt rfl, ix_eq rfl, ix_lt rfl⟩, ix_le rfl, Nat.le_refl _, Nat.le_refl _, tp_X2_has h (fun v1 I1 J1 T1 h1 => ?_)⟩
  change ix_W _ _ _ (8, [some (.inr (.inr (.inl (some (0))))), some (.inl (a0))], [.inl (v1)], 0, 0, ix_mem 276 I1 J1 T1)
  refine ix_go 1 (x' := (if v1 = 0 then 11 else 17, [some (.inr (.inr (.inl (some (0))))), some (.inl (a0))], [], 0, 0, ix_mem 276 I1 J1 T1)) rfl trivial ?_
  refine ix_br (fun c2 => ?_) (fun c2 => ?_)
  · have h3 := h1.1 c2
    refine ix_go 2 (x' := (13, [some (.inr (.inr (.inl (some (0))))), some (.inl (a0))], [.inl ((1 : Int32)), .inr (.inr (.inl (some (0))))], 0, 0, ix_mem 276 I1 J1 T1)) rfl trivial ?_
    refine ix_sp rfl ⟨rfl, ⟨ix_lt rfl, ix_eq rfl, ix_lt rfl⟩, ix_le rfl, Nat.le_refl _, Nat.le_refl _, tp_X11_refuse h3 (fun v4 I4 J4 T4 h4 => ?_)⟩
    change ix_W _ _ _ (16, [some (.inr (.inr (.inl (some (0))))), some (.inl (a0))], [.inl (v4)], 0, 0, ix_mem 276 I4 J4 T4)
    exact ix_sp rfl ⟨Nat.le_refl _, Nat.le_refl _, trivial, hQ _ _ _ _ h4⟩
  · have h3 := h1.2 c2
    refine ix_go 2 (x' := (21, [some (.inr (.inr (.inl (some (0))))), some (.inl (a0))], [.inr (.inr (.inl (some (181))))], 0, 0, ix_mem 276 I1 J1 T1)) rfl ⟨rfl, rfl⟩ ?_
    refine ix_sp rfl ⟨rfl, ⟨ix_lt rfl, ix_eq rfl, ix_lt rfl⟩, ix_le rfl, Nat.le_refl _, Nat.le_refl _, tp_X2_joinLines h3 (fun I5 J5 T5 h5 => ?_)⟩
    change ix_W _ _ _ (24, [some (.inr (.inr (.inl (some (0))))), some (.inl (a0))], [], 0, 0, ix_mem 276 I5 J5 T5)
    refine ix_go 4 (x' := (30, [some (.inr (.inr (.inl (some (0))))), some (.inl (a0))], [.inl (a0), .inr (.inr (.inl (some (181)))), .inr (.inr (.inl (some (0))))], 0, 0, ix_mem 276 I5 J5 T5)) rfl ⟨rfl, rfl⟩ ?_
    refine ix_sp rfl ⟨rfl, ⟨ix_lt rfl, ix_eq rfl, ix_lt rfl⟩, ix_le rfl, Nat.le_refl _, Nat.le_refl _, tp_X2_mateOf h5 (fun v6 I6 J6 T6 h6 => ?_)⟩
    change ix_W _ _ _ (33, [some (.inr (.inr (.inl (some (0))))), some (.inl (a0))], [.inl (v6), .inr (.inr (.inl (some (0))))], 0, 0, ix_mem 276 I6 J6 T6)
    refine ix_sp rfl ⟨rfl, ⟨ix_lt rfl, ix_eq rfl, ix_lt rfl⟩, ix_le rfl, Nat.le_refl _, Nat.le_refl _, tp_X11_answerOrNoneSuch h6 (fun v7 I7 J7 T7 h7 => ?_)⟩
    change ix_W _ _ _ (36, [some (.inr (.inr (.inl (some (0))))), some (.inl (a0))], [.inl (v7)], 0, 0, ix_mem 276 I7 J7 T7)
    exact ix_sp rfl ⟨Nat.le_refl _, Nat.le_refl _, trivial, hQ _ _ _ _ h7⟩
def wp_X11_leans (a0 : Int32) (I : Nat → Nat → Int32) (J : Nat → Nat → Int64) (T : Option Nat) (P : Int32 → (Nat → Nat → Int32) → (Nat → Nat → Int64) → Option Nat → Prop) : Prop := wp_X11_outside ((a0).toInt64) ((0 : Int64)) ((1 : Int64)) I J T (fun v1 I1 J1 T1 => ((v1 = 0 → wp_X2_joinLines (ix_u2 I1 0 0 ((0 : Int32))) J1 T1 (fun I4 J4 T4 => ((a0 = 0 → wp_X2_leanOfPairs I4 J4 T4 (fun v7 I7 J7 T7 => P (v7) I7 J7 T7)) ∧ (¬ (a0 = 0) → wp_X2_leanOfAll I4 J4 T4 (fun v8 I8 J8 T8 => wp_X2_leanOfPairs I8 J8 T8 (fun v9 I9 J9 T9 => P ((v8) - (v9)) I9 J9 T9)))))) ∧ (¬ (v1 = 0) → wp_X11_refuse ((1 : Int32)) I1 J1 T1 (fun v10 I10 J10 T10 => P (v10) I10 J10 T10))))
set_option maxRecDepth 20000 in
theorem tp_X11_leans {d : Nat} {a0 : Int32} {I : Nat → Nat → Int32} {J : Nat → Nat → Int64} {T : Option Nat} {P : Int32 → (Nat → Nat → Int32) → (Nat → Nat → Int64) → Option Nat → Prop} {Q : ix_Q} (h : wp_X11_leans a0 I J T P) (hQ : ∀ v I J T, P v I J T → Q (some (.inl v)) (ix_mem 276 I J T)) : ix_C (d + 7) 220 [.inr (.inr (.inl (some (0)))), .inl (a0)] (ix_mem 276 I J T) Q := by
  unfold wp_X11_leans at h
  refine ix_enter (ls := [some (.inr (.inr (.inl (some (0))))), some (.inl (a0))]) rfl rfl rfl (Nat.le_of_ble_eq_true rfl) ?_
  refine ix_go 4 (x' := (4, [some (.inr (.inr (.inl (some (0))))), some (.inl (a0))], [.inr (.inl ((1 : Int64))), .inr (.inl ((0 : Int64))), .inr (.inl ((a0).toInt64))], 0, 0, ix_mem 276 I J T)) rfl trivial ?_
  refine ix_sp rfl ⟨rfl, trivial, ix_le rfl, Nat.le_refl _, Nat.le_refl _, tp_X11_outside h (fun v1 I1 J1 T1 h1 => ?_)⟩
  change ix_W _ _ _ (7, [some (.inr (.inr (.inl (some (0))))), some (.inl (a0))], [.inl (v1)], 0, 0, ix_mem 276 I1 J1 T1)
  refine ix_go 1 (x' := (if v1 = 0 then 16 else 10, [some (.inr (.inr (.inl (some (0))))), some (.inl (a0))], [], 0, 0, ix_mem 276 I1 J1 T1)) rfl trivial ?_
  refine ix_br (fun c2 => ?_) (fun c2 => ?_)
  · have h3 := h1.1 c2
    refine ix_go 5 (x' := (25, [some (.inr (.inr (.inl (some (0))))), some (.inl (a0))], [.inr (.inr (.inl (some (181))))], 0, 0, ix_mem 276 (ix_u2 I1 0 0 ((0 : Int32))) J1 T1)) rfl ⟨rfl, rfl, rfl, rfl⟩ ?_
    refine ix_sp rfl ⟨rfl, ⟨ix_lt rfl, ix_eq rfl, ix_lt rfl⟩, ix_le rfl, Nat.le_refl _, Nat.le_refl _, tp_X2_joinLines h3 (fun I4 J4 T4 h4 => ?_)⟩
    change ix_W _ _ _ (28, [some (.inr (.inr (.inl (some (0))))), some (.inl (a0))], [], 0, 0, ix_mem 276 I4 J4 T4)
    refine ix_go 2 (x' := (if a0 = 0 then 32 else 42, [some (.inr (.inr (.inl (some (0))))), some (.inl (a0))], [], 0, 0, ix_mem 276 I4 J4 T4)) rfl trivial ?_
    refine ix_br (fun c5 => ?_) (fun c5 => ?_)
    · have h6 := h4.1 c5
      refine ix_go 2 (x' := (36, [some (.inr (.inr (.inl (some (0))))), some (.inl (a0))], [.inr (.inr (.inl (some (181))))], 0, 0, ix_mem 276 I4 J4 T4)) rfl ⟨rfl, rfl⟩ ?_
      refine ix_sp rfl ⟨rfl, ⟨ix_lt rfl, ix_eq rfl, ix_lt rfl⟩, ix_le rfl, Nat.le_refl _, Nat.le_refl _, tp_X2_leanOfPairs h6 (fun v7 I7 J7 T7 h7 => ?_)⟩
      change ix_W _ _ _ (39, [some (.inr (.inr (.inl (some (0))))), some (.inl (a0))], [.inl (v7)], 0, 0, ix_mem 276 I7 J7 T7)
      refine ix_go 1 (x' := (57, [some (.inr (.inr (.inl (some (0))))), some (.inl (a0))], [.inl (v7)], 0, 0, ix_mem 276 I7 J7 T7)) rfl trivial ?_
      exact ix_sp rfl ⟨Nat.le_refl _, Nat.le_refl _, trivial, hQ _ _ _ _ h7⟩
    · have h6 := h4.2 c5
      refine ix_go 2 (x' := (46, [some (.inr (.inr (.inl (some (0))))), some (.inl (a0))], [.inr (.inr (.inl (some (181))))], 0, 0, ix_mem 276 I4 J4 T4)) rfl ⟨rfl, rfl⟩ ?_
      refine ix_sp rfl ⟨rfl, ⟨ix_lt rfl, ix_eq rfl, ix_lt rfl⟩, ix_le rfl, Nat.le_refl _, Nat.le_refl _, tp_X2_leanOfAll h6 (fun v8 I8 J8 T8 h8 => ?_)⟩
      change ix_W _ _ _ (49, [some (.inr (.inr (.inl (some (0))))), some (.inl (a0))], [.inl (v8)], 0, 0, ix_mem 276 I8 J8 T8)
      refine ix_go 2 (x' := (53, [some (.inr (.inr (.inl (some (0))))), some (.inl (a0))], [.inr (.inr (.inl (some (181)))), .inl (v8)], 0, 0, ix_mem 276 I8 J8 T8)) rfl ⟨rfl, rfl⟩ ?_
      refine ix_sp rfl ⟨rfl, ⟨ix_lt rfl, ix_eq rfl, ix_lt rfl⟩, ix_le rfl, Nat.le_refl _, Nat.le_refl _, tp_X2_leanOfPairs h8 (fun v9 I9 J9 T9 h9 => ?_)⟩
      change ix_W _ _ _ (56, [some (.inr (.inr (.inl (some (0))))), some (.inl (a0))], [.inl (v9), .inl (v8)], 0, 0, ix_mem 276 I9 J9 T9)
      refine ix_go 1 (x' := (57, [some (.inr (.inr (.inl (some (0))))), some (.inl (a0))], [.inl ((v8) - (v9))], 0, 0, ix_mem 276 I9 J9 T9)) rfl trivial ?_
      exact ix_sp rfl ⟨Nat.le_refl _, Nat.le_refl _, trivial, hQ _ _ _ _ h9⟩
  · have h3 := h1.2 c2
    refine ix_go 2 (x' := (12, [some (.inr (.inr (.inl (some (0))))), some (.inl (a0))], [.inl ((1 : Int32)), .inr (.inr (.inl (some (0))))], 0, 0, ix_mem 276 I1 J1 T1)) rfl trivial ?_
    refine ix_sp rfl ⟨rfl, ⟨ix_lt rfl, ix_eq rfl, ix_lt rfl⟩, ix_le rfl, Nat.le_refl _, Nat.le_refl _, tp_X11_refuse h3 (fun v10 I10 J10 T10 h10 => ?_)⟩
    change ix_W _ _ _ (15, [some (.inr (.inr (.inl (some (0))))), some (.inl (a0))], [.inl (v10)], 0, 0, ix_mem 276 I10 J10 T10)
    exact ix_sp rfl ⟨Nat.le_refl _, Nat.le_refl _, trivial, hQ _ _ _ _ h10⟩
def wb_X11_setFraction_9 (x1 : Int64) (x3 : Int64) (x5 : Int64) (x7 : Int64) (x9 : Int32) (I : Nat → Nat → Int32) (J : Nat → Nat → Int64) (T : Option Nat) (V9 : Int64 → Int64 → Int64 → Int64 → Int32 → (Nat → Nat → Int32) → (Nat → Nat → Int64) → Option Nat → Prop) (P : (Nat → Nat → Int32) → (Nat → Nat → Int64) → Option Nat → Prop) : Prop := ((x9 < (128 : Int32) → ((lg_cmp (x7) ((0 : Int64)) = 0 → ((lg_cmp (x5) ((0 : Int64)) ≤ 0 → P I J T) ∧ (¬ (lg_cmp (x5) ((0 : Int64)) ≤ 0) → ix_nzl (x5) = true ∧ ix_nzl (x5) = true ∧ P I (ix_u2 (ix_u2 J 0 1 ((x1) / (x5))) 0 2 ((x3) / (x5))) T))) ∧ (¬ (lg_cmp (x7) ((0 : Int64)) = 0) → ix_nzl (x7) = true ∧ V9 (x1) (x3) (x7) ((x5) - (x5) / (x7) * (x7)) (x9 + (1 : Int32)) I J T))) ∧ (¬ (x9 < (128 : Int32)) → ((lg_cmp (x5) ((0 : Int64)) ≤ 0 → P I J T) ∧ (¬ (lg_cmp (x5) ((0 : Int64)) ≤ 0) → ix_nzl (x5) = true ∧ ix_nzl (x5) = true ∧ P I (ix_u2 (ix_u2 J 0 1 ((x1) / (x5))) 0 2 ((x3) / (x5))) T))))
def wl_X11_setFraction_9 (x1 : Int64) (x3 : Int64) (x5 : Int64) (x7 : Int64) (x9 : Int32) (I : Nat → Nat → Int32) (J : Nat → Nat → Int64) (T : Option Nat) (P : (Nat → Nat → Int32) → (Nat → Nat → Int64) → Option Nat → Prop) : Prop := ∀ V : Int64 → Int64 → Int64 → Int64 → Int32 → (Nat → Nat → Int32) → (Nat → Nat → Int64) → Option Nat → Prop, (∀ (x1 : Int64) (x3 : Int64) (x5 : Int64) (x7 : Int64) (x9 : Int32) (I : Nat → Nat → Int32) (J : Nat → Nat → Int64) (T : Option Nat), wb_X11_setFraction_9 x1 x3 x5 x7 x9 I J T V P → V x1 x3 x5 x7 x9 I J T) → V x1 x3 x5 x7 x9 I J T
set_option maxRecDepth 20000 in
theorem tl_X11_setFraction_9 {d : Nat} {x1 : Int64} {x3 : Int64} {x5 : Int64} {x7 : Int64} {x9 : Int32} {I : Nat → Nat → Int32} {J : Nat → Nat → Int64} {T : Option Nat} {P : (Nat → Nat → Int32) → (Nat → Nat → Int64) → Option Nat → Prop} {Q : ix_Q} (h : wl_X11_setFraction_9 x1 x3 x5 x7 x9 I J T P) (hQ : ∀ I J T, P I J T → Q none (ix_mem 276 I J T)) : ix_W (ix_C d) (11, ix_lk ix_l221, none, 0, 0, Nat.blt 0 0, none) Q (9, [some (.inr (.inr (.inl (some (0))))), some (.inr (.inl (x1))), none, some (.inr (.inl (x3))), none, some (.inr (.inl (x5))), none, some (.inr (.inl (x7))), none, some (.inl (x9)), none, none], [], 0, 0, ix_mem 276 I J T) := by
  refine h (fun x1 x3 x5 x7 x9 I J T => ix_W (ix_C d) (11, ix_lk ix_l221, none, 0, 0, Nat.blt 0 0, none) Q (9, [some (.inr (.inr (.inl (some (0))))), some (.inr (.inl (x1))), none, some (.inr (.inl (x3))), none, some (.inr (.inl (x5))), none, some (.inr (.inl (x7))), none, some (.inl (x9)), none, none], [], 0, 0, ix_mem 276 I J T)) ?_
  intro x1 x3 x5 x7 x9 I J T hb
  unfold wb_X11_setFraction_9 at hb
  refine ix_go 3 (x' := (if x9 < (128 : Int32) then 17 else 45, [some (.inr (.inr (.inl (some (0))))), some (.inr (.inl (x1))), none, some (.inr (.inl (x3))), none, some (.inr (.inl (x5))), none, some (.inr (.inl (x7))), none, some (.inl (x9)), none, none], [], 0, 0, ix_mem 276 I J T)) rfl trivial ?_
  refine ix_br (fun c1 => ?_) (fun c1 => ?_)
  · have h2 := hb.1 c1
    refine ix_go 4 (x' := (if lg_cmp (x7) ((0 : Int64)) = 0 then 45 else 24, [some (.inr (.inr (.inl (some (0))))), some (.inr (.inl (x1))), none, some (.inr (.inl (x3))), none, some (.inr (.inl (x5))), none, some (.inr (.inl (x7))), none, some (.inl (x9)), none, none], [], 0, 0, ix_mem 276 I J T)) rfl trivial ?_
    refine ix_br (fun c3 => ?_) (fun c3 => ?_)
    · have h4 := h2.1 c3
      refine ix_go 4 (x' := (if lg_cmp (x5) ((0 : Int64)) ≤ 0 then 68 else 52, [some (.inr (.inr (.inl (some (0))))), some (.inr (.inl (x1))), none, some (.inr (.inl (x3))), none, some (.inr (.inl (x5))), none, some (.inr (.inl (x7))), none, some (.inl (x9)), none, none], [], 0, 0, ix_mem 276 I J T)) rfl trivial ?_
      refine ix_br (fun c5 => ?_) (fun c5 => ?_)
      · have h6 := h4.1 c5
        exact ix_sp rfl ⟨Nat.le_refl _, Nat.le_refl _, rfl, hQ _ _ _ h6⟩
      · have h6 := h4.2 c5
        obtain ⟨p7, h8⟩ := h6
        refine ix_go 7 (x' := (62, [some (.inr (.inr (.inl (some (0))))), some (.inr (.inl (x1))), none, some (.inr (.inl (x3))), none, some (.inr (.inl (x5))), none, some (.inr (.inl (x7))), none, some (.inl (x9)), none, none], [.inr (.inl (x3)), .inr (.inr (.inl (some (0))))], 0, 0, ix_mem 276 I (ix_u2 J 0 1 ((x1) / (x5))) T)) rfl ⟨p7, rfl, rfl⟩ ?_
        obtain ⟨p9, h10⟩ := h8
        refine ix_go 3 (x' := (68, [some (.inr (.inr (.inl (some (0))))), some (.inr (.inl (x1))), none, some (.inr (.inl (x3))), none, some (.inr (.inl (x5))), none, some (.inr (.inl (x7))), none, some (.inl (x9)), none, none], [], 0, 0, ix_mem 276 I (ix_u2 (ix_u2 J 0 1 ((x1) / (x5))) 0 2 ((x3) / (x5))) T)) rfl ⟨p9, rfl, rfl⟩ ?_
        exact ix_sp rfl ⟨Nat.le_refl _, Nat.le_refl _, rfl, hQ _ _ _ h10⟩
    · have h4 := h2.2 c3
      obtain ⟨p11, h12⟩ := h4
      refine ix_go 7 (x' := (37, [some (.inr (.inr (.inl (some (0))))), some (.inr (.inl (x1))), none, some (.inr (.inl (x3))), none, some (.inr (.inl (x7))), none, some (.inr (.inl (x7))), none, some (.inl (x9)), some (.inr (.inl ((x5) - (x5) / (x7) * (x7)))), none], [.inr (.inl ((x5) - (x5) / (x7) * (x7)))], 0, 0, ix_mem 276 I J T)) rfl p11 ?_
      refine ix_go 3 (x' := (9, [some (.inr (.inr (.inl (some (0))))), some (.inr (.inl (x1))), none, some (.inr (.inl (x3))), none, some (.inr (.inl (x7))), none, some (.inr (.inl ((x5) - (x5) / (x7) * (x7)))), none, some (.inl (x9 + (1 : Int32))), some (.inr (.inl ((x5) - (x5) / (x7) * (x7)))), none], [], 0, 0, ix_mem 276 I J T)) rfl trivial ?_
      refine ix_subW ([some (.inr (.inr (.inl (some (0))))), some (.inr (.inl (x1))), none, some (.inr (.inl (x3))), none, some (.inr (.inl (x7))), none, some (.inr (.inl ((x5) - (x5) / (x7) * (x7)))), none, some (.inl (x9 + (1 : Int32))), none, none]) (ix_subS (ix_subS (ix_subS (ix_subS (ix_subS (ix_subS (ix_subS (ix_subS (ix_subS (ix_subS (ix_subN (ix_subS (ix_sub0))))))))))))) ?_
      exact h12
  · have h2 := hb.2 c1
    refine ix_go 4 (x' := (if lg_cmp (x5) ((0 : Int64)) ≤ 0 then 68 else 52, [some (.inr (.inr (.inl (some (0))))), some (.inr (.inl (x1))), none, some (.inr (.inl (x3))), none, some (.inr (.inl (x5))), none, some (.inr (.inl (x7))), none, some (.inl (x9)), none, none], [], 0, 0, ix_mem 276 I J T)) rfl trivial ?_
    refine ix_br (fun c13 => ?_) (fun c13 => ?_)
    · have h14 := h2.1 c13
      exact ix_sp rfl ⟨Nat.le_refl _, Nat.le_refl _, rfl, hQ _ _ _ h14⟩
    · have h14 := h2.2 c13
      obtain ⟨p15, h16⟩ := h14
      refine ix_go 7 (x' := (62, [some (.inr (.inr (.inl (some (0))))), some (.inr (.inl (x1))), none, some (.inr (.inl (x3))), none, some (.inr (.inl (x5))), none, some (.inr (.inl (x7))), none, some (.inl (x9)), none, none], [.inr (.inl (x3)), .inr (.inr (.inl (some (0))))], 0, 0, ix_mem 276 I (ix_u2 J 0 1 ((x1) / (x5))) T)) rfl ⟨p15, rfl, rfl⟩ ?_
      obtain ⟨p17, h18⟩ := h16
      refine ix_go 3 (x' := (68, [some (.inr (.inr (.inl (some (0))))), some (.inr (.inl (x1))), none, some (.inr (.inl (x3))), none, some (.inr (.inl (x5))), none, some (.inr (.inl (x7))), none, some (.inl (x9)), none, none], [], 0, 0, ix_mem 276 I (ix_u2 (ix_u2 J 0 1 ((x1) / (x5))) 0 2 ((x3) / (x5))) T)) rfl ⟨p17, rfl, rfl⟩ ?_
      exact ix_sp rfl ⟨Nat.le_refl _, Nat.le_refl _, rfl, hQ _ _ _ h18⟩
def wp_X11_setFraction (a0 : Int64) (a1 : Int64) (I : Nat → Nat → Int32) (J : Nat → Nat → Int64) (T : Option Nat) (P : (Nat → Nat → Int32) → (Nat → Nat → Int64) → Option Nat → Prop) : Prop := wl_X11_setFraction_9 (a0) (a1) (a1) (a0) ((0 : Int32)) I J T P
set_option maxRecDepth 20000 in
theorem tp_X11_setFraction {d : Nat} {a0 : Int64} {a1 : Int64} {I : Nat → Nat → Int32} {J : Nat → Nat → Int64} {T : Option Nat} {P : (Nat → Nat → Int32) → (Nat → Nat → Int64) → Option Nat → Prop} {Q : ix_Q} (h : wp_X11_setFraction a0 a1 I J T P) (hQ : ∀ I J T, P I J T → Q none (ix_mem 276 I J T)) : ix_C (d + 1) 221 [.inr (.inr (.inl (some (0)))), .inr (.inl (a0)), .inr (.inl (a1))] (ix_mem 276 I J T) Q := by
  unfold wp_X11_setFraction at h
  refine ix_enter (ls := [some (.inr (.inr (.inl (some (0))))), some (.inr (.inl (a0))), none, some (.inr (.inl (a1))), none, none, none, none, none, none, none, none]) rfl rfl rfl (Nat.le_of_ble_eq_true rfl) ?_
  refine ix_go 6 (x' := (9, [some (.inr (.inr (.inl (some (0))))), some (.inr (.inl (a0))), none, some (.inr (.inl (a1))), none, some (.inr (.inl (a1))), none, some (.inr (.inl (a0))), none, some (.inl ((0 : Int32))), none, none], [], 0, 0, ix_mem 276 I J T)) rfl trivial ?_
  refine ix_subW ([some (.inr (.inr (.inl (some (0))))), some (.inr (.inl (a0))), none, some (.inr (.inl (a1))), none, some (.inr (.inl (a1))), none, some (.inr (.inl (a0))), none, some (.inl ((0 : Int32))), none, none]) (ix_subS (ix_subS (ix_subS (ix_subS (ix_subS (ix_subS (ix_subS (ix_subS (ix_subS (ix_subS (ix_subS (ix_subS (ix_sub0))))))))))))) ?_
  exact tl_X11_setFraction_9 h hQ
