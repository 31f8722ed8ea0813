def wp_X11_isPair (a0 : Int32) (a1 : Int32) (I : Nat → Nat → Int32) (J : Nat → Nat → Int64) (T : Option Nat) (P : Int32 → (Nat → Nat → Int32) → (Nat → Nat → Int64) → Option Nat → Prop) : Prop := wp_X11_isLand (a0) I J T (fun v1 I1 J1 T1 => ((v1 = 0 → P ((0 : Int32)) I1 J1 T1) ∧ (¬ (v1 = 0) → wp_X11_isLand (a1) I1 J1 T1 (fun v4 I4 J4 T4 => ((v4 = 0 → P ((0 : Int32)) I4 J4 T4) ∧ (¬ (v4 = 0) → ((a0 = a1 → P ((0 : Int32)) I4 J4 T4) ∧ (¬ (a0 = a1) → P ((1 : Int32)) I4 J4 T4))))))))
set_option maxRecDepth 20000 in
theorem tp_X11_isPair {d : Nat} {a0 : Int32} {a1 : Int32} {I : Nat → Nat → Int32} {J : Nat → Nat → Int64} {T : Option Nat} {P : Int32 → (Nat → Nat → Int32) → (Nat → Nat → Int64) → Option Nat → Prop} {Q : ix_Q} (h : wp_X11_isPair a0 a1 I J T P) (hQ : ∀ v I J T, P v I J T → Q (some (.inl v)) (ix_mem 276 I J T)) : ix_C (d + 3) 174 [.inr (.inr (.inl (some (0)))), .inl (a0), .inl (a1)] (ix_mem 276 I J T) Q := by
  unfold wp_X11_isPair at h
  refine ix_enter (ls := [some (.inr (.inr (.inl (some (0))))), some (.inl (a0)), some (.inl (a1))]) rfl rfl rfl (Nat.le_of_ble_eq_true rfl) ?_
  refine ix_go 2 (x' := (2, [some (.inr (.inr (.inl (some (0))))), some (.inl (a0)), some (.inl (a1))], [.inl (a0), .inr (.inr (.inl (some (0))))], 0, 0, ix_mem 276 I J T)) rfl trivial ?_
  refine ix_sp rfl ⟨rfl, ⟨ix_lt rfl, ix_eq rfl, ix_lt rfl⟩, ix_le rfl, Nat.le_refl _, Nat.le_refl _, tp_X11_isLand h (fun v1 I1 J1 T1 h1 => ?_)⟩
  change ix_W _ _ _ (5, [some (.inr (.inr (.inl (some (0))))), some (.inl (a0)), some (.inl (a1))], [.inl (v1)], 0, 0, ix_mem 276 I1 J1 T1)
  refine ix_go 1 (x' := (if v1 = 0 then 25 else 8, [some (.inr (.inr (.inl (some (0))))), some (.inl (a0)), some (.inl (a1))], [], 0, 0, ix_mem 276 I1 J1 T1)) rfl trivial ?_
  refine ix_br (fun c2 => ?_) (fun c2 => ?_)
  · have h3 := h1.1 c2
    refine ix_go 1 (x' := (26, [some (.inr (.inr (.inl (some (0))))), some (.inl (a0)), some (.inl (a1))], [.inl ((0 : Int32))], 0, 0, ix_mem 276 I1 J1 T1)) rfl trivial ?_
    exact ix_sp rfl ⟨Nat.le_refl _, Nat.le_refl _, ix_01_ok rfl, hQ _ _ _ _ h3⟩
  · have h3 := h1.2 c2
    refine ix_go 2 (x' := (10, [some (.inr (.inr (.inl (some (0))))), some (.inl (a0)), some (.inl (a1))], [.inl (a1), .inr (.inr (.inl (some (0))))], 0, 0, ix_mem 276 I1 J1 T1)) rfl trivial ?_
    refine ix_sp rfl ⟨rfl, ⟨ix_lt rfl, ix_eq rfl, ix_lt rfl⟩, ix_le rfl, Nat.le_refl _, Nat.le_refl _, tp_X11_isLand h3 (fun v4 I4 J4 T4 h4 => ?_)⟩
    change ix_W _ _ _ (13, [some (.inr (.inr (.inl (some (0))))), some (.inl (a0)), some (.inl (a1))], [.inl (v4)], 0, 0, ix_mem 276 I4 J4 T4)
    refine ix_go 1 (x' := (if v4 = 0 then 25 else 16, [some (.inr (.inr (.inl (some (0))))), some (.inl (a0)), some (.inl (a1))], [], 0, 0, ix_mem 276 I4 J4 T4)) rfl trivial ?_
    refine ix_br (fun c5 => ?_) (fun c5 => ?_)
    · have h6 := h4.1 c5
      refine ix_go 1 (x' := (26, [some (.inr (.inr (.inl (some (0))))), some (.inl (a0)), some (.inl (a1))], [.inl ((0 : Int32))], 0, 0, ix_mem 276 I4 J4 T4)) rfl trivial ?_
      exact ix_sp rfl ⟨Nat.le_refl _, Nat.le_refl _, ix_01_ok rfl, hQ _ _ _ _ h6⟩
    · have h6 := h4.2 c5
      refine ix_go 3 (x' := (if a0 = a1 then 25 else 21, [some (.inr (.inr (.inl (some (0))))), some (.inl (a0)), some (.inl (a1))], [], 0, 0, ix_mem 276 I4 J4 T4)) rfl trivial ?_
      refine ix_br (fun c7 => ?_) (fun c7 => ?_)
      · have h8 := h6.1 c7
        refine ix_go 1 (x' := (26, [some (.inr (.inr (.inl (some (0))))), some (.inl (a0)), some (.inl (a1))], [.inl ((0 : Int32))], 0, 0, ix_mem 276 I4 J4 T4)) rfl trivial ?_
        exact ix_sp rfl ⟨Nat.le_refl _, Nat.le_refl _, ix_01_ok rfl, hQ _ _ _ _ h8⟩
      · have h8 := h6.2 c7
        refine ix_go 2 (x' := (26, [some (.inr (.inr (.inl (some (0))))), some (.inl (a0)), some (.inl (a1))], [.inl ((1 : Int32))], 0, 0, ix_mem 276 I4 J4 T4)) rfl trivial ?_
        exact ix_sp rfl ⟨Nat.le_refl _, Nat.le_refl _, ix_01_ok rfl, hQ _ _ _ _ h8⟩
def wp_X11_road (a0 : Int32) (a1 : Int32) (a2 : Int32) (a3 : Int32) (I : Nat → Nat → Int32) (J : Nat → Nat → Int64) (T : Option Nat) (P : Int32 → (Nat → Nat → Int32) → (Nat → Nat → Int64) → Option Nat → Prop) : Prop := ((a2 = (-1 : Int32) → wp_X11_isPair (a0) (a1) I J T (fun v3 I3 J3 T3 => ((v3 = 0 → wp_X11_refused ((1 : Int32)) I3 J3 T3 (fun v6 I6 J6 T6 => ix_01 (v6) = true ∧ P (v6) I6 J6 T6)) ∧ (¬ (v3 = 0) → wp_X5_hasRoad (a0) (a1) I3 J3 T3 (fun v7 I7 J7 T7 => ((v7 = 0 → wp_X11_refused ((6 : Int32)) I7 J7 T7 (fun v10 I10 J10 T10 => ix_01 (v10) = true ∧ P (v10) I10 J10 T10)) ∧ (¬ (v7 = 0) → wp_X5_setRoad (a0) (a1) ((0 : Int32)) ((0 : Int32)) I7 J7 T7 (fun I11 J11 T11 => wp_X11_accepted I11 J11 T11 (fun v12 I12 J12 T12 => ix_01 (v12) = true ∧ P (v12) I12 J12 T12))))))))) ∧ (¬ (a2 = (-1 : Int32)) → wp_X11_isPair (a0) (a1) I J T (fun v13 I13 J13 T13 => ((v13 = 0 → wp_X11_refused ((1 : Int32)) I13 J13 T13 (fun v16 I16 J16 T16 => ix_01 (v16) = true ∧ P (v16) I16 J16 T16)) ∧ (¬ (v13 = 0) → wp_X11_outside ((a2).toInt64) ((1 : Int64)) ((60 : Int64)) I13 J13 T13 (fun v17 I17 J17 T17 => ((v17 = 0 → wp_X11_outside ((a3).toInt64) ((0 : Int64)) ((10000 : Int64)) I17 J17 T17 (fun v20 I20 J20 T20 => ((v20 = 0 → wp_X5_setRoad (a0) (a1) (a2) (a3) I20 J20 T20 (fun I23 J23 T23 => wp_X11_accepted I23 J23 T23 (fun v24 I24 J24 T24 => ix_01 (v24) = true ∧ P (v24) I24 J24 T24))) ∧ (¬ (v20 = 0) → wp_X11_refused ((1 : Int32)) I20 J20 T20 (fun v25 I25 J25 T25 => ix_01 (v25) = true ∧ P (v25) I25 J25 T25))))) ∧ (¬ (v17 = 0) → wp_X11_refused ((1 : Int32)) I17 J17 T17 (fun v26 I26 J26 T26 => ix_01 (v26) = true ∧ P (v26) I26 J26 T26)))))))))
set_option maxRecDepth 20000 in
theorem tp_X11_road {d : Nat} {a0 : Int32} {a1 : Int32} {a2 : Int32} {a3 : Int32} {I : Nat → Nat → Int32} {J : Nat → Nat → Int64} {T : Option Nat} {P : Int32 → (Nat → Nat → Int32) → (Nat → Nat → Int64) → Option Nat → Prop} {Q : ix_Q} (h : wp_X11_road a0 a1 a2 a3 I J T P) (hQ : ∀ v I J T, P v I J T → Q (some (.inl v)) (ix_mem 276 I J T)) : ix_C (d + 4) 175 [.inr (.inr (.inl (some (0)))), .inl (a0), .inl (a1), .inl (a2), .inl (a3)] (ix_mem 276 I J T) Q := by
  unfold wp_X11_road at h
  refine ix_enter (ls := [some (.inr (.inr (.inl (some (0))))), some (.inl (a0)), some (.inl (a1)), some (.inl (a2)), some (.inl (a3)), none]) rfl rfl rfl (Nat.le_of_ble_eq_true rfl) ?_
  refine ix_go 3 (x' := (if a2 = (-1 : Int32) then 5 else 9, [some (.inr (.inr (.inl (some (0))))), some (.inl (a0)), some (.inl (a1)), some (.inl (a2)), some (.inl (a3)), none], [], 0, 0, ix_mem 276 I J T)) rfl trivial ?_
  refine ix_br (fun c1 => ?_) (fun c1 => ?_)
  · have h2 := h.1 c1
    refine ix_go 6 (x' := (15, [some (.inr (.inr (.inl (some (0))))), some (.inl (a0)), some (.inl (a1)), some (.inl (a2)), some (.inl (a3)), some (.inl ((1 : Int32)))], [.inl (a1), .inl (a0), .inr (.inr (.inl (some (0))))], 0, 0, ix_mem 276 I J T)) rfl trivial ?_
    refine ix_sp rfl ⟨rfl, ⟨ix_lt rfl, ix_eq rfl, ix_lt rfl⟩, ix_le rfl, Nat.le_refl _, Nat.le_refl _, tp_X11_isPair h2 (fun v3 I3 J3 T3 h3 => ?_)⟩
    change ix_W _ _ _ (18, [some (.inr (.inr (.inl (some (0))))), some (.inl (a0)), some (.inl (a1)), some (.inl (a2)), some (.inl (a3)), some (.inl ((1 : Int32)))], [.inl (v3)], 0, 0, ix_mem 276 I3 J3 T3)
    refine ix_go 1 (x' := (if v3 = 0 then 51 else 21, [some (.inr (.inr (.inl (some (0))))), some (.inl (a0)), some (.inl (a1)), some (.inl (a2)), some (.inl (a3)), some (.inl ((1 : Int32)))], [], 0, 0, ix_mem 276 I3 J3 T3)) rfl trivial ?_
    refine ix_br (fun c4 => ?_) (fun c4 => ?_)
    · have h5 := h3.1 c4
      refine ix_go 2 (x' := (53, [some (.inr (.inr (.inl (some (0))))), some (.inl (a0)), some (.inl (a1)), some (.inl (a2)), some (.inl (a3)), some (.inl ((1 : Int32)))], [.inl ((1 : Int32)), .inr (.inr (.inl (some (0))))], 0, 0, ix_mem 276 I3 J3 T3)) rfl trivial ?_
      refine ix_sp rfl ⟨rfl, ⟨ix_lt rfl, ix_eq rfl, ix_lt rfl⟩, ix_le rfl, Nat.le_refl _, Nat.le_refl _, tp_X11_refused h5 (fun v6 I6 J6 T6 h6 => ?_)⟩
      change ix_W _ _ _ (56, [some (.inr (.inr (.inl (some (0))))), some (.inl (a0)), some (.inl (a1)), some (.inl (a2)), some (.inl (a3)), some (.inl ((1 : Int32)))], [.inl (v6)], 0, 0, ix_mem 276 I6 J6 T6)
      exact ix_sp rfl ⟨Nat.le_refl _, Nat.le_refl _, ix_01_ok h6.1, hQ _ _ _ _ h6.2⟩
    · have h5 := h3.2 c4
      refine ix_go 8 (x' := (68, [some (.inr (.inr (.inl (some (0))))), some (.inl (a0)), some (.inl (a1)), some (.inl (a2)), some (.inl (a3)), some (.inl ((1 : Int32)))], [.inl (a1), .inl (a0), .inr (.inr (.inl (some (8))))], 0, 0, ix_mem 276 I3 J3 T3)) rfl ⟨rfl, rfl⟩ ?_
      refine ix_sp rfl ⟨rfl, ⟨ix_lt rfl, ix_eq rfl, ix_lt rfl⟩, ix_le rfl, Nat.le_refl _, Nat.le_refl _, tp_X5_hasRoad h5 (fun v7 I7 J7 T7 h7 => ?_)⟩
      change ix_W _ _ _ (71, [some (.inr (.inr (.inl (some (0))))), some (.inl (a0)), some (.inl (a1)), some (.inl (a2)), some (.inl (a3)), some (.inl ((1 : Int32)))], [.inl (v7)], 0, 0, ix_mem 276 I7 J7 T7)
      refine ix_go 1 (x' := (if v7 = 0 then 74 else 81, [some (.inr (.inr (.inl (some (0))))), some (.inl (a0)), some (.inl (a1)), some (.inl (a2)), some (.inl (a3)), some (.inl ((1 : Int32)))], [], 0, 0, ix_mem 276 I7 J7 T7)) rfl trivial ?_
      refine ix_br (fun c8 => ?_) (fun c8 => ?_)
      · have h9 := h7.1 c8
        refine ix_go 2 (x' := (77, [some (.inr (.inr (.inl (some (0))))), some (.inl (a0)), some (.inl (a1)), some (.inl (a2)), some (.inl (a3)), some (.inl ((1 : Int32)))], [.inl ((6 : Int32)), .inr (.inr (.inl (some (0))))], 0, 0, ix_mem 276 I7 J7 T7)) rfl trivial ?_
        refine ix_sp rfl ⟨rfl, ⟨ix_lt rfl, ix_eq rfl, ix_lt rfl⟩, ix_le rfl, Nat.le_refl _, Nat.le_refl _, tp_X11_refused h9 (fun v10 I10 J10 T10 h10 => ?_)⟩
        change ix_W _ _ _ (80, [some (.inr (.inr (.inl (some (0))))), some (.inl (a0)), some (.inl (a1)), some (.inl (a2)), some (.inl (a3)), some (.inl ((1 : Int32)))], [.inl (v10)], 0, 0, ix_mem 276 I10 J10 T10)
        exact ix_sp rfl ⟨Nat.le_refl _, Nat.le_refl _, ix_01_ok h10.1, hQ _ _ _ _ h10.2⟩
      · have h9 := h7.2 c8
        refine ix_go 12 (x' := (108, [some (.inr (.inr (.inl (some (0))))), some (.inl (a0)), some (.inl (a1)), some (.inl (a2)), some (.inl (a3)), some (.inl ((1 : Int32)))], [.inl ((0 : Int32)), .inl ((0 : Int32)), .inl (a1), .inl (a0), .inr (.inr (.inl (some (8))))], 0, 0, ix_mem 276 I7 J7 T7)) rfl ⟨rfl, rfl⟩ ?_
        refine ix_sp rfl ⟨rfl, ⟨ix_lt rfl, ix_eq rfl, ix_lt rfl⟩, ix_le rfl, Nat.le_refl _, Nat.le_refl _, tp_X5_setRoad h9 (fun I11 J11 T11 h11 => ?_)⟩
        change ix_W _ _ _ (111, [some (.inr (.inr (.inl (some (0))))), some (.inl (a0)), some (.inl (a1)), some (.inl (a2)), some (.inl (a3)), some (.inl ((1 : Int32)))], [], 0, 0, ix_mem 276 I11 J11 T11)
        refine ix_go 1 (x' := (112, [some (.inr (.inr (.inl (some (0))))), some (.inl (a0)), some (.inl (a1)), some (.inl (a2)), some (.inl (a3)), some (.inl ((1 : Int32)))], [.inr (.inr (.inl (some (0))))], 0, 0, ix_mem 276 I11 J11 T11)) rfl trivial ?_
        refine ix_sp rfl ⟨rfl, ⟨ix_lt rfl, ix_eq rfl, ix_lt rfl⟩, ix_le rfl, Nat.le_refl _, Nat.le_refl _, tp_X11_accepted h11 (fun v12 I12 J12 T12 h12 => ?_)⟩
        change ix_W _ _ _ (115, [some (.inr (.inr (.inl (some (0))))), some (.inl (a0)), some (.inl (a1)), some (.inl (a2)), some (.inl (a3)), some (.inl ((1 : Int32)))], [.inl (v12)], 0, 0, ix_mem 276 I12 J12 T12)
        exact ix_sp rfl ⟨Nat.le_refl _, Nat.le_refl _, ix_01_ok h12.1, hQ _ _ _ _ h12.2⟩
  · have h2 := h.2 c1
    refine ix_go 5 (x' := (15, [some (.inr (.inr (.inl (some (0))))), some (.inl (a0)), some (.inl (a1)), some (.inl (a2)), some (.inl (a3)), some (.inl ((0 : Int32)))], [.inl (a1), .inl (a0), .inr (.inr (.inl (some (0))))], 0, 0, ix_mem 276 I J T)) rfl trivial ?_
    refine ix_sp rfl ⟨rfl, ⟨ix_lt rfl, ix_eq rfl, ix_lt rfl⟩, ix_le rfl, Nat.le_refl _, Nat.le_refl _, tp_X11_isPair h2 (fun v13 I13 J13 T13 h13 => ?_)⟩
    change ix_W _ _ _ (18, [some (.inr (.inr (.inl (some (0))))), some (.inl (a0)), some (.inl (a1)), some (.inl (a2)), some (.inl (a3)), some (.inl ((0 : Int32)))], [.inl (v13)], 0, 0, ix_mem 276 I13 J13 T13)
    refine ix_go 1 (x' := (if v13 = 0 then 51 else 21, [some (.inr (.inr (.inl (some (0))))), some (.inl (a0)), some (.inl (a1)), some (.inl (a2)), some (.inl (a3)), some (.inl ((0 : Int32)))], [], 0, 0, ix_mem 276 I13 J13 T13)) rfl trivial ?_
    refine ix_br (fun c14 => ?_) (fun c14 => ?_)
    · have h15 := h13.1 c14
      refine ix_go 2 (x' := (53, [some (.inr (.inr (.inl (some (0))))), some (.inl (a0)), some (.inl (a1)), some (.inl (a2)), some (.inl (a3)), some (.inl ((0 : Int32)))], [.inl ((1 : Int32)), .inr (.inr (.inl (some (0))))], 0, 0, ix_mem 276 I13 J13 T13)) rfl trivial ?_
      refine ix_sp rfl ⟨rfl, ⟨ix_lt rfl, ix_eq rfl, ix_lt rfl⟩, ix_le rfl, Nat.le_refl _, Nat.le_refl _, tp_X11_refused h15 (fun v16 I16 J16 T16 h16 => ?_)⟩
      change ix_W _ _ _ (56, [some (.inr (.inr (.inl (some (0))))), some (.inl (a0)), some (.inl (a1)), some (.inl (a2)), some (.inl (a3)), some (.inl ((0 : Int32)))], [.inl (v16)], 0, 0, ix_mem 276 I16 J16 T16)
      exact ix_sp rfl ⟨Nat.le_refl _, Nat.le_refl _, ix_01_ok h16.1, hQ _ _ _ _ h16.2⟩
    · have h15 := h13.2 c14
      refine ix_go 6 (x' := (32, [some (.inr (.inr (.inl (some (0))))), some (.inl (a0)), some (.inl (a1)), some (.inl (a2)), some (.inl (a3)), some (.inl ((0 : Int32)))], [.inr (.inl ((60 : Int64))), .inr (.inl ((1 : Int64))), .inr (.inl ((a2).toInt64))], 0, 0, ix_mem 276 I13 J13 T13)) rfl trivial ?_
      refine ix_sp rfl ⟨rfl, trivial, ix_le rfl, Nat.le_refl _, Nat.le_refl _, tp_X11_outside h15 (fun v17 I17 J17 T17 h17 => ?_)⟩
      change ix_W _ _ _ (35, [some (.inr (.inr (.inl (some (0))))), some (.inl (a0)), some (.inl (a1)), some (.inl (a2)), some (.inl (a3)), some (.inl ((0 : Int32)))], [.inl (v17)], 0, 0, ix_mem 276 I17 J17 T17)
      refine ix_go 1 (x' := (if v17 = 0 then 38 else 51, [some (.inr (.inr (.inl (some (0))))), some (.inl (a0)), some (.inl (a1)), some (.inl (a2)), some (.inl (a3)), some (.inl ((0 : Int32)))], [], 0, 0, ix_mem 276 I17 J17 T17)) rfl trivial ?_
      refine ix_br (fun c18 => ?_) (fun c18 => ?_)
      · have h19 := h17.1 c18
        refine ix_go 4 (x' := (45, [some (.inr (.inr (.inl (some (0))))), some (.inl (a0)), some (.inl (a1)), some (.inl (a2)), some (.inl (a3)), some (.inl ((0 : Int32)))], [.inr (.inl ((10000 : Int64))), .inr (.inl ((0 : Int64))), .inr (.inl ((a3).toInt64))], 0, 0, ix_mem 276 I17 J17 T17)) rfl trivial ?_
        refine ix_sp rfl ⟨rfl, trivial, ix_le rfl, Nat.le_refl _, Nat.le_refl _, tp_X11_outside h19 (fun v20 I20 J20 T20 h20 => ?_)⟩
        change ix_W _ _ _ (48, [some (.inr (.inr (.inl (some (0))))), some (.inl (a0)), some (.inl (a1)), some (.inl (a2)), some (.inl (a3)), some (.inl ((0 : Int32)))], [.inl (v20)], 0, 0, ix_mem 276 I20 J20 T20)
        refine ix_go 1 (x' := (if v20 = 0 then 57 else 51, [some (.inr (.inr (.inl (some (0))))), some (.inl (a0)), some (.inl (a1)), some (.inl (a2)), some (.inl (a3)), some (.inl ((0 : Int32)))], [], 0, 0, ix_mem 276 I20 J20 T20)) rfl trivial ?_
        refine ix_br (fun c21 => ?_) (fun c21 => ?_)
        · have h22 := h20.1 c21
          refine ix_go 12 (x' := (108, [some (.inr (.inr (.inl (some (0))))), some (.inl (a0)), some (.inl (a1)), some (.inl (a2)), some (.inl (a3)), some (.inl ((0 : Int32)))], [.inl (a3), .inl (a2), .inl (a1), .inl (a0), .inr (.inr (.inl (some (8))))], 0, 0, ix_mem 276 I20 J20 T20)) rfl ⟨rfl, rfl⟩ ?_
          refine ix_sp rfl ⟨rfl, ⟨ix_lt rfl, ix_eq rfl, ix_lt rfl⟩, ix_le rfl, Nat.le_refl _, Nat.le_refl _, tp_X5_setRoad h22 (fun I23 J23 T23 h23 => ?_)⟩
          change ix_W _ _ _ (111, [some (.inr (.inr (.inl (some (0))))), some (.inl (a0)), some (.inl (a1)), some (.inl (a2)), some (.inl (a3)), some (.inl ((0 : Int32)))], [], 0, 0, ix_mem 276 I23 J23 T23)
          refine ix_go 1 (x' := (112, [some (.inr (.inr (.inl (some (0))))), some (.inl (a0)), some (.inl (a1)), some (.inl (a2)), some (.inl (a3)), some (.inl ((0 : Int32)))], [.inr (.inr (.inl (some (0))))], 0, 0, ix_mem 276 I23 J23 T23)) rfl trivial ?_
          refine ix_sp rfl ⟨rfl, ⟨ix_lt rfl, ix_eq rfl, ix_lt rfl⟩, ix_le rfl, Nat.le_refl _, Nat.le_refl _, tp_X11_accepted h23 (fun v24 I24 J24 T24 h24 => ?_)⟩
          change ix_W _ _ _ (115, [some (.inr (.inr (.inl (some (0))))), some (.inl (a0)), some (.inl (a1)), some (.inl (a2)), some (.inl (a3)), some (.inl ((0 : Int32)))], [.inl (v24)], 0, 0, ix_mem 276 I24 J24 T24)
          exact ix_sp rfl ⟨Nat.le_refl _, Nat.le_refl _, ix_01_ok h24.1, hQ _ _ _ _ h24.2⟩
        · have h22 := h20.2 c21
          refine ix_go 2 (x' := (53, [some (.inr (.inr (.inl (some (0))))), some (.inl (a0)), some (.inl (a1)), some (.inl (a2)), some (.inl (a3)), some (.inl ((0 : Int32)))], [.inl ((1 : Int32)), .inr (.inr (.inl (some (0))))], 0, 0, ix_mem 276 I20 J20 T20)) rfl trivial ?_
          refine ix_sp rfl ⟨rfl, ⟨ix_lt rfl, ix_eq rfl, ix_lt rfl⟩, ix_le rfl, Nat.le_refl _, Nat.le_refl _, tp_X11_refused h22 (fun v25 I25 J25 T25 h25 => ?_)⟩
          change ix_W _ _ _ (56, [some (.inr (.inr (.inl (some (0))))), some (.inl (a0)), some (.inl (a1)), some (.inl (a2)), some (.inl (a3)), some (.inl ((0 : Int32)))], [.inl (v25)], 0, 0, ix_mem 276 I25 J25 T25)
          exact ix_sp rfl ⟨Nat.le_refl _, Nat.le_refl _, ix_01_ok h25.1, hQ _ _ _ _ h25.2⟩
      · have h19 := h17.2 c18
        refine ix_go 2 (x' := (53, [some (.inr (.inr (.inl (some (0))))), some (.inl (a0)), some (.inl (a1)), some (.inl (a2)), some (.inl (a3)), some (.inl ((0 : Int32)))], [.inl ((1 : Int32)), .inr (.inr (.inl (some (0))))], 0, 0, ix_mem 276 I17 J17 T17)) rfl trivial ?_
        refine ix_sp rfl ⟨rfl, ⟨ix_lt rfl, ix_eq rfl, ix_lt rfl⟩, ix_le rfl, Nat.le_refl _, Nat.le_refl _, tp_X11_refused h19 (fun v26 I26 J26 T26 h26 => ?_)⟩
        change ix_W _ _ _ (56, [some (.inr (.inr (.inl (some (0))))), some (.inl (a0)), some (.inl (a1)), some (.inl (a2)), some (.inl (a3)), some (.inl ((0 : Int32)))], [.inl (v26)], 0, 0, ix_mem 276 I26 J26 T26)
        exact ix_sp rfl ⟨Nat.le_refl _, Nat.le_refl _, ix_01_ok h26.1, hQ _ _ _ _ h26.2⟩
def wp_X11_feed (a0 : Int32) (a1 : Int32) (a2 : Int32) (a3 : Int32) (a4 : Int32) (I : Nat → Nat → Int32) (J : Nat → Nat → Int64) (T : Option Nat) (P : Int32 → (Nat → Nat → Int32) → (Nat → Nat → Int64) → Option Nat → Prop) : Prop := wp_X7_hasRoom I J T (fun v1 I1 J1 T1 => ((v1 = 0 → P ((-1 : Int32)) I1 J1 T1) ∧ (¬ (v1 = 0) → wp_X7_addToTape (a0) I1 J1 T1 (fun I4 J4 T4 => wp_X7_addToTape (a1) I4 J4 T4 (fun I5 J5 T5 => wp_X7_addToTape (a2) I5 J5 T5 (fun I6 J6 T6 => wp_X7_addToTape (a3) I6 J6 T6 (fun I7 J7 T7 => wp_X7_addToTape (a4) I7 J7 T7 (fun I8 J8 T8 => wp_X7_tapeLength I8 J8 T8 (fun v9 I9 J9 T9 => P (v9) I9 J9 T9)))))))))
set_option maxRecDepth 20000 in
theorem tp_X11_feed {d : Nat} {a0 : Int32} {a1 : Int32} {a2 : Int32} {a3 : Int32} {a4 : Int32} {I : Nat → Nat → Int32} {J : Nat → Nat → Int64} {T : Option Nat} {P : Int32 → (Nat → Nat → Int32) → (Nat → Nat → Int64) → Option Nat → Prop} {Q : ix_Q} (h : wp_X11_feed a0 a1 a2 a3 a4 I J T P) (hQ : ∀ v I J T, P v I J T → Q (some (.inl v)) (ix_mem 276 I J T)) : ix_C (d + 2) 176 [.inr (.inr (.inl (some (0)))), .inl (a0), .inl (a1), .inl (a2), .inl (a3), .inl (a4)] (ix_mem 276 I J T) Q := by
  unfold wp_X11_feed at h
  refine ix_enter (ls := [some (.inr (.inr (.inl (some (0))))), some (.inl (a0)), some (.inl (a1)), some (.inl (a2)), some (.inl (a3)), some (.inl (a4))]) rfl rfl rfl (Nat.le_of_ble_eq_true rfl) ?_
  refine ix_go 2 (x' := (4, [some (.inr (.inr (.inl (some (0))))), some (.inl (a0)), some (.inl (a1)), some (.inl (a2)), some (.inl (a3)), some (.inl (a4))], [.inr (.inr (.inl (some (44))))], 0, 0, ix_mem 276 I J T)) rfl ⟨rfl, rfl⟩ ?_
  refine ix_sp rfl ⟨rfl, ⟨ix_lt rfl, ix_eq rfl, ix_lt rfl⟩, ix_le rfl, Nat.le_refl _, Nat.le_refl _, tp_X7_hasRoom h (fun v1 I1 J1 T1 h1 => ?_)⟩
  change ix_W _ _ _ (7, [some (.inr (.inr (.inl (some (0))))), some (.inl (a0)), some (.inl (a1)), some (.inl (a2)), some (.inl (a3)), some (.inl (a4))], [.inl (v1)], 0, 0, ix_mem 276 I1 J1 T1)
  refine ix_go 1 (x' := (if v1 = 0 then 10 else 12, [some (.inr (.inr (.inl (some (0))))), some (.inl (a0)), some (.inl (a1)), some (.inl (a2)), some (.inl (a3)), some (.inl (a4))], [], 0, 0, ix_mem 276 I1 J1 T1)) rfl trivial ?_
  refine ix_br (fun c2 => ?_) (fun c2 => ?_)
  · have h3 := h1.1 c2
    refine ix_go 1 (x' := (11, [some (.inr (.inr (.inl (some (0))))), some (.inl (a0)), some (.inl (a1)), some (.inl (a2)), some (.inl (a3)), some (.inl (a4))], [.inl ((-1 : Int32))], 0, 0, ix_mem 276 I1 J1 T1)) rfl trivial ?_
    exact ix_sp rfl ⟨Nat.le_refl _, Nat.le_refl _, trivial, hQ _ _ _ _ h3⟩
  · have h3 := h1.2 c2
    refine ix_go 3 (x' := (17, [some (.inr (.inr (.inl (some (0))))), some (.inl (a0)), some (.inl (a1)), some (.inl (a2)), some (.inl (a3)), some (.inl (a4))], [.inl (a0), .inr (.inr (.inl (some (44))))], 0, 0, ix_mem 276 I1 J1 T1)) rfl ⟨rfl, rfl⟩ ?_
    refine ix_sp rfl ⟨rfl, ⟨ix_lt rfl, ix_eq rfl, ix_lt rfl⟩, ix_le rfl, Nat.le_refl _, Nat.le_refl _, tp_X7_addToTape h3 (fun I4 J4 T4 h4 => ?_)⟩
    change ix_W _ _ _ (20, [some (.inr (.inr (.inl (some (0))))), some (.inl (a0)), some (.inl (a1)), some (.inl (a2)), some (.inl (a3)), some (.inl (a4))], [], 0, 0, ix_mem 276 I4 J4 T4)
    refine ix_go 3 (x' := (25, [some (.inr (.inr (.inl (some (0))))), some (.inl (a0)), some (.inl (a1)), some (.inl (a2)), some (.inl (a3)), some (.inl (a4))], [.inl (a1), .inr (.inr (.inl (some (44))))], 0, 0, ix_mem 276 I4 J4 T4)) rfl ⟨rfl, rfl⟩ ?_
    refine ix_sp rfl ⟨rfl, ⟨ix_lt rfl, ix_eq rfl, ix_lt rfl⟩, ix_le rfl, Nat.le_refl _, Nat.le_refl _, tp_X7_addToTape h4 (fun I5 J5 T5 h5 => ?_)⟩
    change ix_W _ _ _ (28, [some (.inr (.inr (.inl (some (0))))), some (.inl (a0)), some (.inl (a1)), some (.inl (a2)), some (.inl (a3)), some (.inl (a4))], [], 0, 0, ix_mem 276 I5 J5 T5)
    refine ix_go 3 (x' := (33, [some (.inr (.inr (.inl (some (0))))), some (.inl (a0)), some (.inl (a1)), some (.inl (a2)), some (.inl (a3)), some (.inl (a4))], [.inl (a2), .inr (.inr (.inl (some (44))))], 0, 0, ix_mem 276 I5 J5 T5)) rfl ⟨rfl, rfl⟩ ?_
    refine ix_sp rfl ⟨rfl, ⟨ix_lt rfl, ix_eq rfl, ix_lt rfl⟩, ix_le rfl, Nat.le_refl _, Nat.le_refl _, tp_X7_addToTape h5 (fun I6 J6 T6 h6 => ?_)⟩
    change ix_W _ _ _ (36, [some (.inr (.inr (.inl (some (0))))), some (.inl (a0)), some (.inl (a1)), some (.inl (a2)), some (.inl (a3)), some (.inl (a4))], [], 0, 0, ix_mem 276 I6 J6 T6)
    refine ix_go 3 (x' := (42, [some (.inr (.inr (.inl (some (0))))), some (.inl (a0)), some (.inl (a1)), some (.inl (a2)), some (.inl (a3)), some (.inl (a4))], [.inl (a3), .inr (.inr (.inl (some (44))))], 0, 0, ix_mem 276 I6 J6 T6)) rfl ⟨rfl, rfl⟩ ?_
    refine ix_sp rfl ⟨rfl, ⟨ix_lt rfl, ix_eq rfl, ix_lt rfl⟩, ix_le rfl, Nat.le_refl _, Nat.le_refl _, tp_X7_addToTape h6 (fun I7 J7 T7 h7 => ?_)⟩
    change ix_W _ _ _ (45, [some (.inr (.inr (.inl (some (0))))), some (.inl (a0)), some (.inl (a1)), some (.inl (a2)), some (.inl (a3)), some (.inl (a4))], [], 0, 0, ix_mem 276 I7 J7 T7)
    refine ix_go 3 (x' := (51, [some (.inr (.inr (.inl (some (0))))), some (.inl (a0)), some (.inl (a1)), some (.inl (a2)), some (.inl (a3)), some (.inl (a4))], [.inl (a4), .inr (.inr (.inl (some (44))))], 0, 0, ix_mem 276 I7 J7 T7)) rfl ⟨rfl, rfl⟩ ?_
    refine ix_sp rfl ⟨rfl, ⟨ix_lt rfl, ix_eq rfl, ix_lt rfl⟩, ix_le rfl, Nat.le_refl _, Nat.le_refl _, tp_X7_addToTape h7 (fun I8 J8 T8 h8 => ?_)⟩
    change ix_W _ _ _ (54, [some (.inr (.inr (.inl (some (0))))), some (.inl (a0)), some (.inl (a1)), some (.inl (a2)), some (.inl (a3)), some (.inl (a4))], [], 0, 0, ix_mem 276 I8 J8 T8)
    refine ix_go 2 (x' := (58, [some (.inr (.inr (.inl (some (0))))), some (.inl (a0)), some (.inl (a1)), some (.inl (a2)), some (.inl (a3)), some (.inl (a4))], [.inr (.inr (.inl (some (44))))], 0, 0, ix_mem 276 I8 J8 T8)) rfl ⟨rfl, rfl⟩ ?_
    refine ix_sp rfl ⟨rfl, ⟨ix_lt rfl, ix_eq rfl, ix_lt rfl⟩, ix_le rfl, Nat.le_refl _, Nat.le_refl _, tp_X7_tapeLength h8 (fun v9 I9 J9 T9 h9 => ?_)⟩
    change ix_W _ _ _ (61, [some (.inr (.inr (.inl (some (0))))), some (.inl (a0)), some (.inl (a1)), some (.inl (a2)), some (.inl (a3)), some (.inl (a4))], [.inl (v9)], 0, 0, ix_mem 276 I9 J9 T9)
    exact ix_sp rfl ⟨Nat.le_refl _, Nat.le_refl _, trivial, hQ _ _ _ _ h9⟩
def wb_X7_understands_r59_59 (x3 : Int32) (I : Nat → Nat → Int32) (J : Nat → Nat → Int64) (T : Option Nat) (V59 : Int32 → (Nat → Nat → Int32) → (Nat → Nat → Int64) → Option Nat → Prop) (P : Int32 → (Nat → Nat → Int32) → (Nat → Nat → Int64) → Option Nat → Prop) : Prop := ((x3 ≤ (12 : Int32) → ((I 44 10 = 0 → ((I 44 9 = (21 : Int32) → ((I 44 10 = 0 → P ((1 : Int32)) I J T) ∧ (¬ (I 44 10 = 0) → P ((0 : Int32)) I J T))) ∧ (¬ (I 44 9 = (21 : Int32)) → wp_X7_takeClause I J T (fun I12 J12 T12 => V59 (x3 + (1 : Int32)) I12 J12 T12)))) ∧ (¬ (I 44 10 = 0) → ((I 44 10 = 0 → P ((1 : Int32)) I J T) ∧ (¬ (I 44 10 = 0) → P ((0 : Int32)) I J T))))) ∧ (¬ (x3 ≤ (12 : Int32)) → ((I 44 10 = 0 → P ((1 : Int32)) I J T) ∧ (¬ (I 44 10 = 0) → P ((0 : Int32)) I J T))))
def wl_X7_understands_r59_59 (x3 : Int32) (I : Nat → Nat → Int32) (J : Nat → Nat → Int64) (T : Option Nat) (P : Int32 → (Nat → Nat → Int32) → (Nat → Nat → Int64) → Option Nat → Prop) : Prop := ∀ V : Int32 → (Nat → Nat → Int32) → (Nat → Nat → Int64) → Option Nat → Prop, (∀ (x3 : Int32) (I : Nat → Nat → Int32) (J : Nat → Nat → Int64) (T : Option Nat), wb_X7_understands_r59_59 x3 I J T V P → V x3 I J T) → V x3 I J T
set_option maxRecDepth 20000 in
theorem tl_X7_understands_r59_59 {d : Nat} {x3 : Int32} {I : Nat → Nat → Int32} {J : Nat → Nat → Int64} {T : Option Nat} {P : Int32 → (Nat → Nat → Int32) → (Nat → Nat → Int64) → Option Nat → Prop} {Q : ix_Q} (h : wl_X7_understands_r59_59 x3 I J T P) (hQ : ∀ v I J T, P v I J T → Q (some (.inl v)) (ix_mem 276 I J T)) : ix_W (ix_C (d + 6)) (7, ix_lk ix_l128, (some .boolean), 0, 0, Nat.blt 0 0, none) Q (59, [some (.inr (.inr (.inl (some (44))))), none, none, some (.inl (x3))], [], 0, 0, ix_mem 276 I J T) := by
  refine h (fun x3 I J T => ix_W (ix_C (d + 6)) (7, ix_lk ix_l128, (some .boolean), 0, 0, Nat.blt 0 0, none) Q (59, [some (.inr (.inr (.inl (some (44))))), none, none, some (.inl (x3))], [], 0, 0, ix_mem 276 I J T)) ?_
  intro x3 I J T hb
  unfold wb_X7_understands_r59_59 at hb
  refine ix_go 3 (x' := (if x3 ≤ (12 : Int32) then 65 else 91, [some (.inr (.inr (.inl (some (44))))), none, none, some (.inl (x3))], [], 0, 0, ix_mem 276 I J T)) rfl trivial ?_
  refine ix_br (fun c4 => ?_) (fun c4 => ?_)
  · have h5 := hb.1 c4
    refine ix_go 3 (x' := (if I 44 10 = 0 then 72 else 91, [some (.inr (.inr (.inl (some (44))))), none, none, some (.inl (x3))], [], 0, 0, ix_mem 276 I J T)) rfl ⟨rfl, rfl⟩ ?_
    refine ix_br (fun c6 => ?_) (fun c6 => ?_)
    · have h7 := h5.1 c6
      refine ix_go 4 (x' := (if I 44 9 = (21 : Int32) then 91 else 81, [some (.inr (.inr (.inl (some (44))))), none, none, some (.inl (x3))], [], 0, 0, ix_mem 276 I J T)) rfl ⟨rfl, rfl⟩ ?_
      refine ix_br (fun c8 => ?_) (fun c8 => ?_)
      · have h9 := h7.1 c8
        refine ix_go 3 (x' := (if I 44 10 = 0 then 98 else 102, [some (.inr (.inr (.inl (some (44))))), none, none, some (.inl (x3))], [], 0, 0, ix_mem 276 I J T)) rfl ⟨rfl, rfl⟩ ?_
        refine ix_br (fun c10 => ?_) (fun c10 => ?_)
        · have h11 := h9.1 c10
          refine ix_go 2 (x' := (103, [some (.inr (.inr (.inl (some (44))))), none, none, some (.inl (x3))], [.inl ((1 : Int32))], 0, 0, ix_mem 276 I J T)) rfl trivial ?_
          exact ix_sp rfl ⟨Nat.le_refl _, Nat.le_refl _, ix_01_ok rfl, hQ _ _ _ _ h11⟩
        · have h11 := h9.2 c10
          refine ix_go 1 (x' := (103, [some (.inr (.inr (.inl (some (44))))), none, none, some (.inl (x3))], [.inl ((0 : Int32))], 0, 0, ix_mem 276 I J T)) rfl trivial ?_
          exact ix_sp rfl ⟨Nat.le_refl _, Nat.le_refl _, ix_01_ok rfl, hQ _ _ _ _ h11⟩
      · have h9 := h7.2 c8
        refine ix_go 1 (x' := (82, [some (.inr (.inr (.inl (some (44))))), none, none, some (.inl (x3))], [.inr (.inr (.inl (some (44))))], 0, 0, ix_mem 276 I J T)) rfl trivial ?_
        refine ix_sp rfl ⟨rfl, ⟨ix_lt rfl, ix_eq rfl, ix_lt rfl⟩, ix_le rfl, Nat.le_refl _, Nat.le_refl _, tp_X7_takeClause h9 (fun I12 J12 T12 h12 => ?_)⟩
        change ix_W _ _ _ (85, [some (.inr (.inr (.inl (some (44))))), none, none, some (.inl (x3))], [], 0, 0, ix_mem 276 I12 J12 T12)
        refine ix_go 2 (x' := (59, [some (.inr (.inr (.inl (some (44))))), none, none, some (.inl (x3 + (1 : Int32)))], [], 0, 0, ix_mem 276 I12 J12 T12)) rfl trivial ?_
        refine ix_subW ([some (.inr (.inr (.inl (some (44))))), none, none, some (.inl (x3 + (1 : Int32)))]) (ix_subS (ix_subS (ix_subS (ix_subS (ix_sub0))))) ?_
        exact h12
    · have h7 := h5.2 c6
      refine ix_go 3 (x' := (if I 44 10 = 0 then 98 else 102, [some (.inr (.inr (.inl (some (44))))), none, none, some (.inl (x3))], [], 0, 0, ix_mem 276 I J T)) rfl ⟨rfl, rfl⟩ ?_
      refine ix_br (fun c13 => ?_) (fun c13 => ?_)
      · have h14 := h7.1 c13
        refine ix_go 2 (x' := (103, [some (.inr (.inr (.inl (some (44))))), none, none, some (.inl (x3))], [.inl ((1 : Int32))], 0, 0, ix_mem 276 I J T)) rfl trivial ?_
        exact ix_sp rfl ⟨Nat.le_refl _, Nat.le_refl _, ix_01_ok rfl, hQ _ _ _ _ h14⟩
      · have h14 := h7.2 c13
        refine ix_go 1 (x' := (103, [some (.inr (.inr (.inl (some (44))))), none, none, some (.inl (x3))], [.inl ((0 : Int32))], 0, 0, ix_mem 276 I J T)) rfl trivial ?_
        exact ix_sp rfl ⟨Nat.le_refl _, Nat.le_refl _, ix_01_ok rfl, hQ _ _ _ _ h14⟩
  · have h5 := hb.2 c4
    refine ix_go 3 (x' := (if I 44 10 = 0 then 98 else 102, [some (.inr (.inr (.inl (some (44))))), none, none, some (.inl (x3))], [], 0, 0, ix_mem 276 I J T)) rfl ⟨rfl, rfl⟩ ?_
    refine ix_br (fun c15 => ?_) (fun c15 => ?_)
    · have h16 := h5.1 c15
      refine ix_go 2 (x' := (103, [some (.inr (.inr (.inl (some (44))))), none, none, some (.inl (x3))], [.inl ((1 : Int32))], 0, 0, ix_mem 276 I J T)) rfl trivial ?_
      exact ix_sp rfl ⟨Nat.le_refl _, Nat.le_refl _, ix_01_ok rfl, hQ _ _ _ _ h16⟩
    · have h16 := h5.2 c15
      refine ix_go 1 (x' := (103, [some (.inr (.inr (.inl (some (44))))), none, none, some (.inl (x3))], [.inl ((0 : Int32))], 0, 0, ix_mem 276 I J T)) rfl trivial ?_
      exact ix_sp rfl ⟨Nat.le_refl _, Nat.le_refl _, ix_01_ok rfl, hQ _ _ _ _ h16⟩
def wp_X7_understands_r59 (a0 : Int32) (I : Nat → Nat → Int32) (J : Nat → Nat → Int64) (T : Option Nat) (P : Int32 → (Nat → Nat → Int32) → (Nat → Nat → Int64) → Option Nat → Prop) : Prop := wp_J9_min_7cf53 (a0) ((600 : Int32)) I J T (fun v1 I1 J1 T1 => wp_X9_clear_59 (ix_u2 (ix_u2 I1 44 2 (v1)) 44 1 ((0 : Int32))) J1 (some 59) (fun I2 J2 T2 => wp_X7_tellTokens (ix_u2 (ix_u2 I2 44 10 ((0 : Int32))) 44 11 ((-1 : Int32))) J2 T2 (fun I3 J3 T3 => wl_X7_understands_r59_59 ((0 : Int32)) (ix_u2 (ix_u2 I3 44 8 ((0 : Int32))) 44 9 (I3 46 ((0 : Int32)).toNatClampNeg)) J3 T3 P)))
set_option maxRecDepth 20000 in
theorem tp_X7_understands_r59 {d : Nat} {a0 : Int32} {I : Nat → Nat → Int32} {J : Nat → Nat → Int64} {T : Option Nat} {P : Int32 → (Nat → Nat → Int32) → (Nat → Nat → Int64) → Option Nat → Prop} {Q : ix_Q} (h : wp_X7_understands_r59 a0 I J T P) (hQ : ∀ v I J T, P v I J T → Q (some (.inl v)) (ix_mem 276 I J T)) : ix_C (d + 7) 128 [.inr (.inr (.inl (some (44)))), .inl (a0), .inr (.inr (.inl (some (59))))] (ix_mem 276 I J T) Q := by
  unfold wp_X7_understands_r59 at h
  refine ix_enter (ls := [some (.inr (.inr (.inl (some (44))))), some (.inl (a0)), some (.inr (.inr (.inl (some (59))))), none]) rfl rfl rfl (Nat.le_of_ble_eq_true rfl) ?_
  refine ix_go 3 (x' := (5, [some (.inr (.inr (.inl (some (44))))), some (.inl (a0)), some (.inr (.inr (.inl (some (59))))), none], [.inl ((600 : Int32)), .inl (a0), .inr (.inr (.inl (some (44))))], 0, 0, ix_mem 276 I J T)) rfl trivial ?_
  refine ix_sp rfl ⟨rfl, trivial, ix_le rfl, Nat.le_refl _, Nat.le_refl _, tp_J9_min_7cf53 h (fun v1 I1 J1 T1 h1 => ?_)⟩
  change ix_W _ _ _ (8, [some (.inr (.inr (.inl (some (44))))), some (.inl (a0)), some (.inr (.inr (.inl (some (59))))), none], [.inl (v1), .inr (.inr (.inl (some (44))))], 0, 0, ix_mem 276 I1 J1 T1)
  refine ix_go 7 (x' := (21, [some (.inr (.inr (.inl (some (44))))), some (.inl (a0)), some (.inr (.inr (.inl (some (59))))), none], [], 0, 0, (276, ix_TG, ix_LN, (ix_u2 (ix_u2 I1 44 2 (v1)) 44 1 ((0 : Int32))), J1, ix_u2 (ix_RT T1) 44 12 (some 59)))) rfl ⟨rfl, rfl, rfl, rfl, rfl, rfl⟩ ?_
  rw [ix_RT_put]
  change ix_W _ _ _ (21, [some (.inr (.inr (.inl (some (44))))), some (.inl (a0)), some (.inr (.inr (.inl (some (59))))), none], [], 0, 0, ix_mem 276 (ix_u2 (ix_u2 I1 44 2 (v1)) 44 1 ((0 : Int32))) J1 (some 59))
  refine ix_go 2 (x' := (25, [some (.inr (.inr (.inl (some (44))))), some (.inl (a0)), some (.inr (.inr (.inl (some (59))))), none], [.inr (.inr (.inl (some (59))))], 0, 0, ix_mem 276 (ix_u2 (ix_u2 I1 44 2 (v1)) 44 1 ((0 : Int32))) J1 (some 59))) rfl ⟨rfl, rfl⟩ ?_
  refine ix_sp rfl ⟨rfl, ⟨ix_lt rfl, ix_eq rfl, ix_lt rfl⟩, ix_le rfl, Nat.le_refl _, Nat.le_refl _, tp_X9_clear_59 h1 (fun I2 J2 T2 h2 => ?_)⟩
  change ix_W _ _ _ (28, [some (.inr (.inr (.inl (some (44))))), some (.inl (a0)), some (.inr (.inr (.inl (some (59))))), none], [], 0, 0, ix_mem 276 I2 J2 T2)
  refine ix_go 7 (x' := (39, [some (.inr (.inr (.inl (some (44))))), some (.inl (a0)), some (.inr (.inr (.inl (some (59))))), none], [.inr (.inr (.inl (some (44))))], 0, 0, ix_mem 276 (ix_u2 (ix_u2 I2 44 10 ((0 : Int32))) 44 11 ((-1 : Int32))) J2 T2)) rfl ⟨rfl, rfl, rfl, rfl⟩ ?_
  refine ix_sp rfl ⟨rfl, ⟨ix_lt rfl, ix_eq rfl, ix_lt rfl⟩, ix_le rfl, Nat.le_refl _, Nat.le_refl _, tp_X7_tellTokens h2 (fun I3 J3 T3 h3 => ?_)⟩
  change ix_W _ _ _ (42, [some (.inr (.inr (.inl (some (44))))), some (.inl (a0)), some (.inr (.inr (.inl (some (59))))), none], [], 0, 0, ix_mem 276 I3 J3 T3)
  refine ix_go 7 (x' := (53, [some (.inr (.inr (.inl (some (44))))), some (.inl (a0)), some (.inr (.inr (.inl (some (59))))), none], [.inl ((0 : Int32)), .inr (.inr (.inl (some (46)))), .inr (.inr (.inl (some (44))))], 0, 0, ix_mem 276 (ix_u2 I3 44 8 ((0 : Int32))) J3 T3)) rfl ⟨rfl, rfl, rfl, rfl⟩ ?_
  refine ix_go 4 (x' := (59, [some (.inr (.inr (.inl (some (44))))), some (.inl (a0)), some (.inr (.inr (.inl (some (59))))), some (.inl ((0 : Int32)))], [], 0, 0, ix_mem 276 (ix_u2 (ix_u2 I3 44 8 ((0 : Int32))) 44 9 (I3 46 ((0 : Int32)).toNatClampNeg)) J3 T3)) rfl ⟨rfl, rfl, rfl, rfl, rfl⟩ ?_
  refine ix_subW ([some (.inr (.inr (.inl (some (44))))), none, none, some (.inl ((0 : Int32)))]) (ix_subS (ix_subN (ix_subN (ix_subS (ix_sub0))))) ?_
  exact tl_X7_understands_r59_59 h3 hQ
def wb_X7_understands_r68_59 (x3 : Int32) (I : Nat → Nat → Int32) (J : Nat → Nat → Int64) (T : Option Nat) (V59 : Int32 → (Nat → Nat → Int32) → (Nat → Nat → Int64) → Option Nat → Prop) (P : Int32 → (Nat → Nat → Int32) → (Nat → Nat → Int64) → Option Nat → Prop) : Prop := ((x3 ≤ (12 : Int32) → ((I 44 10 = 0 → ((I 44 9 = (21 : Int32) → ((I 44 10 = 0 → P ((1 : Int32)) I J T) ∧ (¬ (I 44 10 = 0) → P ((0 : Int32)) I J T))) ∧ (¬ (I 44 9 = (21 : Int32)) → wp_X7_takeClause I J T (fun I12 J12 T12 => V59 (x3 + (1 : Int32)) I12 J12 T12)))) ∧ (¬ (I 44 10 = 0) → ((I 44 10 = 0 → P ((1 : Int32)) I J T) ∧ (¬ (I 44 10 = 0) → P ((0 : Int32)) I J T))))) ∧ (¬ (x3 ≤ (12 : Int32)) → ((I 44 10 = 0 → P ((1 : Int32)) I J T) ∧ (¬ (I 44 10 = 0) → P ((0 : Int32)) I J T))))
def wl_X7_understands_r68_59 (x3 : Int32) (I : Nat → Nat → Int32) (J : Nat → Nat → Int64) (T : Option Nat) (P : Int32 → (Nat → Nat → Int32) → (Nat → Nat → Int64) → Option Nat → Prop) : Prop := ∀ V : Int32 → (Nat → Nat → Int32) → (Nat → Nat → Int64) → Option Nat → Prop, (∀ (x3 : Int32) (I : Nat → Nat → Int32) (J : Nat → Nat → Int64) (T : Option Nat), wb_X7_understands_r68_59 x3 I J T V P → V x3 I J T) → V x3 I J T
set_option maxRecDepth 20000 in
theorem tl_X7_understands_r68_59 {d : Nat} {x3 : Int32} {I : Nat → Nat → Int32} {J : Nat → Nat → Int64} {T : Option Nat} {P : Int32 → (Nat → Nat → Int32) → (Nat → Nat → Int64) → Option Nat → Prop} {Q : ix_Q} (h : wl_X7_understands_r68_59 x3 I J T P) (hQ : ∀ v I J T, P v I J T → Q (some (.inl v)) (ix_mem 276 I J T)) : ix_W (ix_C (d + 6)) (7, ix_lk ix_l128, (some .boolean), 0, 0, Nat.blt 0 0, none) Q (59, [some (.inr (.inr (.inl (some (44))))), none, none, some (.inl (x3))], [], 0, 0, ix_mem 276 I J T) := by
  refine h (fun x3 I J T => ix_W (ix_C (d + 6)) (7, ix_lk ix_l128, (some .boolean), 0, 0, Nat.blt 0 0, none) Q (59, [some (.inr (.inr (.inl (some (44))))), none, none, some (.inl (x3))], [], 0, 0, ix_mem 276 I J T)) ?_
  intro x3 I J T hb
  unfold wb_X7_understands_r68_59 at hb
  refine ix_go 3 (x' := (if x3 ≤ (12 : Int32) then 65 else 91, [some (.inr (.inr (.inl (some (44))))), none, none, some (.inl (x3))], [], 0, 0, ix_mem 276 I J T)) rfl trivial ?_
  refine ix_br (fun c4 => ?_) (fun c4 => ?_)
  · have h5 := hb.1 c4
    refine ix_go 3 (x' := (if I 44 10 = 0 then 72 else 91, [some (.inr (.inr (.inl (some (44))))), none, none, some (.inl (x3))], [], 0, 0, ix_mem 276 I J T)) rfl ⟨rfl, rfl⟩ ?_
    refine ix_br (fun c6 => ?_) (fun c6 => ?_)
    · have h7 := h5.1 c6
      refine ix_go 4 (x' := (if I 44 9 = (21 : Int32) then 91 else 81, [some (.inr (.inr (.inl (some (44))))), none, none, some (.inl (x3))], [], 0, 0, ix_mem 276 I J T)) rfl ⟨rfl, rfl⟩ ?_
      refine ix_br (fun c8 => ?_) (fun c8 => ?_)
      · have h9 := h7.1 c8
        refine ix_go 3 (x' := (if I 44 10 = 0 then 98 else 102, [some (.inr (.inr (.inl (some (44))))), none, none, some (.inl (x3))], [], 0, 0, ix_mem 276 I J T)) rfl ⟨rfl, rfl⟩ ?_
        refine ix_br (fun c10 => ?_) (fun c10 => ?_)
        · have h11 := h9.1 c10
          refine ix_go 2 (x' := (103, [some (.inr (.inr (.inl (some (44))))), none, none, some (.inl (x3))], [.inl ((1 : Int32))], 0, 0, ix_mem 276 I J T)) rfl trivial ?_
          exact ix_sp rfl ⟨Nat.le_refl _, Nat.le_refl _, ix_01_ok rfl, hQ _ _ _ _ h11⟩
        · have h11 := h9.2 c10
          refine ix_go 1 (x' := (103, [some (.inr (.inr (.inl (some (44))))), none, none, some (.inl (x3))], [.inl ((0 : Int32))], 0, 0, ix_mem 276 I J T)) rfl trivial ?_
          exact ix_sp rfl ⟨Nat.le_refl _, Nat.le_refl _, ix_01_ok rfl, hQ _ _ _ _ h11⟩
      · have h9 := h7.2 c8
        refine ix_go 1 (x' := (82, [some (.inr (.inr (.inl (some (44))))), none, none, some (.inl (x3))], [.inr (.inr (.inl (some (44))))], 0, 0, ix_mem 276 I J T)) rfl trivial ?_
        refine ix_sp rfl ⟨rfl, ⟨ix_lt rfl, ix_eq rfl, ix_lt rfl⟩, ix_le rfl, Nat.le_refl _, Nat.le_refl _, tp_X7_takeClause h9 (fun I12 J12 T12 h12 => ?_)⟩
        change ix_W _ _ _ (85, [some (.inr (.inr (.inl (some (44))))), none, none, some (.inl (x3))], [], 0, 0, ix_mem 276 I12 J12 T12)
        refine ix_go 2 (x' := (59, [some (.inr (.inr (.inl (some (44))))), none, none, some (.inl (x3 + (1 : Int32)))], [], 0, 0, ix_mem 276 I12 J12 T12)) rfl trivial ?_
        refine ix_subW ([some (.inr (.inr (.inl (some (44))))), none, none, some (.inl (x3 + (1 : Int32)))]) (ix_subS (ix_subS (ix_subS (ix_subS (ix_sub0))))) ?_
        exact h12
    · have h7 := h5.2 c6
      refine ix_go 3 (x' := (if I 44 10 = 0 then 98 else 102, [some (.inr (.inr (.inl (some (44))))), none, none, some (.inl (x3))], [], 0, 0, ix_mem 276 I J T)) rfl ⟨rfl, rfl⟩ ?_
      refine ix_br (fun c13 => ?_) (fun c13 => ?_)
      · have h14 := h7.1 c13
        refine ix_go 2 (x' := (103, [some (.inr (.inr (.inl (some (44))))), none, none, some (.inl (x3))], [.inl ((1 : Int32))], 0, 0, ix_mem 276 I J T)) rfl trivial ?_
        exact ix_sp rfl ⟨Nat.le_refl _, Nat.le_refl _, ix_01_ok rfl, hQ _ _ _ _ h14⟩
      · have h14 := h7.2 c13
        refine ix_go 1 (x' := (103, [some (.inr (.inr (.inl (some (44))))), none, none, some (.inl (x3))], [.inl ((0 : Int32))], 0, 0, ix_mem 276 I J T)) rfl trivial ?_
        exact ix_sp rfl ⟨Nat.le_refl _, Nat.le_refl _, ix_01_ok rfl, hQ _ _ _ _ h14⟩
  · have h5 := hb.2 c4
    refine ix_go 3 (x' := (if I 44 10 = 0 then 98 else 102, [some (.inr (.inr (.inl (some (44))))), none, none, some (.inl (x3))], [], 0, 0, ix_mem 276 I J T)) rfl ⟨rfl, rfl⟩ ?_
    refine ix_br (fun c15 => ?_) (fun c15 => ?_)
    · have h16 := h5.1 c15
      refine ix_go 2 (x' := (103, [some (.inr (.inr (.inl (some (44))))), none, none, some (.inl (x3))], [.inl ((1 : Int32))], 0, 0, ix_mem 276 I J T)) rfl trivial ?_
      exact ix_sp rfl ⟨Nat.le_refl _, Nat.le_refl _, ix_01_ok rfl, hQ _ _ _ _ h16⟩
    · have h16 := h5.2 c15
      refine ix_go 1 (x' := (103, [some (.inr (.inr (.inl (some (44))))), none, none, some (.inl (x3))], [.inl ((0 : Int32))], 0, 0, ix_mem 276 I J T)) rfl trivial ?_
      exact ix_sp rfl ⟨Nat.le_refl _, Nat.le_refl _, ix_01_ok rfl, hQ _ _ _ _ h16⟩
def wp_X7_understands_r68 (a0 : Int32) (I : Nat → Nat → Int32) (J : Nat → Nat → Int64) (T : Option Nat) (P : Int32 → (Nat → Nat → Int32) → (Nat → Nat → Int64) → Option Nat → Prop) : Prop := wp_J9_min_7cf53 (a0) ((600 : Int32)) I J T (fun v1 I1 J1 T1 => wp_X9_clear_68 (ix_u2 (ix_u2 I1 44 2 (v1)) 44 1 ((0 : Int32))) J1 (some 68) (fun I2 J2 T2 => wp_X7_tellTokens (ix_u2 (ix_u2 I2 44 10 ((0 : Int32))) 44 11 ((-1 : Int32))) J2 T2 (fun I3 J3 T3 => wl_X7_understands_r68_59 ((0 : Int32)) (ix_u2 (ix_u2 I3 44 8 ((0 : Int32))) 44 9 (I3 46 ((0 : Int32)).toNatClampNeg)) J3 T3 P)))
set_option maxRecDepth 20000 in
theorem tp_X7_understands_r68 {d : Nat} {a0 : Int32} {I : Nat → Nat → Int32} {J : Nat → Nat → Int64} {T : Option Nat} {P : Int32 → (Nat → Nat → Int32) → (Nat → Nat → Int64) → Option Nat → Prop} {Q : ix_Q} (h : wp_X7_understands_r68 a0 I J T P) (hQ : ∀ v I J T, P v I J T → Q (some (.inl v)) (ix_mem 276 I J T)) : ix_C (d + 7) 128 [.inr (.inr (.inl (some (44)))), .inl (a0), .inr (.inr (.inl (some (68))))] (ix_mem 276 I J T) Q := by
  unfold wp_X7_understands_r68 at h
  refine ix_enter (ls := [some (.inr (.inr (.inl (some (44))))), some (.inl (a0)), some (.inr (.inr (.inl (some (68))))), none]) rfl rfl rfl (Nat.le_of_ble_eq_true rfl) ?_
  refine ix_go 3 (x' := (5, [some (.inr (.inr (.inl (some (44))))), some (.inl (a0)), some (.inr (.inr (.inl (some (68))))), none], [.inl ((600 : Int32)), .inl (a0), .inr (.inr (.inl (some (44))))], 0, 0, ix_mem 276 I J T)) rfl trivial ?_
  refine ix_sp rfl ⟨rfl, trivial, ix_le rfl, Nat.le_refl _, Nat.le_refl _, tp_J9_min_7cf53 h (fun v1 I1 J1 T1 h1 => ?_)⟩
  change ix_W _ _ _ (8, [some (.inr (.inr (.inl (some (44))))), some (.inl (a0)), some (.inr (.inr (.inl (some (68))))), none], [.inl (v1), .inr (.inr (.inl (some (44))))], 0, 0, ix_mem 276 I1 J1 T1)
  refine ix_go 7 (x' := (21, [some (.inr (.inr (.inl (some (44))))), some (.inl (a0)), some (.inr (.inr (.inl (some (68))))), none], [], 0, 0, (276, ix_TG, ix_LN, (ix_u2 (ix_u2 I1 44 2 (v1)) 44 1 ((0 : Int32))), J1, ix_u2 (ix_RT T1) 44 12 (some 68)))) rfl ⟨rfl, rfl, rfl, rfl, rfl, rfl⟩ ?_
  rw [ix_RT_put]
  change ix_W _ _ _ (21, [some (.inr (.inr (.inl (some (44))))), some (.inl (a0)), some (.inr (.inr (.inl (some (68))))), none], [], 0, 0, ix_mem 276 (ix_u2 (ix_u2 I1 44 2 (v1)) 44 1 ((0 : Int32))) J1 (some 68))
  refine ix_go 2 (x' := (25, [some (.inr (.inr (.inl (some (44))))), some (.inl (a0)), some (.inr (.inr (.inl (some (68))))), none], [.inr (.inr (.inl (some (68))))], 0, 0, ix_mem 276 (ix_u2 (ix_u2 I1 44 2 (v1)) 44 1 ((0 : Int32))) J1 (some 68))) rfl ⟨rfl, rfl⟩ ?_
  refine ix_sp rfl ⟨rfl, ⟨ix_lt rfl, ix_eq rfl, ix_lt rfl⟩, ix_le rfl, Nat.le_refl _, Nat.le_refl _, tp_X9_clear_68 h1 (fun I2 J2 T2 h2 => ?_)⟩
  change ix_W _ _ _ (28, [some (.inr (.inr (.inl (some (44))))), some (.inl (a0)), some (.inr (.inr (.inl (some (68))))), none], [], 0, 0, ix_mem 276 I2 J2 T2)
  refine ix_go 7 (x' := (39, [some (.inr (.inr (.inl (some (44))))), some (.inl (a0)), some (.inr (.inr (.inl (some (68))))), none], [.inr (.inr (.inl (some (44))))], 0, 0, ix_mem 276 (ix_u2 (ix_u2 I2 44 10 ((0 : Int32))) 44 11 ((-1 : Int32))) J2 T2)) rfl ⟨rfl, rfl, rfl, rfl⟩ ?_
  refine ix_sp rfl ⟨rfl, ⟨ix_lt rfl, ix_eq rfl, ix_lt rfl⟩, ix_le rfl, Nat.le_refl _, Nat.le_refl _, tp_X7_tellTokens h2 (fun I3 J3 T3 h3 => ?_)⟩
  change ix_W _ _ _ (42, [some (.inr (.inr (.inl (some (44))))), some (.inl (a0)), some (.inr (.inr (.inl (some (68))))), none], [], 0, 0, ix_mem 276 I3 J3 T3)
  refine ix_go 7 (x' := (53, [some (.inr (.inr (.inl (some (44))))), some (.inl (a0)), some (.inr (.inr (.inl (some (68))))), none], [.inl ((0 : Int32)), .inr (.inr (.inl (some (46)))), .inr (.inr (.inl (some (44))))], 0, 0, ix_mem 276 (ix_u2 I3 44 8 ((0 : Int32))) J3 T3)) rfl ⟨rfl, rfl, rfl, rfl⟩ ?_
  refine ix_go 4 (x' := (59, [some (.inr (.inr (.inl (some (44))))), some (.inl (a0)), some (.inr (.inr (.inl (some (68))))), some (.inl ((0 : Int32)))], [], 0, 0, ix_mem 276 (ix_u2 (ix_u2 I3 44 8 ((0 : Int32))) 44 9 (I3 46 ((0 : Int32)).toNatClampNeg)) J3 T3)) rfl ⟨rfl, rfl, rfl, rfl, rfl⟩ ?_
  refine ix_subW ([some (.inr (.inr (.inl (some (44))))), none, none, some (.inl ((0 : Int32)))]) (ix_subS (ix_subN (ix_subN (ix_subS (ix_sub0))))) ?_
  exact tl_X7_understands_r68_59 h3 hQ
def wb_X7_understands_r77_59 (x3 : Int32) (I : Nat → Nat → Int32) (J : Nat → Nat → Int64) (T : Option Nat) (V59 : Int32 → (Nat → Nat → Int32) → (Nat → Nat → Int64) → Option Nat → Prop) (P : Int32 → (Nat → Nat → Int32) → (Nat → Nat → Int64) → Option Nat → Prop) : Prop := ((x3 ≤ (12 : Int32) → ((I 44 10 = 0 → ((I 44 9 = (21 : Int32) → ((I 44 10 = 0 → P ((1 : Int32)) I J T) ∧ (¬ (I 44 10 = 0) → P ((0 : Int32)) I J T))) ∧ (¬ (I 44 9 = (21 : Int32)) → wp_X7_takeClause I J T (fun I12 J12 T12 => V59 (x3 + (1 : Int32)) I12 J12 T12)))) ∧ (¬ (I 44 10 = 0) → ((I 44 10 = 0 → P ((1 : Int32)) I J T) ∧ (¬ (I 44 10 = 0) → P ((0 : Int32)) I J T))))) ∧ (¬ (x3 ≤ (12 : Int32)) → ((I 44 10 = 0 → P ((1 : Int32)) I J T) ∧ (¬ (I 44 10 = 0) → P ((0 : Int32)) I J T))))
def wl_X7_understands_r77_59 (x3 : Int32) (I : Nat → Nat → Int32) (J : Nat → Nat → Int64) (T : Option Nat) (P : Int32 → (Nat → Nat → Int32) → (Nat → Nat → Int64) → Option Nat → Prop) : Prop := ∀ V : Int32 → (Nat → Nat → Int32) → (Nat → Nat → Int64) → Option Nat → Prop, (∀ (x3 : Int32) (I : Nat → Nat → Int32) (J : Nat → Nat → Int64) (T : Option Nat), wb_X7_understands_r77_59 x3 I J T V P → V x3 I J T) → V x3 I J T
set_option maxRecDepth 20000 in
theorem tl_X7_understands_r77_59 {d : Nat} {x3 : Int32} {I : Nat → Nat → Int32} {J : Nat → Nat → Int64} {T : Option Nat} {P : Int32 → (Nat → Nat → Int32) → (Nat → Nat → Int64) → Option Nat → Prop} {Q : ix_Q} (h : wl_X7_understands_r77_59 x3 I J T P) (hQ : ∀ v I J T, P v I J T → Q (some (.inl v)) (ix_mem 276 I J T)) : ix_W (ix_C (d + 6)) (7, ix_lk ix_l128, (some .boolean), 0, 0, Nat.blt 0 0, none) Q (59, [some (.inr (.inr (.inl (some (44))))), none, none, some (.inl (x3))], [], 0, 0, ix_mem 276 I J T) := by
  refine h (fun x3 I J T => ix_W (ix_C (d + 6)) (7, ix_lk ix_l128, (some .boolean), 0, 0, Nat.blt 0 0, none) Q (59, [some (.inr (.inr (.inl (some (44))))), none, none, some (.inl (x3))], [], 0, 0, ix_mem 276 I J T)) ?_
  intro x3 I J T hb
  unfold wb_X7_understands_r77_59 at hb
  refine ix_go 3 (x' := (if x3 ≤ (12 : Int32) then 65 else 91, [some (.inr (.inr (.inl (some (44))))), none, none, some (.inl (x3))], [], 0, 0, ix_mem 276 I J T)) rfl trivial ?_
  refine ix_br (fun c4 => ?_) (fun c4 => ?_)
  · have h5 := hb.1 c4
    refine ix_go 3 (x' := (if I 44 10 = 0 then 72 else 91, [some (.inr (.inr (.inl (some (44))))), none, none, some (.inl (x3))], [], 0, 0, ix_mem 276 I J T)) rfl ⟨rfl, rfl⟩ ?_
    refine ix_br (fun c6 => ?_) (fun c6 => ?_)
    · have h7 := h5.1 c6
      refine ix_go 4 (x' := (if I 44 9 = (21 : Int32) then 91 else 81, [some (.inr (.inr (.inl (some (44))))), none, none, some (.inl (x3))], [], 0, 0, ix_mem 276 I J T)) rfl ⟨rfl, rfl⟩ ?_
      refine ix_br (fun c8 => ?_) (fun c8 => ?_)
      · have h9 := h7.1 c8
        refine ix_go 3 (x' := (if I 44 10 = 0 then 98 else 102, [some (.inr (.inr (.inl (some (44))))), none, none, some (.inl (x3))], [], 0, 0, ix_mem 276 I J T)) rfl ⟨rfl, rfl⟩ ?_
        refine ix_br (fun c10 => ?_) (fun c10 => ?_)
        · have h11 := h9.1 c10
          refine ix_go 2 (x' := (103, [some (.inr (.inr (.inl (some (44))))), none, none, some (.inl (x3))], [.inl ((1 : Int32))], 0, 0, ix_mem 276 I J T)) rfl trivial ?_
          exact ix_sp rfl ⟨Nat.le_refl _, Nat.le_refl _, ix_01_ok rfl, hQ _ _ _ _ h11⟩
        · have h11 := h9.2 c10
          refine ix_go 1 (x' := (103, [some (.inr (.inr (.inl (some (44))))), none, none, some (.inl (x3))], [.inl ((0 : Int32))], 0, 0, ix_mem 276 I J T)) rfl trivial ?_
          exact ix_sp rfl ⟨Nat.le_refl _, Nat.le_refl _, ix_01_ok rfl, hQ _ _ _ _ h11⟩
      · have h9 := h7.2 c8
        refine ix_go 1 (x' := (82, [some (.inr (.inr (.inl (some (44))))), none, none, some (.inl (x3))], [.inr (.inr (.inl (some (44))))], 0, 0, ix_mem 276 I J T)) rfl trivial ?_
        refine ix_sp rfl ⟨rfl, ⟨ix_lt rfl, ix_eq rfl, ix_lt rfl⟩, ix_le rfl, Nat.le_refl _, Nat.le_refl _, tp_X7_takeClause h9 (fun I12 J12 T12 h12 => ?_)⟩
        change ix_W _ _ _ (85, [some (.inr (.inr (.inl (some (44))))), none, none, some (.inl (x3))], [], 0, 0, ix_mem 276 I12 J12 T12)
        refine ix_go 2 (x' := (59, [some (.inr (.inr (.inl (some (44))))), none, none, some (.inl (x3 + (1 : Int32)))], [], 0, 0, ix_mem 276 I12 J12 T12)) rfl trivial ?_
        refine ix_subW ([some (.inr (.inr (.inl (some (44))))), none, none, some (.inl (x3 + (1 : Int32)))]) (ix_subS (ix_subS (ix_subS (ix_subS (ix_sub0))))) ?_
        exact h12
    · have h7 := h5.2 c6
      refine ix_go 3 (x' := (if I 44 10 = 0 then 98 else 102, [some (.inr (.inr (.inl (some (44))))), none, none, some (.inl (x3))], [], 0, 0, ix_mem 276 I J T)) rfl ⟨rfl, rfl⟩ ?_
      refine ix_br (fun c13 => ?_) (fun c13 => ?_)
      · have h14 := h7.1 c13
        refine ix_go 2 (x' := (103, [some (.inr (.inr (.inl (some (44))))), none, none, some (.inl (x3))], [.inl ((1 : Int32))], 0, 0, ix_mem 276 I J T)) rfl trivial ?_
        exact ix_sp rfl ⟨Nat.le_refl _, Nat.le_refl _, ix_01_ok rfl, hQ _ _ _ _ h14⟩
      · have h14 := h7.2 c13
        refine ix_go 1 (x' := (103, [some (.inr (.inr (.inl (some (44))))), none, none, some (.inl (x3))], [.inl ((0 : Int32))], 0, 0, ix_mem 276 I J T)) rfl trivial ?_
        exact ix_sp rfl ⟨Nat.le_refl _, Nat.le_refl _, ix_01_ok rfl, hQ _ _ _ _ h14⟩
  · have h5 := hb.2 c4
    refine ix_go 3 (x' := (if I 44 10 = 0 then 98 else 102, [some (.inr (.inr (.inl (some (44))))), none, none, some (.inl (x3))], [], 0, 0, ix_mem 276 I J T)) rfl ⟨rfl, rfl⟩ ?_
    refine ix_br (fun c15 => ?_) (fun c15 => ?_)
    · have h16 := h5.1 c15
      refine ix_go 2 (x' := (103, [some (.inr (.inr (.inl (some (44))))), none, none, some (.inl (x3))], [.inl ((1 : Int32))], 0, 0, ix_mem 276 I J T)) rfl trivial ?_
      exact ix_sp rfl ⟨Nat.le_refl _, Nat.le_refl _, ix_01_ok rfl, hQ _ _ _ _ h16⟩
    · have h16 := h5.2 c15
      refine ix_go 1 (x' := (103, [some (.inr (.inr (.inl (some (44))))), none, none, some (.inl (x3))], [.inl ((0 : Int32))], 0, 0, ix_mem 276 I J T)) rfl trivial ?_
      exact ix_sp rfl ⟨Nat.le_refl _, Nat.le_refl _, ix_01_ok rfl, hQ _ _ _ _ h16⟩
def wp_X7_understands_r77 (a0 : Int32) (I : Nat → Nat → Int32) (J : Nat → Nat → Int64) (T : Option Nat) (P : Int32 → (Nat → Nat → Int32) → (Nat → Nat → Int64) → Option Nat → Prop) : Prop := wp_J9_min_7cf53 (a0) ((600 : Int32)) I J T (fun v1 I1 J1 T1 => wp_X9_clear_77 (ix_u2 (ix_u2 I1 44 2 (v1)) 44 1 ((0 : Int32))) J1 (some 77) (fun I2 J2 T2 => wp_X7_tellTokens (ix_u2 (ix_u2 I2 44 10 ((0 : Int32))) 44 11 ((-1 : Int32))) J2 T2 (fun I3 J3 T3 => wl_X7_understands_r77_59 ((0 : Int32)) (ix_u2 (ix_u2 I3 44 8 ((0 : Int32))) 44 9 (I3 46 ((0 : Int32)).toNatClampNeg)) J3 T3 P)))
set_option maxRecDepth 20000 in
theorem tp_X7_understands_r77 {d : Nat} {a0 : Int32} {I : Nat → Nat → Int32} {J : Nat → Nat → Int64} {T : Option Nat} {P : Int32 → (Nat → Nat → Int32) → (Nat → Nat → Int64) → Option Nat → Prop} {Q : ix_Q} (h : wp_X7_understands_r77 a0 I J T P) (hQ : ∀ v I J T, P v I J T → Q (some (.inl v)) (ix_mem 276 I J T)) : ix_C (d + 7) 128 [.inr (.inr (.inl (some (44)))), .inl (a0), .inr (.inr (.inl (some (77))))] (ix_mem 276 I J T) Q := by
  unfold wp_X7_understands_r77 at h
  refine ix_enter (ls := [some (.inr (.inr (.inl (some (44))))), some (.inl (a0)), some (.inr (.inr (.inl (some (77))))), none]) rfl rfl rfl (Nat.le_of_ble_eq_true rfl) ?_
  refine ix_go 3 (x' := (5, [some (.inr (.inr (.inl (some (44))))), some (.inl (a0)), some (.inr (.inr (.inl (some (77))))), none], [.inl ((600 : Int32)), .inl (a0), .inr (.inr (.inl (some (44))))], 0, 0, ix_mem 276 I J T)) rfl trivial ?_
  refine ix_sp rfl ⟨rfl, trivial, ix_le rfl, Nat.le_refl _, Nat.le_refl _, tp_J9_min_7cf53 h (fun v1 I1 J1 T1 h1 => ?_)⟩
  change ix_W _ _ _ (8, [some (.inr (.inr (.inl (some (44))))), some (.inl (a0)), some (.inr (.inr (.inl (some (77))))), none], [.inl (v1), .inr (.inr (.inl (some (44))))], 0, 0, ix_mem 276 I1 J1 T1)
  refine ix_go 7 (x' := (21, [some (.inr (.inr (.inl (some (44))))), some (.inl (a0)), some (.inr (.inr (.inl (some (77))))), none], [], 0, 0, (276, ix_TG, ix_LN, (ix_u2 (ix_u2 I1 44 2 (v1)) 44 1 ((0 : Int32))), J1, ix_u2 (ix_RT T1) 44 12 (some 77)))) rfl ⟨rfl, rfl, rfl, rfl, rfl, rfl⟩ ?_
  rw [ix_RT_put]
  change ix_W _ _ _ (21, [some (.inr (.inr (.inl (some (44))))), some (.inl (a0)), some (.inr (.inr (.inl (some (77))))), none], [], 0, 0, ix_mem 276 (ix_u2 (ix_u2 I1 44 2 (v1)) 44 1 ((0 : Int32))) J1 (some 77))
  refine ix_go 2 (x' := (25, [some (.inr (.inr (.inl (some (44))))), some (.inl (a0)), some (.inr (.inr (.inl (some (77))))), none], [.inr (.inr (.inl (some (77))))], 0, 0, ix_mem 276 (ix_u2 (ix_u2 I1 44 2 (v1)) 44 1 ((0 : Int32))) J1 (some 77))) rfl ⟨rfl, rfl⟩ ?_
  refine ix_sp rfl ⟨rfl, ⟨ix_lt rfl, ix_eq rfl, ix_lt rfl⟩, ix_le rfl, Nat.le_refl _, Nat.le_refl _, tp_X9_clear_77 h1 (fun I2 J2 T2 h2 => ?_)⟩
  change ix_W _ _ _ (28, [some (.inr (.inr (.inl (some (44))))), some (.inl (a0)), some (.inr (.inr (.inl (some (77))))), none], [], 0, 0, ix_mem 276 I2 J2 T2)
  refine ix_go 7 (x' := (39, [some (.inr (.inr (.inl (some (44))))), some (.inl (a0)), some (.inr (.inr (.inl (some (77))))), none], [.inr (.inr (.inl (some (44))))], 0, 0, ix_mem 276 (ix_u2 (ix_u2 I2 44 10 ((0 : Int32))) 44 11 ((-1 : Int32))) J2 T2)) rfl ⟨rfl, rfl, rfl, rfl⟩ ?_
  refine ix_sp rfl ⟨rfl, ⟨ix_lt rfl, ix_eq rfl, ix_lt rfl⟩, ix_le rfl, Nat.le_refl _, Nat.le_refl _, tp_X7_tellTokens h2 (fun I3 J3 T3 h3 => ?_)⟩
  change ix_W _ _ _ (42, [some (.inr (.inr (.inl (some (44))))), some (.inl (a0)), some (.inr (.inr (.inl (some (77))))), none], [], 0, 0, ix_mem 276 I3 J3 T3)
  refine ix_go 7 (x' := (53, [some (.inr (.inr (.inl (some (44))))), some (.inl (a0)), some (.inr (.inr (.inl (some (77))))), none], [.inl ((0 : Int32)), .inr (.inr (.inl (some (46)))), .inr (.inr (.inl (some (44))))], 0, 0, ix_mem 276 (ix_u2 I3 44 8 ((0 : Int32))) J3 T3)) rfl ⟨rfl, rfl, rfl, rfl⟩ ?_
  refine ix_go 4 (x' := (59, [some (.inr (.inr (.inl (some (44))))), some (.inl (a0)), some (.inr (.inr (.inl (some (77))))), some (.inl ((0 : Int32)))], [], 0, 0, ix_mem 276 (ix_u2 (ix_u2 I3 44 8 ((0 : Int32))) 44 9 (I3 46 ((0 : Int32)).toNatClampNeg)) J3 T3)) rfl ⟨rfl, rfl, rfl, rfl, rfl⟩ ?_
  refine ix_subW ([some (.inr (.inr (.inl (some (44))))), none, none, some (.inl ((0 : Int32)))]) (ix_subS (ix_subN (ix_subN (ix_subS (ix_sub0))))) ?_
  exact tl_X7_understands_r77_59 h3 hQ
def wb_X7_understands_r86_59 (x3 : Int32) (I : Nat → Nat → Int32) (J : Nat → Nat → Int64) (T : Option Nat) (V59 : Int32 → (Nat → Nat → Int32) → (Nat → Nat → Int64) → Option Nat → Prop) (P : Int32 → (Nat → Nat → Int32) → (Nat → Nat → Int64) → Option Nat → Prop) : Prop := ((x3 ≤ (12 : Int32) → ((I 44 10 = 0 → ((I 44 9 = (21 : Int32) → ((I 44 10 = 0 → P ((1 : Int32)) I J T) ∧ (¬ (I 44 10 = 0) → P ((0 : Int32)) I J T))) ∧ (¬ (I 44 9 = (21 : Int32)) → wp_X7_takeClause I J T (fun I12 J12 T12 => V59 (x3 + (1 : Int32)) I12 J12 T12)))) ∧ (¬ (I 44 10 = 0) → ((I 44 10 = 0 → P ((1 : Int32)) I J T) ∧ (¬ (I 44 10 = 0) → P ((0 : Int32)) I J T))))) ∧ (¬ (x3 ≤ (12 : Int32)) → ((I 44 10 = 0 → P ((1 : Int32)) I J T) ∧ (¬ (I 44 10 = 0) → P ((0 : Int32)) I J T))))
def wl_X7_understands_r86_59 (x3 : Int32) (I : Nat → Nat → Int32) (J : Nat → Nat → Int64) (T : Option Nat) (P : Int32 → (Nat → Nat → Int32) → (Nat → Nat → Int64) → Option Nat → Prop) : Prop := ∀ V : Int32 → (Nat → Nat → Int32) → (Nat → Nat → Int64) → Option Nat → Prop, (∀ (x3 : Int32) (I : Nat → Nat → Int32) (J : Nat → Nat → Int64) (T : Option Nat), wb_X7_understands_r86_59 x3 I J T V P → V x3 I J T) → V x3 I J T
set_option maxRecDepth 20000 in
theorem tl_X7_understands_r86_59 {d : Nat} {x3 : Int32} {I : Nat → Nat → Int32} {J : Nat → Nat → Int64} {T : Option Nat} {P : Int32 → (Nat → Nat → Int32) → (Nat → Nat → Int64) → Option Nat → Prop} {Q : ix_Q} (h : wl_X7_understands_r86_59 x3 I J T P) (hQ : ∀ v I J T, P v I J T → Q (some (.inl v)) (ix_mem 276 I J T)) : ix_W (ix_C (d + 6)) (7, ix_lk ix_l128, (some .boolean), 0, 0, Nat.blt 0 0, none) Q (59, [some (.inr (.inr (.inl (some (44))))), none, none, some (.inl (x3))], [], 0, 0, ix_mem 276 I J T) := by
  refine h (fun x3 I J T => ix_W (ix_C (d + 6)) (7, ix_lk ix_l128, (some .boolean), 0, 0, Nat.blt 0 0, none) Q (59, [some (.inr (.inr (.inl (some (44))))), none, none, some (.inl (x3))], [], 0, 0, ix_mem 276 I J T)) ?_
  intro x3 I J T hb
  unfold wb_X7_understands_r86_59 at hb
  refine ix_go 3 (x' := (if x3 ≤ (12 : Int32) then 65 else 91, [some (.inr (.inr (.inl (some (44))))), none, none, some (.inl (x3))], [], 0, 0, ix_mem 276 I J T)) rfl trivial ?_
  refine ix_br (fun c4 => ?_) (fun c4 => ?_)
  · have h5 := hb.1 c4
    refine ix_go 3 (x' := (if I 44 10 = 0 then 72 else 91, [some (.inr (.inr (.inl (some (44))))), none, none, some (.inl (x3))], [], 0, 0, ix_mem 276 I J T)) rfl ⟨rfl, rfl⟩ ?_
    refine ix_br (fun c6 => ?_) (fun c6 => ?_)
    · have h7 := h5.1 c6
      refine ix_go 4 (x' := (if I 44 9 = (21 : Int32) then 91 else 81, [some (.inr (.inr (.inl (some (44))))), none, none, some (.inl (x3))], [], 0, 0, ix_mem 276 I J T)) rfl ⟨rfl, rfl⟩ ?_
      refine ix_br (fun c8 => ?_) (fun c8 => ?_)
      · have h9 := h7.1 c8
        refine ix_go 3 (x' := (if I 44 10 = 0 then 98 else 102, [some (.inr (.inr (.inl (some (44))))), none, none, some (.inl (x3))], [], 0, 0, ix_mem 276 I J T)) rfl ⟨rfl, rfl⟩ ?_
        refine ix_br (fun c10 => ?_) (fun c10 => ?_)
        · have h11 := h9.1 c10
          refine ix_go 2 (x' := (103, [some (.inr (.inr (.inl (some (44))))), none, none, some (.inl (x3))], [.inl ((1 : Int32))], 0, 0, ix_mem 276 I J T)) rfl trivial ?_
          exact ix_sp rfl ⟨Nat.le_refl _, Nat.le_refl _, ix_01_ok rfl, hQ _ _ _ _ h11⟩
        · have h11 := h9.2 c10
          refine ix_go 1 (x' := (103, [some (.inr (.inr (.inl (some (44))))), none, none, some (.inl (x3))], [.inl ((0 : Int32))], 0, 0, ix_mem 276 I J T)) rfl trivial ?_
          exact ix_sp rfl ⟨Nat.le_refl _, Nat.le_refl _, ix_01_ok rfl, hQ _ _ _ _ h11⟩
      · have h9 := h7.2 c8
        refine ix_go 1 (x' := (82, [some (.inr (.inr (.inl (some (44))))), none, none, some (.inl (x3))], [.inr (.inr (.inl (some (44))))], 0, 0, ix_mem 276 I J T)) rfl trivial ?_
        refine ix_sp rfl ⟨rfl, ⟨ix_lt rfl, ix_eq rfl, ix_lt rfl⟩, ix_le rfl, Nat.le_refl _, Nat.le_refl _, tp_X7_takeClause h9 (fun I12 J12 T12 h12 => ?_)⟩
        change ix_W _ _ _ (85, [some (.inr (.inr (.inl (some (44))))), none, none, some (.inl (x3))], [], 0, 0, ix_mem 276 I12 J12 T12)
        refine ix_go 2 (x' := (59, [some (.inr (.inr (.inl (some (44))))), none, none, some (.inl (x3 + (1 : Int32)))], [], 0, 0, ix_mem 276 I12 J12 T12)) rfl trivial ?_
        refine ix_subW ([some (.inr (.inr (.inl (some (44))))), none, none, some (.inl (x3 + (1 : Int32)))]) (ix_subS (ix_subS (ix_subS (ix_subS (ix_sub0))))) ?_
        exact h12
    · have h7 := h5.2 c6
      refine ix_go 3 (x' := (if I 44 10 = 0 then 98 else 102, [some (.inr (.inr (.inl (some (44))))), none, none, some (.inl (x3))], [], 0, 0, ix_mem 276 I J T)) rfl ⟨rfl, rfl⟩ ?_
      refine ix_br (fun c13 => ?_) (fun c13 => ?_)
      · have h14 := h7.1 c13
        refine ix_go 2 (x' := (103, [some (.inr (.inr (.inl (some (44))))), none, none, some (.inl (x3))], [.inl ((1 : Int32))], 0, 0, ix_mem 276 I J T)) rfl trivial ?_
        exact ix_sp rfl ⟨Nat.le_refl _, Nat.le_refl _, ix_01_ok rfl, hQ _ _ _ _ h14⟩
      · have h14 := h7.2 c13
        refine ix_go 1 (x' := (103, [some (.inr (.inr (.inl (some (44))))), none, none, some (.inl (x3))], [.inl ((0 : Int32))], 0, 0, ix_mem 276 I J T)) rfl trivial ?_
        exact ix_sp rfl ⟨Nat.le_refl _, Nat.le_refl _, ix_01_ok rfl, hQ _ _ _ _ h14⟩
  · have h5 := hb.2 c4
    refine ix_go 3 (x' := (if I 44 10 = 0 then 98 else 102, [some (.inr (.inr (.inl (some (44))))), none, none, some (.inl (x3))], [], 0, 0, ix_mem 276 I J T)) rfl ⟨rfl, rfl⟩ ?_
    refine ix_br (fun c15 => ?_) (fun c15 => ?_)
    · have h16 := h5.1 c15
      refine ix_go 2 (x' := (103, [some (.inr (.inr (.inl (some (44))))), none, none, some (.inl (x3))], [.inl ((1 : Int32))], 0, 0, ix_mem 276 I J T)) rfl trivial ?_
      exact ix_sp rfl ⟨Nat.le_refl _, Nat.le_refl _, ix_01_ok rfl, hQ _ _ _ _ h16⟩
    · have h16 := h5.2 c15
      refine ix_go 1 (x' := (103, [some (.inr (.inr (.inl (some (44))))), none, none, some (.inl (x3))], [.inl ((0 : Int32))], 0, 0, ix_mem 276 I J T)) rfl trivial ?_
      exact ix_sp rfl ⟨Nat.le_refl _, Nat.le_refl _, ix_01_ok rfl, hQ _ _ _ _ h16⟩
def wp_X7_understands_r86 (a0 : Int32) (I : Nat → Nat → Int32) (J : Nat → Nat → Int64) (T : Option Nat) (P : Int32 → (Nat → Nat → Int32) → (Nat → Nat → Int64) → Option Nat → Prop) : Prop := wp_J9_min_7cf53 (a0) ((600 : Int32)) I J T (fun v1 I1 J1 T1 => wp_X9_clear_86 (ix_u2 (ix_u2 I1 44 2 (v1)) 44 1 ((0 : Int32))) J1 (some 86) (fun I2 J2 T2 => wp_X7_tellTokens (ix_u2 (ix_u2 I2 44 10 ((0 : Int32))) 44 11 ((-1 : Int32))) J2 T2 (fun I3 J3 T3 => wl_X7_understands_r86_59 ((0 : Int32)) (ix_u2 (ix_u2 I3 44 8 ((0 : Int32))) 44 9 (I3 46 ((0 : Int32)).toNatClampNeg)) J3 T3 P)))
set_option maxRecDepth 20000 in
theorem tp_X7_understands_r86 {d : Nat} {a0 : Int32} {I : Nat → Nat → Int32} {J : Nat → Nat → Int64} {T : Option Nat} {P : Int32 → (Nat → Nat → Int32) → (Nat → Nat → Int64) → Option Nat → Prop} {Q : ix_Q} (h : wp_X7_understands_r86 a0 I J T P) (hQ : ∀ v I J T, P v I J T → Q (some (.inl v)) (ix_mem 276 I J T)) : ix_C (d + 7) 128 [.inr (.inr (.inl (some (44)))), .inl (a0), .inr (.inr (.inl (some (86))))] (ix_mem 276 I J T) Q := by
  unfold wp_X7_understands_r86 at h
  refine ix_enter (ls := [some (.inr (.inr (.inl (some (44))))), some (.inl (a0)), some (.inr (.inr (.inl (some (86))))), none]) rfl rfl rfl (Nat.le_of_ble_eq_true rfl) ?_
  refine ix_go 3 (x' := (5, [some (.inr (.inr (.inl (some (44))))), some (.inl (a0)), some (.inr (.inr (.inl (some (86))))), none], [.inl ((600 : Int32)), .inl (a0), .inr (.inr (.inl (some (44))))], 0, 0, ix_mem 276 I J T)) rfl trivial ?_
  refine ix_sp rfl ⟨rfl, trivial, ix_le rfl, Nat.le_refl _, Nat.le_refl _, tp_J9_min_7cf53 h (fun v1 I1 J1 T1 h1 => ?_)⟩
  change ix_W _ _ _ (8, [some (.inr (.inr (.inl (some (44))))), some (.inl (a0)), some (.inr (.inr (.inl (some (86))))), none], [.inl (v1), .inr (.inr (.inl (some (44))))], 0, 0, ix_mem 276 I1 J1 T1)
  refine ix_go 7 (x' := (21, [some (.inr (.inr (.inl (some (44))))), some (.inl (a0)), some (.inr (.inr (.inl (some (86))))), none], [], 0, 0, (276, ix_TG, ix_LN, (ix_u2 (ix_u2 I1 44 2 (v1)) 44 1 ((0 : Int32))), J1, ix_u2 (ix_RT T1) 44 12 (some 86)))) rfl ⟨rfl, rfl, rfl, rfl, rfl, rfl⟩ ?_
  rw [ix_RT_put]
  change ix_W _ _ _ (21, [some (.inr (.inr (.inl (some (44))))), some (.inl (a0)), some (.inr (.inr (.inl (some (86))))), none], [], 0, 0, ix_mem 276 (ix_u2 (ix_u2 I1 44 2 (v1)) 44 1 ((0 : Int32))) J1 (some 86))
  refine ix_go 2 (x' := (25, [some (.inr (.inr (.inl (some (44))))), some (.inl (a0)), some (.inr (.inr (.inl (some (86))))), none], [.inr (.inr (.inl (some (86))))], 0, 0, ix_mem 276 (ix_u2 (ix_u2 I1 44 2 (v1)) 44 1 ((0 : Int32))) J1 (some 86))) rfl ⟨rfl, rfl⟩ ?_
  refine ix_sp rfl ⟨rfl, ⟨ix_lt rfl, ix_eq rfl, ix_lt rfl⟩, ix_le rfl, Nat.le_refl _, Nat.le_refl _, tp_X9_clear_86 h1 (fun I2 J2 T2 h2 => ?_)⟩
  change ix_W _ _ _ (28, [some (.inr (.inr (.inl (some (44))))), some (.inl (a0)), some (.inr (.inr (.inl (some (86))))), none], [], 0, 0, ix_mem 276 I2 J2 T2)
  refine ix_go 7 (x' := (39, [some (.inr (.inr (.inl (some (44))))), some (.inl (a0)), some (.inr (.inr (.inl (some (86))))), none], [.inr (.inr (.inl (some (44))))], 0, 0, ix_mem 276 (ix_u2 (ix_u2 I2 44 10 ((0 : Int32))) 44 11 ((-1 : Int32))) J2 T2)) rfl ⟨rfl, rfl, rfl, rfl⟩ ?_
  refine ix_sp rfl ⟨rfl, ⟨ix_lt rfl, ix_eq rfl, ix_lt rfl⟩, ix_le rfl, Nat.le_refl _, Nat.le_refl _, tp_X7_tellTokens h2 (fun I3 J3 T3 h3 => ?_)⟩
  change ix_W _ _ _ (42, [some (.inr (.inr (.inl (some (44))))), some (.inl (a0)), some (.inr (.inr (.inl (some (86))))), none], [], 0, 0, ix_mem 276 I3 J3 T3)
  refine ix_go 7 (x' := (53, [some (.inr (.inr (.inl (some (44))))), some (.inl (a0)), some (.inr (.inr (.inl (some (86))))), none], [.inl ((0 : Int32)), .inr (.inr (.inl (some (46)))), .inr (.inr (.inl (some (44))))], 0, 0, ix_mem 276 (ix_u2 I3 44 8 ((0 : Int32))) J3 T3)) rfl ⟨rfl, rfl, rfl, rfl⟩ ?_
  refine ix_go 4 (x' := (59, [some (.inr (.inr (.inl (some (44))))), some (.inl (a0)), some (.inr (.inr (.inl (some (86))))), some (.inl ((0 : Int32)))], [], 0, 0, ix_mem 276 (ix_u2 (ix_u2 I3 44 8 ((0 : Int32))) 44 9 (I3 46 ((0 : Int32)).toNatClampNeg)) J3 T3)) rfl ⟨rfl, rfl, rfl, rfl, rfl⟩ ?_
  refine ix_subW ([some (.inr (.inr (.inl (some (44))))), none, none, some (.inl ((0 : Int32)))]) (ix_subS (ix_subN (ix_subN (ix_subS (ix_sub0))))) ?_
  exact tl_X7_understands_r86_59 h3 hQ
