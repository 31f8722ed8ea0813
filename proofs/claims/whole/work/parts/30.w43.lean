def wp_X12_isBag (a0 : Int32) (I : Nat → Nat → Int32) (J : Nat → Nat → Int64) (T : Option Nat) (P : Int32 → (Nat → Nat → Int32) → (Nat → Nat → Int64) → Option Nat → Prop) : Prop := ((a0 < 0 → P ((0 : Int32)) I J T) ∧ (¬ (a0 < 0) → ((a0 < I 204 81 → P ((1 : Int32)) I J T) ∧ (¬ (a0 < I 204 81) → P ((0 : Int32)) I J T))))
set_option maxRecDepth 20000 in
theorem tp_X12_isBag {d : Nat} {a0 : Int32} {I : Nat → Nat → Int32} {J : Nat → Nat → Int64} {T : Option Nat} {P : Int32 → (Nat → Nat → Int32) → (Nat → Nat → Int64) → Option Nat → Prop} {Q : ix_Q} (h : wp_X12_isBag a0 I J T P) (hQ : ∀ v I J T, P v I J T → Q (some (.inl v)) (ix_mem 276 I J T)) : ix_C (d + 1) 322 [.inr (.inr (.inl (some (204)))), .inl (a0)] (ix_mem 276 I J T) Q := by
  unfold wp_X12_isBag at h
  refine ix_enter (ls := [some (.inr (.inr (.inl (some (204))))), some (.inl (a0))]) rfl rfl rfl (Nat.le_of_ble_eq_true rfl) ?_
  refine ix_go 2 (x' := (if a0 < 0 then 16 else 4, [some (.inr (.inr (.inl (some (204))))), some (.inl (a0))], [], 0, 0, ix_mem 276 I J T)) rfl trivial ?_
  refine ix_br (fun c1 => ?_) (fun c1 => ?_)
  · have h2 := h.1 c1
    refine ix_go 1 (x' := (17, [some (.inr (.inr (.inl (some (204))))), some (.inl (a0))], [.inl ((0 : Int32))], 0, 0, ix_mem 276 I J T)) rfl trivial ?_
    exact ix_sp rfl ⟨Nat.le_refl _, Nat.le_refl _, ix_01_ok rfl, hQ _ _ _ _ h2⟩
  · have h2 := h.2 c1
    refine ix_go 4 (x' := (if a0 < I 204 81 then 12 else 16, [some (.inr (.inr (.inl (some (204))))), some (.inl (a0))], [], 0, 0, ix_mem 276 I J T)) rfl ⟨rfl, rfl⟩ ?_
    refine ix_br (fun c3 => ?_) (fun c3 => ?_)
    · have h4 := h2.1 c3
      refine ix_go 2 (x' := (17, [some (.inr (.inr (.inl (some (204))))), some (.inl (a0))], [.inl ((1 : Int32))], 0, 0, ix_mem 276 I J T)) rfl trivial ?_
      exact ix_sp rfl ⟨Nat.le_refl _, Nat.le_refl _, ix_01_ok rfl, hQ _ _ _ _ h4⟩
    · have h4 := h2.2 c3
      refine ix_go 1 (x' := (17, [some (.inr (.inr (.inl (some (204))))), some (.inl (a0))], [.inl ((0 : Int32))], 0, 0, ix_mem 276 I J T)) rfl trivial ?_
      exact ix_sp rfl ⟨Nat.le_refl _, Nat.le_refl _, ix_01_ok rfl, hQ _ _ _ _ h4⟩
def wp_X12_handed (a0 : Int32) (a1 : Int32) (a2 : Int32) (a3 : Int32) (I : Nat → Nat → Int32) (J : Nat → Nat → Int64) (T : Option Nat) (P : Int32 → (Nat → Nat → Int32) → (Nat → Nat → Int64) → Option Nat → Prop) : Prop := wp_X12_isBag (a0) I J T (fun v1 I1 J1 T1 => ((v1 = 0 → wp_X12_is ((1 : Int32)) I1 J1 T1 (fun v4 I4 J4 T4 => ix_01 (v4) = true ∧ P (v4) I4 J4 T4)) ∧ (¬ (v1 = 0) → ((a1 < 0 → wp_X12_is ((1 : Int32)) I1 J1 T1 (fun v7 I7 J7 T7 => ix_01 (v7) = true ∧ P (v7) I7 J7 T7)) ∧ (¬ (a1 < 0) → ix_inb (a0) 30 = true ∧ ((a1 < I1 260 (a0).toNatClampNeg → wp_X12_isDay (a2) I1 J1 T1 (fun v12 I12 J12 T12 => ((v12 = 0 → wp_X12_is ((1 : Int32)) I12 J12 T12 (fun v15 I15 J15 T15 => ix_01 (v15) = true ∧ P (v15) I15 J15 T15)) ∧ (¬ (v12 = 0) → wp_X12_isDay (a3) I12 J12 T12 (fun v16 I16 J16 T16 => ((v16 = 0 → wp_X12_is ((1 : Int32)) I16 J16 T16 (fun v19 I19 J19 T19 => ix_01 (v19) = true ∧ P (v19) I19 J19 T19)) ∧ (¬ (v16 = 0) → ((a3 < a2 → wp_X12_is ((1 : Int32)) I16 J16 T16 (fun v22 I22 J22 T22 => ix_01 (v22) = true ∧ P (v22) I22 J22 T22)) ∧ (¬ (a3 < a2) → ((I16 204 82 = (150 : Int32) → wp_X12_is ((4 : Int32)) I16 J16 T16 (fun v25 I25 J25 T25 => ix_01 (v25) = true ∧ P (v25) I25 J25 T25)) ∧ (¬ (I16 204 82 = (150 : Int32)) → ((a3 < I16 204 83 → wp_X12_is ((5 : Int32)) I16 J16 T16 (fun v28 I28 J28 T28 => ix_01 (v28) = true ∧ P (v28) I28 J28 T28)) ∧ (¬ (a3 < I16 204 83) → ix_inb (I16 204 82) 150 = true ∧ ix_inb (I16 204 82) 150 = true ∧ ix_inb (I16 204 82) 150 = true ∧ ix_inb (I16 204 82) 150 = true ∧ wp_X12_is ((0 : Int32)) (ix_u2 (ix_u2 (ix_u2 (ix_u2 (ix_u2 (ix_u2 I16 204 83 (a3)) 263 (I16 204 82).toNatClampNeg (a0)) 264 (I16 204 82).toNatClampNeg (a1)) 265 (I16 204 82).toNatClampNeg (a2)) 266 (I16 204 82).toNatClampNeg (a3)) 204 82 ((I16 204 82) + ((1 : Int32)))) J16 T16 (fun v37 I37 J37 T37 => ix_01 (v37) = true ∧ P (v37) I37 J37 T37)))))))))))))) ∧ (¬ (a1 < I1 260 (a0).toNatClampNeg) → wp_X12_is ((1 : Int32)) I1 J1 T1 (fun v38 I38 J38 T38 => ix_01 (v38) = true ∧ P (v38) I38 J38 T38))))))))
set_option maxRecDepth 20000 in
theorem tp_X12_handed {d : Nat} {a0 : Int32} {a1 : Int32} {a2 : Int32} {a3 : Int32} {I : Nat → Nat → Int32} {J : Nat → Nat → Int64} {T : Option Nat} {P : Int32 → (Nat → Nat → Int32) → (Nat → Nat → Int64) → Option Nat → Prop} {Q : ix_Q} (h : wp_X12_handed a0 a1 a2 a3 I J T P) (hQ : ∀ v I J T, P v I J T → Q (some (.inl v)) (ix_mem 276 I J T)) : ix_C (d + 2) 323 [.inr (.inr (.inl (some (204)))), .inl (a0), .inl (a1), .inl (a2), .inl (a3)] (ix_mem 276 I J T) Q := by
  unfold wp_X12_handed at h
  refine ix_enter (ls := [some (.inr (.inr (.inl (some (204))))), some (.inl (a0)), some (.inl (a1)), some (.inl (a2)), some (.inl (a3))]) rfl rfl rfl (Nat.le_of_ble_eq_true rfl) ?_
  refine ix_go 2 (x' := (2, [some (.inr (.inr (.inl (some (204))))), some (.inl (a0)), some (.inl (a1)), some (.inl (a2)), some (.inl (a3))], [.inl (a0), .inr (.inr (.inl (some (204))))], 0, 0, ix_mem 276 I J T)) rfl trivial ?_
  refine ix_sp rfl ⟨rfl, ⟨ix_lt rfl, ix_eq rfl, ix_lt rfl⟩, ix_le rfl, Nat.le_refl _, Nat.le_refl _, tp_X12_isBag h (fun v1 I1 J1 T1 h1 => ?_)⟩
  change ix_W _ _ _ (5, [some (.inr (.inr (.inl (some (204))))), some (.inl (a0)), some (.inl (a1)), some (.inl (a2)), some (.inl (a3))], [.inl (v1)], 0, 0, ix_mem 276 I1 J1 T1)
  refine ix_go 1 (x' := (if v1 = 0 then 43 else 8, [some (.inr (.inr (.inl (some (204))))), some (.inl (a0)), some (.inl (a1)), some (.inl (a2)), some (.inl (a3))], [], 0, 0, ix_mem 276 I1 J1 T1)) rfl trivial ?_
  refine ix_br (fun c2 => ?_) (fun c2 => ?_)
  · have h3 := h1.1 c2
    refine ix_go 2 (x' := (45, [some (.inr (.inr (.inl (some (204))))), some (.inl (a0)), some (.inl (a1)), some (.inl (a2)), some (.inl (a3))], [.inl ((1 : Int32)), .inr (.inr (.inl (some (204))))], 0, 0, ix_mem 276 I1 J1 T1)) rfl trivial ?_
    refine ix_sp rfl ⟨rfl, ⟨ix_lt rfl, ix_eq rfl, ix_lt rfl⟩, ix_le rfl, Nat.le_refl _, Nat.le_refl _, tp_X12_is h3 (fun v4 I4 J4 T4 h4 => ?_)⟩
    change ix_W _ _ _ (48, [some (.inr (.inr (.inl (some (204))))), some (.inl (a0)), some (.inl (a1)), some (.inl (a2)), some (.inl (a3))], [.inl (v4)], 0, 0, ix_mem 276 I4 J4 T4)
    exact ix_sp rfl ⟨Nat.le_refl _, Nat.le_refl _, ix_01_ok h4.1, hQ _ _ _ _ h4.2⟩
  · have h3 := h1.2 c2
    refine ix_go 2 (x' := (if a1 < 0 then 43 else 12, [some (.inr (.inr (.inl (some (204))))), some (.inl (a0)), some (.inl (a1)), some (.inl (a2)), some (.inl (a3))], [], 0, 0, ix_mem 276 I1 J1 T1)) rfl trivial ?_
    refine ix_br (fun c5 => ?_) (fun c5 => ?_)
    · have h6 := h3.1 c5
      refine ix_go 2 (x' := (45, [some (.inr (.inr (.inl (some (204))))), some (.inl (a0)), some (.inl (a1)), some (.inl (a2)), some (.inl (a3))], [.inl ((1 : Int32)), .inr (.inr (.inl (some (204))))], 0, 0, ix_mem 276 I1 J1 T1)) rfl trivial ?_
      refine ix_sp rfl ⟨rfl, ⟨ix_lt rfl, ix_eq rfl, ix_lt rfl⟩, ix_le rfl, Nat.le_refl _, Nat.le_refl _, tp_X12_is h6 (fun v7 I7 J7 T7 h7 => ?_)⟩
      change ix_W _ _ _ (48, [some (.inr (.inr (.inl (some (204))))), some (.inl (a0)), some (.inl (a1)), some (.inl (a2)), some (.inl (a3))], [.inl (v7)], 0, 0, ix_mem 276 I7 J7 T7)
      exact ix_sp rfl ⟨Nat.le_refl _, Nat.le_refl _, ix_01_ok h7.1, hQ _ _ _ _ h7.2⟩
    · have h6 := h3.2 c5
      obtain ⟨p8, h9⟩ := h6
      refine ix_go 6 (x' := (if a1 < I1 260 (a0).toNatClampNeg then 22 else 43, [some (.inr (.inr (.inl (some (204))))), some (.inl (a0)), some (.inl (a1)), some (.inl (a2)), some (.inl (a3))], [], 0, 0, ix_mem 276 I1 J1 T1)) rfl ⟨rfl, rfl, rfl, rfl, p8⟩ ?_
      refine ix_br (fun c10 => ?_) (fun c10 => ?_)
      · have h11 := h9.1 c10
        refine ix_go 1 (x' := (23, [some (.inr (.inr (.inl (some (204))))), some (.inl (a0)), some (.inl (a1)), some (.inl (a2)), some (.inl (a3))], [.inl (a2)], 0, 0, ix_mem 276 I1 J1 T1)) rfl trivial ?_
        refine ix_sp rfl ⟨rfl, trivial, ix_le rfl, Nat.le_refl _, Nat.le_refl _, tp_X12_isDay h11 (fun v12 I12 J12 T12 h12 => ?_)⟩
        change ix_W _ _ _ (26, [some (.inr (.inr (.inl (some (204))))), some (.inl (a0)), some (.inl (a1)), some (.inl (a2)), some (.inl (a3))], [.inl (v12)], 0, 0, ix_mem 276 I12 J12 T12)
        refine ix_go 1 (x' := (if v12 = 0 then 43 else 29, [some (.inr (.inr (.inl (some (204))))), some (.inl (a0)), some (.inl (a1)), some (.inl (a2)), some (.inl (a3))], [], 0, 0, ix_mem 276 I12 J12 T12)) rfl trivial ?_
        refine ix_br (fun c13 => ?_) (fun c13 => ?_)
        · have h14 := h12.1 c13
          refine ix_go 2 (x' := (45, [some (.inr (.inr (.inl (some (204))))), some (.inl (a0)), some (.inl (a1)), some (.inl (a2)), some (.inl (a3))], [.inl ((1 : Int32)), .inr (.inr (.inl (some (204))))], 0, 0, ix_mem 276 I12 J12 T12)) rfl trivial ?_
          refine ix_sp rfl ⟨rfl, ⟨ix_lt rfl, ix_eq rfl, ix_lt rfl⟩, ix_le rfl, Nat.le_refl _, Nat.le_refl _, tp_X12_is h14 (fun v15 I15 J15 T15 h15 => ?_)⟩
          change ix_W _ _ _ (48, [some (.inr (.inr (.inl (some (204))))), some (.inl (a0)), some (.inl (a1)), some (.inl (a2)), some (.inl (a3))], [.inl (v15)], 0, 0, ix_mem 276 I15 J15 T15)
          exact ix_sp rfl ⟨Nat.le_refl _, Nat.le_refl _, ix_01_ok h15.1, hQ _ _ _ _ h15.2⟩
        · have h14 := h12.2 c13
          refine ix_go 1 (x' := (31, [some (.inr (.inr (.inl (some (204))))), some (.inl (a0)), some (.inl (a1)), some (.inl (a2)), some (.inl (a3))], [.inl (a3)], 0, 0, ix_mem 276 I12 J12 T12)) rfl trivial ?_
          refine ix_sp rfl ⟨rfl, trivial, ix_le rfl, Nat.le_refl _, Nat.le_refl _, tp_X12_isDay h14 (fun v16 I16 J16 T16 h16 => ?_)⟩
          change ix_W _ _ _ (34, [some (.inr (.inr (.inl (some (204))))), some (.inl (a0)), some (.inl (a1)), some (.inl (a2)), some (.inl (a3))], [.inl (v16)], 0, 0, ix_mem 276 I16 J16 T16)
          refine ix_go 1 (x' := (if v16 = 0 then 43 else 37, [some (.inr (.inr (.inl (some (204))))), some (.inl (a0)), some (.inl (a1)), some (.inl (a2)), some (.inl (a3))], [], 0, 0, ix_mem 276 I16 J16 T16)) rfl trivial ?_
          refine ix_br (fun c17 => ?_) (fun c17 => ?_)
          · have h18 := h16.1 c17
            refine ix_go 2 (x' := (45, [some (.inr (.inr (.inl (some (204))))), some (.inl (a0)), some (.inl (a1)), some (.inl (a2)), some (.inl (a3))], [.inl ((1 : Int32)), .inr (.inr (.inl (some (204))))], 0, 0, ix_mem 276 I16 J16 T16)) rfl trivial ?_
            refine ix_sp rfl ⟨rfl, ⟨ix_lt rfl, ix_eq rfl, ix_lt rfl⟩, ix_le rfl, Nat.le_refl _, Nat.le_refl _, tp_X12_is h18 (fun v19 I19 J19 T19 h19 => ?_)⟩
            change ix_W _ _ _ (48, [some (.inr (.inr (.inl (some (204))))), some (.inl (a0)), some (.inl (a1)), some (.inl (a2)), some (.inl (a3))], [.inl (v19)], 0, 0, ix_mem 276 I19 J19 T19)
            exact ix_sp rfl ⟨Nat.le_refl _, Nat.le_refl _, ix_01_ok h19.1, hQ _ _ _ _ h19.2⟩
          · have h18 := h16.2 c17
            refine ix_go 3 (x' := (if a3 < a2 then 43 else 49, [some (.inr (.inr (.inl (some (204))))), some (.inl (a0)), some (.inl (a1)), some (.inl (a2)), some (.inl (a3))], [], 0, 0, ix_mem 276 I16 J16 T16)) rfl trivial ?_
            refine ix_br (fun c20 => ?_) (fun c20 => ?_)
            · have h21 := h18.1 c20
              refine ix_go 2 (x' := (45, [some (.inr (.inr (.inl (some (204))))), some (.inl (a0)), some (.inl (a1)), some (.inl (a2)), some (.inl (a3))], [.inl ((1 : Int32)), .inr (.inr (.inl (some (204))))], 0, 0, ix_mem 276 I16 J16 T16)) rfl trivial ?_
              refine ix_sp rfl ⟨rfl, ⟨ix_lt rfl, ix_eq rfl, ix_lt rfl⟩, ix_le rfl, Nat.le_refl _, Nat.le_refl _, tp_X12_is h21 (fun v22 I22 J22 T22 h22 => ?_)⟩
              change ix_W _ _ _ (48, [some (.inr (.inr (.inl (some (204))))), some (.inl (a0)), some (.inl (a1)), some (.inl (a2)), some (.inl (a3))], [.inl (v22)], 0, 0, ix_mem 276 I22 J22 T22)
              exact ix_sp rfl ⟨Nat.le_refl _, Nat.le_refl _, ix_01_ok h22.1, hQ _ _ _ _ h22.2⟩
            · have h21 := h18.2 c20
              refine ix_go 4 (x' := (if I16 204 82 = (150 : Int32) then 59 else 65, [some (.inr (.inr (.inl (some (204))))), some (.inl (a0)), some (.inl (a1)), some (.inl (a2)), some (.inl (a3))], [], 0, 0, ix_mem 276 I16 J16 T16)) rfl ⟨rfl, rfl⟩ ?_
              refine ix_br (fun c23 => ?_) (fun c23 => ?_)
              · have h24 := h21.1 c23
                refine ix_go 2 (x' := (61, [some (.inr (.inr (.inl (some (204))))), some (.inl (a0)), some (.inl (a1)), some (.inl (a2)), some (.inl (a3))], [.inl ((4 : Int32)), .inr (.inr (.inl (some (204))))], 0, 0, ix_mem 276 I16 J16 T16)) rfl trivial ?_
                refine ix_sp rfl ⟨rfl, ⟨ix_lt rfl, ix_eq rfl, ix_lt rfl⟩, ix_le rfl, Nat.le_refl _, Nat.le_refl _, tp_X12_is h24 (fun v25 I25 J25 T25 h25 => ?_)⟩
                change ix_W _ _ _ (64, [some (.inr (.inr (.inl (some (204))))), some (.inl (a0)), some (.inl (a1)), some (.inl (a2)), some (.inl (a3))], [.inl (v25)], 0, 0, ix_mem 276 I25 J25 T25)
                exact ix_sp rfl ⟨Nat.le_refl _, Nat.le_refl _, ix_01_ok h25.1, hQ _ _ _ _ h25.2⟩
              · have h24 := h21.2 c23
                refine ix_go 4 (x' := (if a3 < I16 204 83 then 74 else 80, [some (.inr (.inr (.inl (some (204))))), some (.inl (a0)), some (.inl (a1)), some (.inl (a2)), some (.inl (a3))], [], 0, 0, ix_mem 276 I16 J16 T16)) rfl ⟨rfl, rfl⟩ ?_
                refine ix_br (fun c26 => ?_) (fun c26 => ?_)
                · have h27 := h24.1 c26
                  refine ix_go 2 (x' := (76, [some (.inr (.inr (.inl (some (204))))), some (.inl (a0)), some (.inl (a1)), some (.inl (a2)), some (.inl (a3))], [.inl ((5 : Int32)), .inr (.inr (.inl (some (204))))], 0, 0, ix_mem 276 I16 J16 T16)) rfl trivial ?_
                  refine ix_sp rfl ⟨rfl, ⟨ix_lt rfl, ix_eq rfl, ix_lt rfl⟩, ix_le rfl, Nat.le_refl _, Nat.le_refl _, tp_X12_is h27 (fun v28 I28 J28 T28 h28 => ?_)⟩
                  change ix_W _ _ _ (79, [some (.inr (.inr (.inl (some (204))))), some (.inl (a0)), some (.inl (a1)), some (.inl (a2)), some (.inl (a3))], [.inl (v28)], 0, 0, ix_mem 276 I28 J28 T28)
                  exact ix_sp rfl ⟨Nat.le_refl _, Nat.le_refl _, ix_01_ok h28.1, hQ _ _ _ _ h28.2⟩
                · have h27 := h24.2 c26
                  refine ix_go 7 (x' := (94, [some (.inr (.inr (.inl (some (204))))), some (.inl (a0)), some (.inl (a1)), some (.inl (a2)), some (.inl (a3))], [.inl (I16 204 82), .inr (.inr (.inl (some (263))))], 0, 0, ix_mem 276 (ix_u2 I16 204 83 (a3)) J16 T16)) rfl ⟨rfl, rfl, rfl, rfl, rfl, rfl⟩ ?_
                  obtain ⟨p29, h30⟩ := h27
                  refine ix_go 7 (x' := (105, [some (.inr (.inr (.inl (some (204))))), some (.inl (a0)), some (.inl (a1)), some (.inl (a2)), some (.inl (a3))], [.inl (a1), .inl (I16 204 82), .inr (.inr (.inl (some (264))))], 0, 0, ix_mem 276 (ix_u2 (ix_u2 I16 204 83 (a3)) 263 (I16 204 82).toNatClampNeg (a0)) J16 T16)) rfl ⟨rfl, rfl, p29, rfl, rfl, rfl, rfl⟩ ?_
                  obtain ⟨p31, h32⟩ := h30
                  obtain ⟨p33, h34⟩ := h32
                  refine ix_go 7 (x' := (116, [some (.inr (.inr (.inl (some (204))))), some (.inl (a0)), some (.inl (a1)), some (.inl (a2)), some (.inl (a3))], [], 0, 0, ix_mem 276 (ix_u2 (ix_u2 (ix_u2 (ix_u2 I16 204 83 (a3)) 263 (I16 204 82).toNatClampNeg (a0)) 264 (I16 204 82).toNatClampNeg (a1)) 265 (I16 204 82).toNatClampNeg (a2)) J16 T16)) rfl ⟨rfl, rfl, p31, rfl, rfl, rfl, rfl, rfl, rfl, p33⟩ ?_
                  obtain ⟨p35, h36⟩ := h34
                  refine ix_go 7 (x' := (128, [some (.inr (.inr (.inl (some (204))))), some (.inl (a0)), some (.inl (a1)), some (.inl (a2)), some (.inl (a3))], [.inr (.inr (.inl (some (204))))], 0, 0, ix_mem 276 (ix_u2 (ix_u2 (ix_u2 (ix_u2 (ix_u2 I16 204 83 (a3)) 263 (I16 204 82).toNatClampNeg (a0)) 264 (I16 204 82).toNatClampNeg (a1)) 265 (I16 204 82).toNatClampNeg (a2)) 266 (I16 204 82).toNatClampNeg (a3)) J16 T16)) rfl ⟨rfl, rfl, rfl, rfl, rfl, rfl, p35⟩ ?_
                  refine ix_go 7 (x' := (139, [some (.inr (.inr (.inl (some (204))))), some (.inl (a0)), some (.inl (a1)), some (.inl (a2)), some (.inl (a3))], [.inl ((0 : Int32)), .inr (.inr (.inl (some (204))))], 0, 0, ix_mem 276 (ix_u2 (ix_u2 (ix_u2 (ix_u2 (ix_u2 (ix_u2 I16 204 83 (a3)) 263 (I16 204 82).toNatClampNeg (a0)) 264 (I16 204 82).toNatClampNeg (a1)) 265 (I16 204 82).toNatClampNeg (a2)) 266 (I16 204 82).toNatClampNeg (a3)) 204 82 ((I16 204 82) + ((1 : Int32)))) J16 T16)) rfl ⟨rfl, rfl, rfl, rfl⟩ ?_
                  refine ix_sp rfl ⟨rfl, ⟨ix_lt rfl, ix_eq rfl, ix_lt rfl⟩, ix_le rfl, Nat.le_refl _, Nat.le_refl _, tp_X12_is h36 (fun v37 I37 J37 T37 h37 => ?_)⟩
                  change ix_W _ _ _ (142, [some (.inr (.inr (.inl (some (204))))), some (.inl (a0)), some (.inl (a1)), some (.inl (a2)), some (.inl (a3))], [.inl (v37)], 0, 0, ix_mem 276 I37 J37 T37)
                  exact ix_sp rfl ⟨Nat.le_refl _, Nat.le_refl _, ix_01_ok h37.1, hQ _ _ _ _ h37.2⟩
      · have h11 := h9.2 c10
        refine ix_go 2 (x' := (45, [some (.inr (.inr (.inl (some (204))))), some (.inl (a0)), some (.inl (a1)), some (.inl (a2)), some (.inl (a3))], [.inl ((1 : Int32)), .inr (.inr (.inl (some (204))))], 0, 0, ix_mem 276 I1 J1 T1)) rfl trivial ?_
        refine ix_sp rfl ⟨rfl, ⟨ix_lt rfl, ix_eq rfl, ix_lt rfl⟩, ix_le rfl, Nat.le_refl _, Nat.le_refl _, tp_X12_is h11 (fun v38 I38 J38 T38 h38 => ?_)⟩
        change ix_W _ _ _ (48, [some (.inr (.inr (.inl (some (204))))), some (.inl (a0)), some (.inl (a1)), some (.inl (a2)), some (.inl (a3))], [.inl (v38)], 0, 0, ix_mem 276 I38 J38 T38)
        exact ix_sp rfl ⟨Nat.le_refl _, Nat.le_refl _, ix_01_ok h38.1, hQ _ _ _ _ h38.2⟩
def wb_X12_find_17 (x1 : Int32) (x2 : Int32) (x3 : Int32) (I : Nat → Nat → Int32) (J : Nat → Nat → Int64) (T : Option Nat) (V17 : Int32 → Int32 → Int32 → (Nat → Nat → Int32) → (Nat → Nat → Int64) → Option Nat → Prop) (P : (Nat → Nat → Int32) → (Nat → Nat → Int64) → Option Nat → Prop) : Prop := ((x3 < I 204 82 → ix_inb (x3) 150 = true ∧ ((I 263 (x3).toNatClampNeg = x1 → ix_inb (x3) 150 = true ∧ ((I 266 (x3).toNatClampNeg ≤ x2 → ix_inb (x3) 150 = true ∧ ((I 264 (x3).toNatClampNeg < I 204 95 → V17 (x1) (x2) (x3 + (1 : Int32)) I J T) ∧ (¬ (I 264 (x3).toNatClampNeg < I 204 95) → ix_inb (x3) 150 = true ∧ ix_inb (x3) 150 = true ∧ V17 (x1) (x2) (x3 + (1 : Int32)) (ix_u2 (ix_u2 I 204 95 (I 264 (x3).toNatClampNeg)) 204 96 (I 265 (x3).toNatClampNeg)) J T))) ∧ (¬ (I 266 (x3).toNatClampNeg ≤ x2) → V17 (x1) (x2) (x3 + (1 : Int32)) I J T))) ∧ (¬ (I 263 (x3).toNatClampNeg = x1) → V17 (x1) (x2) (x3 + (1 : Int32)) I J T))) ∧ (¬ (x3 < I 204 82) → P I J T))
def wl_X12_find_17 (x1 : Int32) (x2 : Int32) (x3 : Int32) (I : Nat → Nat → Int32) (J : Nat → Nat → Int64) (T : Option Nat) (P : (Nat → Nat → Int32) → (Nat → Nat → Int64) → Option Nat → Prop) : Prop := ∀ V : Int32 → Int32 → Int32 → (Nat → Nat → Int32) → (Nat → Nat → Int64) → Option Nat → Prop, (∀ (x1 : Int32) (x2 : Int32) (x3 : Int32) (I : Nat → Nat → Int32) (J : Nat → Nat → Int64) (T : Option Nat), wb_X12_find_17 x1 x2 x3 I J T V P → V x1 x2 x3 I J T) → V x1 x2 x3 I J T
set_option maxRecDepth 20000 in
theorem tl_X12_find_17 {d : Nat} {x1 : Int32} {x2 : Int32} {x3 : Int32} {I : Nat → Nat → Int32} {J : Nat → Nat → Int64} {T : Option Nat} {P : (Nat → Nat → Int32) → (Nat → Nat → Int64) → Option Nat → Prop} {Q : ix_Q} (h : wl_X12_find_17 x1 x2 x3 I J T P) (hQ : ∀ I J T, P I J T → Q none (ix_mem 276 I J T)) : ix_W (ix_C d) (12, ix_lk ix_l324, none, 0, 0, Nat.blt 0 0, none) Q (17, [some (.inr (.inr (.inl (some (204))))), some (.inl (x1)), some (.inl (x2)), some (.inl (x3))], [], 0, 0, ix_mem 276 I J T) := by
  refine h (fun x1 x2 x3 I J T => ix_W (ix_C d) (12, ix_lk ix_l324, none, 0, 0, Nat.blt 0 0, none) Q (17, [some (.inr (.inr (.inl (some (204))))), some (.inl (x1)), some (.inl (x2)), some (.inl (x3))], [], 0, 0, ix_mem 276 I J T)) ?_
  intro x1 x2 x3 I J T hb
  unfold wb_X12_find_17 at hb
  refine ix_go 4 (x' := (if x3 < I 204 82 then 25 else 87, [some (.inr (.inr (.inl (some (204))))), some (.inl (x1)), some (.inl (x2)), some (.inl (x3))], [], 0, 0, ix_mem 276 I J T)) rfl ⟨rfl, rfl⟩ ?_
  refine ix_br (fun c3 => ?_) (fun c3 => ?_)
  · have h4 := hb.1 c3
    obtain ⟨p5, h6⟩ := h4
    refine ix_go 6 (x' := (if I 263 (x3).toNatClampNeg = x1 then 35 else 81, [some (.inr (.inr (.inl (some (204))))), some (.inl (x1)), some (.inl (x2)), some (.inl (x3))], [], 0, 0, ix_mem 276 I J T)) rfl ⟨rfl, rfl, rfl, rfl, p5⟩ ?_
    refine ix_br (fun c7 => ?_) (fun c7 => ?_)
    · have h8 := h6.1 c7
      obtain ⟨p9, h10⟩ := h8
      refine ix_go 6 (x' := (if I 266 (x3).toNatClampNeg ≤ x2 then 45 else 81, [some (.inr (.inr (.inl (some (204))))), some (.inl (x1)), some (.inl (x2)), some (.inl (x3))], [], 0, 0, ix_mem 276 I J T)) rfl ⟨rfl, rfl, rfl, rfl, p9⟩ ?_
      refine ix_br (fun c11 => ?_) (fun c11 => ?_)
      · have h12 := h10.1 c11
        obtain ⟨p13, h14⟩ := h12
        refine ix_go 7 (x' := (if I 264 (x3).toNatClampNeg < I 204 95 then 58 else 61, [some (.inr (.inr (.inl (some (204))))), some (.inl (x1)), some (.inl (x2)), some (.inl (x3))], [], 0, 0, ix_mem 276 I J T)) rfl ⟨rfl, rfl, rfl, rfl, p13, rfl, rfl⟩ ?_
        refine ix_br (fun c15 => ?_) (fun c15 => ?_)
        · have h16 := h14.1 c15
          refine ix_go 3 (x' := (17, [some (.inr (.inr (.inl (some (204))))), some (.inl (x1)), some (.inl (x2)), some (.inl (x3 + (1 : Int32)))], [], 0, 0, ix_mem 276 I J T)) rfl trivial ?_
          refine ix_subW ([some (.inr (.inr (.inl (some (204))))), some (.inl (x1)), some (.inl (x2)), some (.inl (x3 + (1 : Int32)))]) (ix_subS (ix_subS (ix_subS (ix_subS (ix_sub0))))) ?_
          exact h16
        · have h16 := h14.2 c15
          obtain ⟨p17, h18⟩ := h16
          refine ix_go 7 (x' := (72, [some (.inr (.inr (.inl (some (204))))), some (.inl (x1)), some (.inl (x2)), some (.inl (x3))], [.inr (.inr (.inl (some (204))))], 0, 0, ix_mem 276 (ix_u2 I 204 95 (I 264 (x3).toNatClampNeg)) J T)) rfl ⟨rfl, rfl, rfl, rfl, p17, rfl, rfl⟩ ?_
          obtain ⟨p19, h20⟩ := h18
          refine ix_go 7 (x' := (17, [some (.inr (.inr (.inl (some (204))))), some (.inl (x1)), some (.inl (x2)), some (.inl (x3 + (1 : Int32)))], [], 0, 0, ix_mem 276 (ix_u2 (ix_u2 I 204 95 (I 264 (x3).toNatClampNeg)) 204 96 (I 265 (x3).toNatClampNeg)) J T)) rfl ⟨rfl, rfl, rfl, rfl, p19, rfl, rfl⟩ ?_
          refine ix_subW ([some (.inr (.inr (.inl (some (204))))), some (.inl (x1)), some (.inl (x2)), some (.inl (x3 + (1 : Int32)))]) (ix_subS (ix_subS (ix_subS (ix_subS (ix_sub0))))) ?_
          exact h20
      · have h12 := h10.2 c11
        refine ix_go 2 (x' := (17, [some (.inr (.inr (.inl (some (204))))), some (.inl (x1)), some (.inl (x2)), some (.inl (x3 + (1 : Int32)))], [], 0, 0, ix_mem 276 I J T)) rfl trivial ?_
        refine ix_subW ([some (.inr (.inr (.inl (some (204))))), some (.inl (x1)), some (.inl (x2)), some (.inl (x3 + (1 : Int32)))]) (ix_subS (ix_subS (ix_subS (ix_subS (ix_sub0))))) ?_
        exact h12
    · have h8 := h6.2 c7
      refine ix_go 2 (x' := (17, [some (.inr (.inr (.inl (some (204))))), some (.inl (x1)), some (.inl (x2)), some (.inl (x3 + (1 : Int32)))], [], 0, 0, ix_mem 276 I J T)) rfl trivial ?_
      refine ix_subW ([some (.inr (.inr (.inl (some (204))))), some (.inl (x1)), some (.inl (x2)), some (.inl (x3 + (1 : Int32)))]) (ix_subS (ix_subS (ix_subS (ix_subS (ix_sub0))))) ?_
      exact h8
  · have h4 := hb.2 c3
    exact ix_sp rfl ⟨Nat.le_refl _, Nat.le_refl _, rfl, hQ _ _ _ h4⟩
def wp_X12_find (a0 : Int32) (a1 : Int32) (I : Nat → Nat → Int32) (J : Nat → Nat → Int64) (T : Option Nat) (P : (Nat → Nat → Int32) → (Nat → Nat → Int64) → Option Nat → Prop) : Prop := ix_inb (a0) 30 = true ∧ wl_X12_find_17 (a0) (a1) ((0 : Int32)) (ix_u2 (ix_u2 I 204 95 ((0 : Int32))) 204 96 (I 261 (a0).toNatClampNeg)) J T P
set_option maxRecDepth 20000 in
theorem tp_X12_find {d : Nat} {a0 : Int32} {a1 : Int32} {I : Nat → Nat → Int32} {J : Nat → Nat → Int64} {T : Option Nat} {P : (Nat → Nat → Int32) → (Nat → Nat → Int64) → Option Nat → Prop} {Q : ix_Q} (h : wp_X12_find a0 a1 I J T P) (hQ : ∀ I J T, P I J T → Q none (ix_mem 276 I J T)) : ix_C (d + 1) 324 [.inr (.inr (.inl (some (204)))), .inl (a0), .inl (a1)] (ix_mem 276 I J T) Q := by
  unfold wp_X12_find at h
  refine ix_enter (ls := [some (.inr (.inr (.inl (some (204))))), some (.inl (a0)), some (.inl (a1)), none]) rfl rfl rfl (Nat.le_of_ble_eq_true rfl) ?_
  refine ix_go 7 (x' := (11, [some (.inr (.inr (.inl (some (204))))), some (.inl (a0)), some (.inl (a1)), none], [.inl (a0), .inr (.inr (.inl (some (261)))), .inr (.inr (.inl (some (204))))], 0, 0, ix_mem 276 (ix_u2 I 204 95 ((0 : Int32))) J T)) rfl ⟨rfl, rfl, rfl, rfl⟩ ?_
  obtain ⟨p1, h2⟩ := h
  refine ix_go 4 (x' := (17, [some (.inr (.inr (.inl (some (204))))), some (.inl (a0)), some (.inl (a1)), some (.inl ((0 : Int32)))], [], 0, 0, ix_mem 276 (ix_u2 (ix_u2 I 204 95 ((0 : Int32))) 204 96 (I 261 (a0).toNatClampNeg)) J T)) rfl ⟨rfl, rfl, p1, rfl, rfl⟩ ?_
  refine ix_subW ([some (.inr (.inr (.inl (some (204))))), some (.inl (a0)), some (.inl (a1)), some (.inl ((0 : Int32)))]) (ix_subS (ix_subS (ix_subS (ix_subS (ix_sub0))))) ?_
  exact tl_X12_find_17 h2 hQ
def wp_X12_where (a0 : Int32) (a1 : Int32) (I : Nat → Nat → Int32) (J : Nat → Nat → Int64) (T : Option Nat) (P : Int32 → (Nat → Nat → Int32) → (Nat → Nat → Int64) → Option Nat → Prop) : Prop := wp_X12_isBag (a0) I J T (fun v1 I1 J1 T1 => ((v1 = 0 → wp_X12_refuse ((1 : Int32)) I1 J1 T1 (fun v4 I4 J4 T4 => P (v4) I4 J4 T4)) ∧ (¬ (v1 = 0) → wp_X12_isDay (a1) I1 J1 T1 (fun v5 I5 J5 T5 => ((v5 = 0 → wp_X12_refuse ((1 : Int32)) I5 J5 T5 (fun v8 I8 J8 T8 => P (v8) I8 J8 T8)) ∧ (¬ (v5 = 0) → wp_X12_find (a0) (a1) I5 J5 T5 (fun I9 J9 T9 => ix_inb ((((5 : Int32)) * (a0)) + (I9 204 95)) 150 = true ∧ wp_X12_gives (I9 262 ((((5 : Int32)) * (a0)) + (I9 204 95)).toNatClampNeg) I9 J9 T9 (fun v12 I12 J12 T12 => P (v12) I12 J12 T12))))))))
set_option maxRecDepth 20000 in
theorem tp_X12_where {d : Nat} {a0 : Int32} {a1 : Int32} {I : Nat → Nat → Int32} {J : Nat → Nat → Int64} {T : Option Nat} {P : Int32 → (Nat → Nat → Int32) → (Nat → Nat → Int64) → Option Nat → Prop} {Q : ix_Q} (h : wp_X12_where a0 a1 I J T P) (hQ : ∀ v I J T, P v I J T → Q (some (.inl v)) (ix_mem 276 I J T)) : ix_C (d + 2) 325 [.inr (.inr (.inl (some (204)))), .inl (a0), .inl (a1)] (ix_mem 276 I J T) Q := by
  unfold wp_X12_where at h
  refine ix_enter (ls := [some (.inr (.inr (.inl (some (204))))), some (.inl (a0)), some (.inl (a1))]) rfl rfl rfl (Nat.le_of_ble_eq_true rfl) ?_
  refine ix_go 2 (x' := (2, [some (.inr (.inr (.inl (some (204))))), some (.inl (a0)), some (.inl (a1))], [.inl (a0), .inr (.inr (.inl (some (204))))], 0, 0, ix_mem 276 I J T)) rfl trivial ?_
  refine ix_sp rfl ⟨rfl, ⟨ix_lt rfl, ix_eq rfl, ix_lt rfl⟩, ix_le rfl, Nat.le_refl _, Nat.le_refl _, tp_X12_isBag h (fun v1 I1 J1 T1 h1 => ?_)⟩
  change ix_W _ _ _ (5, [some (.inr (.inr (.inl (some (204))))), some (.inl (a0)), some (.inl (a1))], [.inl (v1)], 0, 0, ix_mem 276 I1 J1 T1)
  refine ix_go 1 (x' := (if v1 = 0 then 15 else 8, [some (.inr (.inr (.inl (some (204))))), some (.inl (a0)), some (.inl (a1))], [], 0, 0, ix_mem 276 I1 J1 T1)) rfl trivial ?_
  refine ix_br (fun c2 => ?_) (fun c2 => ?_)
  · have h3 := h1.1 c2
    refine ix_go 2 (x' := (17, [some (.inr (.inr (.inl (some (204))))), some (.inl (a0)), some (.inl (a1))], [.inl ((1 : Int32)), .inr (.inr (.inl (some (204))))], 0, 0, ix_mem 276 I1 J1 T1)) rfl trivial ?_
    refine ix_sp rfl ⟨rfl, ⟨ix_lt rfl, ix_eq rfl, ix_lt rfl⟩, ix_le rfl, Nat.le_refl _, Nat.le_refl _, tp_X12_refuse h3 (fun v4 I4 J4 T4 h4 => ?_)⟩
    change ix_W _ _ _ (20, [some (.inr (.inr (.inl (some (204))))), some (.inl (a0)), some (.inl (a1))], [.inl (v4)], 0, 0, ix_mem 276 I4 J4 T4)
    exact ix_sp rfl ⟨Nat.le_refl _, Nat.le_refl _, trivial, hQ _ _ _ _ h4⟩
  · have h3 := h1.2 c2
    refine ix_go 1 (x' := (9, [some (.inr (.inr (.inl (some (204))))), some (.inl (a0)), some (.inl (a1))], [.inl (a1)], 0, 0, ix_mem 276 I1 J1 T1)) rfl trivial ?_
    refine ix_sp rfl ⟨rfl, trivial, ix_le rfl, Nat.le_refl _, Nat.le_refl _, tp_X12_isDay h3 (fun v5 I5 J5 T5 h5 => ?_)⟩
    change ix_W _ _ _ (12, [some (.inr (.inr (.inl (some (204))))), some (.inl (a0)), some (.inl (a1))], [.inl (v5)], 0, 0, ix_mem 276 I5 J5 T5)
    refine ix_go 1 (x' := (if v5 = 0 then 15 else 21, [some (.inr (.inr (.inl (some (204))))), some (.inl (a0)), some (.inl (a1))], [], 0, 0, ix_mem 276 I5 J5 T5)) rfl trivial ?_
    refine ix_br (fun c6 => ?_) (fun c6 => ?_)
    · have h7 := h5.1 c6
      refine ix_go 2 (x' := (17, [some (.inr (.inr (.inl (some (204))))), some (.inl (a0)), some (.inl (a1))], [.inl ((1 : Int32)), .inr (.inr (.inl (some (204))))], 0, 0, ix_mem 276 I5 J5 T5)) rfl trivial ?_
      refine ix_sp rfl ⟨rfl, ⟨ix_lt rfl, ix_eq rfl, ix_lt rfl⟩, ix_le rfl, Nat.le_refl _, Nat.le_refl _, tp_X12_refuse h7 (fun v8 I8 J8 T8 h8 => ?_)⟩
      change ix_W _ _ _ (20, [some (.inr (.inr (.inl (some (204))))), some (.inl (a0)), some (.inl (a1))], [.inl (v8)], 0, 0, ix_mem 276 I8 J8 T8)
      exact ix_sp rfl ⟨Nat.le_refl _, Nat.le_refl _, trivial, hQ _ _ _ _ h8⟩
    · have h7 := h5.2 c6
      refine ix_go 3 (x' := (24, [some (.inr (.inr (.inl (some (204))))), some (.inl (a0)), some (.inl (a1))], [.inl (a1), .inl (a0), .inr (.inr (.inl (some (204))))], 0, 0, ix_mem 276 I5 J5 T5)) rfl trivial ?_
      refine ix_sp rfl ⟨rfl, ⟨ix_lt rfl, ix_eq rfl, ix_lt rfl⟩, ix_le rfl, Nat.le_refl _, Nat.le_refl _, tp_X12_find h7 (fun I9 J9 T9 h9 => ?_)⟩
      change ix_W _ _ _ (27, [some (.inr (.inr (.inl (some (204))))), some (.inl (a0)), some (.inl (a1))], [], 0, 0, ix_mem 276 I9 J9 T9)
      refine ix_go 7 (x' := (36, [some (.inr (.inr (.inl (some (204))))), some (.inl (a0)), some (.inl (a1))], [.inr (.inr (.inl (some (204)))), .inl (((5 : Int32)) * (a0)), .inr (.inr (.inl (some (262)))), .inr (.inr (.inl (some (204))))], 0, 0, ix_mem 276 I9 J9 T9)) rfl ⟨rfl, rfl⟩ ?_
      obtain ⟨p10, h11⟩ := h9
      refine ix_go 3 (x' := (41, [some (.inr (.inr (.inl (some (204))))), some (.inl (a0)), some (.inl (a1))], [.inl (I9 262 ((((5 : Int32)) * (a0)) + (I9 204 95)).toNatClampNeg), .inr (.inr (.inl (some (204))))], 0, 0, ix_mem 276 I9 J9 T9)) rfl ⟨rfl, rfl, rfl, rfl, p10⟩ ?_
      refine ix_sp rfl ⟨rfl, ⟨ix_lt rfl, ix_eq rfl, ix_lt rfl⟩, ix_le rfl, Nat.le_refl _, Nat.le_refl _, tp_X12_gives h11 (fun v12 I12 J12 T12 h12 => ?_)⟩
      change ix_W _ _ _ (44, [some (.inr (.inr (.inl (some (204))))), some (.inl (a0)), some (.inl (a1))], [.inl (v12)], 0, 0, ix_mem 276 I12 J12 T12)
      exact ix_sp rfl ⟨Nat.le_refl _, Nat.le_refl _, trivial, hQ _ _ _ _ h12⟩
def wp_X12_lateOf (a0 : Int32) (a1 : Int32) (a2 : Int32) (I : Nat → Nat → Int32) (J : Nat → Nat → Int64) (T : Option Nat) (P : Int32 → (Nat → Nat → Int32) → (Nat → Nat → Int64) → Option Nat → Prop) : Prop := wp_X12_find (a0) (a2) I J T (fun I1 J1 T1 => ix_inb (a0) 30 = true ∧ ((I1 204 95 = (I1 260 (a0).toNatClampNeg) - ((1 : Int32)) → P ((0 : Int32)) I1 J1 T1) ∧ (¬ (I1 204 95 = (I1 260 (a0).toNatClampNeg) - ((1 : Int32))) → ix_inb ((((5 : Int32)) * (a0)) + (I1 204 95)) 150 = true ∧ ix_inb (((((5 : Int32)) * (a0)) + (I1 204 95)) + ((1 : Int32))) 150 = true ∧ wp_X12_pair (I1 262 ((((5 : Int32)) * (a0)) + (I1 204 95)).toNatClampNeg) (I1 262 (((((5 : Int32)) * (a0)) + (I1 204 95)) + ((1 : Int32))).toNatClampNeg) I1 J1 T1 (fun v10 I10 J10 T10 => ix_inb (v10) 49 = true ∧ ((I10 211 (v10).toNatClampNeg = 0 → (((((a1) - (I10 204 96)) - ((60 : Int32))) - (I10 204 84) ≤ I10 204 85 → (((((a1) - (I10 204 96)) - ((60 : Int32))) - (I10 204 84) ≤ 0 → P ((0 : Int32)) I10 J10 T10) ∧ (¬ ((((a1) - (I10 204 96)) - ((60 : Int32))) - (I10 204 84) ≤ 0) → P ((1 : Int32)) I10 J10 T10))) ∧ (¬ ((((a1) - (I10 204 96)) - ((60 : Int32))) - (I10 204 84) ≤ I10 204 85) → P ((2 : Int32)) I10 J10 T10))) ∧ (¬ (I10 211 (v10).toNatClampNeg = 0) → (((((a1) - (I10 204 96)) - (I10 211 (v10).toNatClampNeg)) - (I10 204 84) ≤ I10 204 85 → (((((a1) - (I10 204 96)) - (I10 211 (v10).toNatClampNeg)) - (I10 204 84) ≤ 0 → P ((0 : Int32)) I10 J10 T10) ∧ (¬ ((((a1) - (I10 204 96)) - (I10 211 (v10).toNatClampNeg)) - (I10 204 84) ≤ 0) → P ((1 : Int32)) I10 J10 T10))) ∧ (¬ ((((a1) - (I10 204 96)) - (I10 211 (v10).toNatClampNeg)) - (I10 204 84) ≤ I10 204 85) → P ((2 : Int32)) I10 J10 T10))))))))
set_option maxRecDepth 20000 in
theorem tp_X12_lateOf {d : Nat} {a0 : Int32} {a1 : Int32} {a2 : Int32} {I : Nat → Nat → Int32} {J : Nat → Nat → Int64} {T : Option Nat} {P : Int32 → (Nat → Nat → Int32) → (Nat → Nat → Int64) → Option Nat → Prop} {Q : ix_Q} (h : wp_X12_lateOf a0 a1 a2 I J T P) (hQ : ∀ v I J T, P v I J T → Q (some (.inl v)) (ix_mem 276 I J T)) : ix_C (d + 2) 326 [.inr (.inr (.inl (some (204)))), .inl (a0), .inl (a1), .inl (a2)] (ix_mem 276 I J T) Q := by
  unfold wp_X12_lateOf at h
  refine ix_enter (ls := [some (.inr (.inr (.inl (some (204))))), some (.inl (a0)), some (.inl (a1)), some (.inl (a2)), none, none]) rfl rfl rfl (Nat.le_of_ble_eq_true rfl) ?_
  refine ix_go 3 (x' := (3, [some (.inr (.inr (.inl (some (204))))), some (.inl (a0)), some (.inl (a1)), some (.inl (a2)), none, none], [.inl (a2), .inl (a0), .inr (.inr (.inl (some (204))))], 0, 0, ix_mem 276 I J T)) rfl trivial ?_
  refine ix_sp rfl ⟨rfl, ⟨ix_lt rfl, ix_eq rfl, ix_lt rfl⟩, ix_le rfl, Nat.le_refl _, Nat.le_refl _, tp_X12_find h (fun I1 J1 T1 h1 => ?_)⟩
  change ix_W _ _ _ (6, [some (.inr (.inr (.inl (some (204))))), some (.inl (a0)), some (.inl (a1)), some (.inl (a2)), none, none], [], 0, 0, ix_mem 276 I1 J1 T1)
  obtain ⟨p2, h3⟩ := h1
  refine ix_go 7 (x' := (17, [some (.inr (.inr (.inl (some (204))))), some (.inl (a0)), some (.inl (a1)), some (.inl (a2)), none, none], [.inl ((1 : Int32)), .inl (I1 260 (a0).toNatClampNeg), .inl (I1 204 95)], 0, 0, ix_mem 276 I1 J1 T1)) rfl ⟨rfl, rfl, rfl, rfl, rfl, rfl, p2⟩ ?_
  refine ix_go 2 (x' := (if I1 204 95 = (I1 260 (a0).toNatClampNeg) - ((1 : Int32)) then 21 else 23, [some (.inr (.inr (.inl (some (204))))), some (.inl (a0)), some (.inl (a1)), some (.inl (a2)), none, none], [], 0, 0, ix_mem 276 I1 J1 T1)) rfl trivial ?_
  refine ix_br (fun c4 => ?_) (fun c4 => ?_)
  · have h5 := h3.1 c4
    refine ix_go 1 (x' := (22, [some (.inr (.inr (.inl (some (204))))), some (.inl (a0)), some (.inl (a1)), some (.inl (a2)), none, none], [.inl ((0 : Int32))], 0, 0, ix_mem 276 I1 J1 T1)) rfl trivial ?_
    exact ix_sp rfl ⟨Nat.le_refl _, Nat.le_refl _, trivial, hQ _ _ _ _ h5⟩
  · have h5 := h3.2 c4
    refine ix_go 7 (x' := (34, [some (.inr (.inr (.inl (some (204))))), some (.inl (a0)), some (.inl (a1)), some (.inl (a2)), none, none], [.inl (((5 : Int32)) * (a0)), .inr (.inr (.inl (some (262)))), .inr (.inr (.inl (some (211))))], 0, 0, ix_mem 276 I1 J1 T1)) rfl ⟨rfl, rfl, rfl, rfl⟩ ?_
    obtain ⟨p6, h7⟩ := h5
    refine ix_go 7 (x' := (45, [some (.inr (.inr (.inl (some (204))))), some (.inl (a0)), some (.inl (a1)), some (.inl (a2)), none, none], [.inl ((5 : Int32)), .inr (.inr (.inl (some (262)))), .inl (I1 262 ((((5 : Int32)) * (a0)) + (I1 204 95)).toNatClampNeg), .inr (.inr (.inl (some (211))))], 0, 0, ix_mem 276 I1 J1 T1)) rfl ⟨rfl, rfl, rfl, rfl, p6, rfl, rfl⟩ ?_
    refine ix_go 7 (x' := (54, [some (.inr (.inr (.inl (some (204))))), some (.inl (a0)), some (.inl (a1)), some (.inl (a2)), none, none], [.inl (((((5 : Int32)) * (a0)) + (I1 204 95)) + ((1 : Int32))), .inr (.inr (.inl (some (262)))), .inl (I1 262 ((((5 : Int32)) * (a0)) + (I1 204 95)).toNatClampNeg), .inr (.inr (.inl (some (211))))], 0, 0, ix_mem 276 I1 J1 T1)) rfl ⟨rfl, rfl⟩ ?_
    obtain ⟨p8, h9⟩ := h7
    refine ix_go 1 (x' := (55, [some (.inr (.inr (.inl (some (204))))), some (.inl (a0)), some (.inl (a1)), some (.inl (a2)), none, none], [.inl (I1 262 (((((5 : Int32)) * (a0)) + (I1 204 95)) + ((1 : Int32))).toNatClampNeg), .inl (I1 262 ((((5 : Int32)) * (a0)) + (I1 204 95)).toNatClampNeg), .inr (.inr (.inl (some (211))))], 0, 0, ix_mem 276 I1 J1 T1)) rfl ⟨rfl, rfl, p8⟩ ?_
    refine ix_sp rfl ⟨rfl, trivial, ix_le rfl, Nat.le_refl _, Nat.le_refl _, tp_X12_pair h9 (fun v10 I10 J10 T10 h10 => ?_)⟩
    change ix_W _ _ _ (58, [some (.inr (.inr (.inl (some (204))))), some (.inl (a0)), some (.inl (a1)), some (.inl (a2)), none, none], [.inl (v10), .inr (.inr (.inl (some (211))))], 0, 0, ix_mem 276 I10 J10 T10)
    obtain ⟨p11, h12⟩ := h10
    refine ix_go 7 (x' := (69, [some (.inr (.inr (.inl (some (204))))), some (.inl (a0)), some (.inl (a1)), some (.inl (a2)), some (.inl (I10 211 (v10).toNatClampNeg)), none], [.inl (I10 211 (v10).toNatClampNeg), .inl ((a1) - (I10 204 96))], 0, 0, ix_mem 276 I10 J10 T10)) rfl ⟨rfl, rfl, p11, rfl, rfl⟩ ?_
    refine ix_go 1 (x' := (if I10 211 (v10).toNatClampNeg = 0 then 72 else 77, [some (.inr (.inr (.inl (some (204))))), some (.inl (a0)), some (.inl (a1)), some (.inl (a2)), some (.inl (I10 211 (v10).toNatClampNeg)), none], [.inl ((a1) - (I10 204 96))], 0, 0, ix_mem 276 I10 J10 T10)) rfl trivial ?_
    refine ix_br (fun c13 => ?_) (fun c13 => ?_)
    · have h14 := h12.1 c13
      refine ix_go 7 (x' := (87, [some (.inr (.inr (.inl (some (204))))), some (.inl (a0)), some (.inl (a1)), some (.inl (a2)), some (.inl (I10 211 (v10).toNatClampNeg)), some (.inl ((((a1) - (I10 204 96)) - ((60 : Int32))) - (I10 204 84)))], [], 0, 0, ix_mem 276 I10 J10 T10)) rfl ⟨rfl, rfl⟩ ?_
      refine ix_go 4 (x' := (if (((a1) - (I10 204 96)) - ((60 : Int32))) - (I10 204 84) ≤ I10 204 85 then 100 else 96, [some (.inr (.inr (.inl (some (204))))), some (.inl (a0)), some (.inl (a1)), some (.inl (a2)), some (.inl (I10 211 (v10).toNatClampNeg)), some (.inl ((((a1) - (I10 204 96)) - ((60 : Int32))) - (I10 204 84)))], [], 0, 0, ix_mem 276 I10 J10 T10)) rfl ⟨rfl, rfl⟩ ?_
      refine ix_br (fun c15 => ?_) (fun c15 => ?_)
      · have h16 := h14.1 c15
        refine ix_go 2 (x' := (if (((a1) - (I10 204 96)) - ((60 : Int32))) - (I10 204 84) ≤ 0 then 109 else 105, [some (.inr (.inr (.inl (some (204))))), some (.inl (a0)), some (.inl (a1)), some (.inl (a2)), some (.inl (I10 211 (v10).toNatClampNeg)), some (.inl ((((a1) - (I10 204 96)) - ((60 : Int32))) - (I10 204 84)))], [], 0, 0, ix_mem 276 I10 J10 T10)) rfl trivial ?_
        refine ix_br (fun c17 => ?_) (fun c17 => ?_)
        · have h18 := h16.1 c17
          refine ix_go 1 (x' := (110, [some (.inr (.inr (.inl (some (204))))), some (.inl (a0)), some (.inl (a1)), some (.inl (a2)), some (.inl (I10 211 (v10).toNatClampNeg)), some (.inl ((((a1) - (I10 204 96)) - ((60 : Int32))) - (I10 204 84)))], [.inl ((0 : Int32))], 0, 0, ix_mem 276 I10 J10 T10)) rfl trivial ?_
          exact ix_sp rfl ⟨Nat.le_refl _, Nat.le_refl _, trivial, hQ _ _ _ _ h18⟩
        · have h18 := h16.2 c17
          refine ix_go 2 (x' := (110, [some (.inr (.inr (.inl (some (204))))), some (.inl (a0)), some (.inl (a1)), some (.inl (a2)), some (.inl (I10 211 (v10).toNatClampNeg)), some (.inl ((((a1) - (I10 204 96)) - ((60 : Int32))) - (I10 204 84)))], [.inl ((1 : Int32))], 0, 0, ix_mem 276 I10 J10 T10)) rfl trivial ?_
          exact ix_sp rfl ⟨Nat.le_refl _, Nat.le_refl _, trivial, hQ _ _ _ _ h18⟩
      · have h16 := h14.2 c15
        refine ix_go 2 (x' := (110, [some (.inr (.inr (.inl (some (204))))), some (.inl (a0)), some (.inl (a1)), some (.inl (a2)), some (.inl (I10 211 (v10).toNatClampNeg)), some (.inl ((((a1) - (I10 204 96)) - ((60 : Int32))) - (I10 204 84)))], [.inl ((2 : Int32))], 0, 0, ix_mem 276 I10 J10 T10)) rfl trivial ?_
        exact ix_sp rfl ⟨Nat.le_refl _, Nat.le_refl _, trivial, hQ _ _ _ _ h16⟩
    · have h14 := h12.2 c13
      refine ix_go 7 (x' := (89, [some (.inr (.inr (.inl (some (204))))), some (.inl (a0)), some (.inl (a1)), some (.inl (a2)), some (.inl (I10 211 (v10).toNatClampNeg)), some (.inl ((((a1) - (I10 204 96)) - (I10 211 (v10).toNatClampNeg)) - (I10 204 84)))], [.inl ((((a1) - (I10 204 96)) - (I10 211 (v10).toNatClampNeg)) - (I10 204 84))], 0, 0, ix_mem 276 I10 J10 T10)) rfl ⟨rfl, rfl⟩ ?_
      refine ix_go 3 (x' := (if (((a1) - (I10 204 96)) - (I10 211 (v10).toNatClampNeg)) - (I10 204 84) ≤ I10 204 85 then 100 else 96, [some (.inr (.inr (.inl (some (204))))), some (.inl (a0)), some (.inl (a1)), some (.inl (a2)), some (.inl (I10 211 (v10).toNatClampNeg)), some (.inl ((((a1) - (I10 204 96)) - (I10 211 (v10).toNatClampNeg)) - (I10 204 84)))], [], 0, 0, ix_mem 276 I10 J10 T10)) rfl ⟨rfl, rfl⟩ ?_
      refine ix_br (fun c19 => ?_) (fun c19 => ?_)
      · have h20 := h14.1 c19
        refine ix_go 2 (x' := (if (((a1) - (I10 204 96)) - (I10 211 (v10).toNatClampNeg)) - (I10 204 84) ≤ 0 then 109 else 105, [some (.inr (.inr (.inl (some (204))))), some (.inl (a0)), some (.inl (a1)), some (.inl (a2)), some (.inl (I10 211 (v10).toNatClampNeg)), some (.inl ((((a1) - (I10 204 96)) - (I10 211 (v10).toNatClampNeg)) - (I10 204 84)))], [], 0, 0, ix_mem 276 I10 J10 T10)) rfl trivial ?_
        refine ix_br (fun c21 => ?_) (fun c21 => ?_)
        · have h22 := h20.1 c21
          refine ix_go 1 (x' := (110, [some (.inr (.inr (.inl (some (204))))), some (.inl (a0)), some (.inl (a1)), some (.inl (a2)), some (.inl (I10 211 (v10).toNatClampNeg)), some (.inl ((((a1) - (I10 204 96)) - (I10 211 (v10).toNatClampNeg)) - (I10 204 84)))], [.inl ((0 : Int32))], 0, 0, ix_mem 276 I10 J10 T10)) rfl trivial ?_
          exact ix_sp rfl ⟨Nat.le_refl _, Nat.le_refl _, trivial, hQ _ _ _ _ h22⟩
        · have h22 := h20.2 c21
          refine ix_go 2 (x' := (110, [some (.inr (.inr (.inl (some (204))))), some (.inl (a0)), some (.inl (a1)), some (.inl (a2)), some (.inl (I10 211 (v10).toNatClampNeg)), some (.inl ((((a1) - (I10 204 96)) - (I10 211 (v10).toNatClampNeg)) - (I10 204 84)))], [.inl ((1 : Int32))], 0, 0, ix_mem 276 I10 J10 T10)) rfl trivial ?_
          exact ix_sp rfl ⟨Nat.le_refl _, Nat.le_refl _, trivial, hQ _ _ _ _ h22⟩
      · have h20 := h14.2 c19
        refine ix_go 2 (x' := (110, [some (.inr (.inr (.inl (some (204))))), some (.inl (a0)), some (.inl (a1)), some (.inl (a2)), some (.inl (I10 211 (v10).toNatClampNeg)), some (.inl ((((a1) - (I10 204 96)) - (I10 211 (v10).toNatClampNeg)) - (I10 204 84)))], [.inl ((2 : Int32))], 0, 0, ix_mem 276 I10 J10 T10)) rfl trivial ?_
        exact ix_sp rfl ⟨Nat.le_refl _, Nat.le_refl _, trivial, hQ _ _ _ _ h20⟩
def wp_X12_late (a0 : Int32) (a1 : Int32) (a2 : Int32) (I : Nat → Nat → Int32) (J : Nat → Nat → Int64) (T : Option Nat) (P : Int32 → (Nat → Nat → Int32) → (Nat → Nat → Int64) → Option Nat → Prop) : Prop := wp_X12_isBag (a0) I J T (fun v1 I1 J1 T1 => ((v1 = 0 → wp_X12_refuse ((1 : Int32)) I1 J1 T1 (fun v4 I4 J4 T4 => P (v4) I4 J4 T4)) ∧ (¬ (v1 = 0) → wp_X12_isDay (a1) I1 J1 T1 (fun v5 I5 J5 T5 => ((v5 = 0 → wp_X12_refuse ((1 : Int32)) I5 J5 T5 (fun v8 I8 J8 T8 => P (v8) I8 J8 T8)) ∧ (¬ (v5 = 0) → wp_X12_isDay (a2) I5 J5 T5 (fun v9 I9 J9 T9 => ((v9 = 0 → wp_X12_refuse ((1 : Int32)) I9 J9 T9 (fun v12 I12 J12 T12 => P (v12) I12 J12 T12)) ∧ (¬ (v9 = 0) → ix_inb (a0) 30 = true ∧ ((a1 < I9 261 (a0).toNatClampNeg → wp_X12_refuse ((1 : Int32)) I9 J9 T9 (fun v17 I17 J17 T17 => P (v17) I17 J17 T17)) ∧ (¬ (a1 < I9 261 (a0).toNatClampNeg) → wp_X12_lateOf (a0) (a1) (a2) I9 J9 T9 (fun v18 I18 J18 T18 => wp_X12_gives (v18) I18 J18 T18 (fun v19 I19 J19 T19 => P (v19) I19 J19 T19)))))))))))))
set_option maxRecDepth 20000 in
theorem tp_X12_late {d : Nat} {a0 : Int32} {a1 : Int32} {a2 : Int32} {I : Nat → Nat → Int32} {J : Nat → Nat → Int64} {T : Option Nat} {P : Int32 → (Nat → Nat → Int32) → (Nat → Nat → Int64) → Option Nat → Prop} {Q : ix_Q} (h : wp_X12_late a0 a1 a2 I J T P) (hQ : ∀ v I J T, P v I J T → Q (some (.inl v)) (ix_mem 276 I J T)) : ix_C (d + 3) 327 [.inr (.inr (.inl (some (204)))), .inl (a0), .inl (a1), .inl (a2)] (ix_mem 276 I J T) Q := by
  unfold wp_X12_late at h
  refine ix_enter (ls := [some (.inr (.inr (.inl (some (204))))), some (.inl (a0)), some (.inl (a1)), some (.inl (a2))]) rfl rfl rfl (Nat.le_of_ble_eq_true rfl) ?_
  refine ix_go 2 (x' := (2, [some (.inr (.inr (.inl (some (204))))), some (.inl (a0)), some (.inl (a1)), some (.inl (a2))], [.inl (a0), .inr (.inr (.inl (some (204))))], 0, 0, ix_mem 276 I J T)) rfl trivial ?_
  refine ix_sp rfl ⟨rfl, ⟨ix_lt rfl, ix_eq rfl, ix_lt rfl⟩, ix_le rfl, Nat.le_refl _, Nat.le_refl _, tp_X12_isBag h (fun v1 I1 J1 T1 h1 => ?_)⟩
  change ix_W _ _ _ (5, [some (.inr (.inr (.inl (some (204))))), some (.inl (a0)), some (.inl (a1)), some (.inl (a2))], [.inl (v1)], 0, 0, ix_mem 276 I1 J1 T1)
  refine ix_go 1 (x' := (if v1 = 0 then 32 else 8, [some (.inr (.inr (.inl (some (204))))), some (.inl (a0)), some (.inl (a1)), some (.inl (a2))], [], 0, 0, ix_mem 276 I1 J1 T1)) rfl trivial ?_
  refine ix_br (fun c2 => ?_) (fun c2 => ?_)
  · have h3 := h1.1 c2
    refine ix_go 2 (x' := (34, [some (.inr (.inr (.inl (some (204))))), some (.inl (a0)), some (.inl (a1)), some (.inl (a2))], [.inl ((1 : Int32)), .inr (.inr (.inl (some (204))))], 0, 0, ix_mem 276 I1 J1 T1)) rfl trivial ?_
    refine ix_sp rfl ⟨rfl, ⟨ix_lt rfl, ix_eq rfl, ix_lt rfl⟩, ix_le rfl, Nat.le_refl _, Nat.le_refl _, tp_X12_refuse h3 (fun v4 I4 J4 T4 h4 => ?_)⟩
    change ix_W _ _ _ (37, [some (.inr (.inr (.inl (some (204))))), some (.inl (a0)), some (.inl (a1)), some (.inl (a2))], [.inl (v4)], 0, 0, ix_mem 276 I4 J4 T4)
    exact ix_sp rfl ⟨Nat.le_refl _, Nat.le_refl _, trivial, hQ _ _ _ _ h4⟩
  · have h3 := h1.2 c2
    refine ix_go 1 (x' := (9, [some (.inr (.inr (.inl (some (204))))), some (.inl (a0)), some (.inl (a1)), some (.inl (a2))], [.inl (a1)], 0, 0, ix_mem 276 I1 J1 T1)) rfl trivial ?_
    refine ix_sp rfl ⟨rfl, trivial, ix_le rfl, Nat.le_refl _, Nat.le_refl _, tp_X12_isDay h3 (fun v5 I5 J5 T5 h5 => ?_)⟩
    change ix_W _ _ _ (12, [some (.inr (.inr (.inl (some (204))))), some (.inl (a0)), some (.inl (a1)), some (.inl (a2))], [.inl (v5)], 0, 0, ix_mem 276 I5 J5 T5)
    refine ix_go 1 (x' := (if v5 = 0 then 32 else 15, [some (.inr (.inr (.inl (some (204))))), some (.inl (a0)), some (.inl (a1)), some (.inl (a2))], [], 0, 0, ix_mem 276 I5 J5 T5)) rfl trivial ?_
    refine ix_br (fun c6 => ?_) (fun c6 => ?_)
    · have h7 := h5.1 c6
      refine ix_go 2 (x' := (34, [some (.inr (.inr (.inl (some (204))))), some (.inl (a0)), some (.inl (a1)), some (.inl (a2))], [.inl ((1 : Int32)), .inr (.inr (.inl (some (204))))], 0, 0, ix_mem 276 I5 J5 T5)) rfl trivial ?_
      refine ix_sp rfl ⟨rfl, ⟨ix_lt rfl, ix_eq rfl, ix_lt rfl⟩, ix_le rfl, Nat.le_refl _, Nat.le_refl _, tp_X12_refuse h7 (fun v8 I8 J8 T8 h8 => ?_)⟩
      change ix_W _ _ _ (37, [some (.inr (.inr (.inl (some (204))))), some (.inl (a0)), some (.inl (a1)), some (.inl (a2))], [.inl (v8)], 0, 0, ix_mem 276 I8 J8 T8)
      exact ix_sp rfl ⟨Nat.le_refl _, Nat.le_refl _, trivial, hQ _ _ _ _ h8⟩
    · have h7 := h5.2 c6
      refine ix_go 1 (x' := (16, [some (.inr (.inr (.inl (some (204))))), some (.inl (a0)), some (.inl (a1)), some (.inl (a2))], [.inl (a2)], 0, 0, ix_mem 276 I5 J5 T5)) rfl trivial ?_
      refine ix_sp rfl ⟨rfl, trivial, ix_le rfl, Nat.le_refl _, Nat.le_refl _, tp_X12_isDay h7 (fun v9 I9 J9 T9 h9 => ?_)⟩
      change ix_W _ _ _ (19, [some (.inr (.inr (.inl (some (204))))), some (.inl (a0)), some (.inl (a1)), some (.inl (a2))], [.inl (v9)], 0, 0, ix_mem 276 I9 J9 T9)
      refine ix_go 1 (x' := (if v9 = 0 then 32 else 22, [some (.inr (.inr (.inl (some (204))))), some (.inl (a0)), some (.inl (a1)), some (.inl (a2))], [], 0, 0, ix_mem 276 I9 J9 T9)) rfl trivial ?_
      refine ix_br (fun c10 => ?_) (fun c10 => ?_)
      · have h11 := h9.1 c10
        refine ix_go 2 (x' := (34, [some (.inr (.inr (.inl (some (204))))), some (.inl (a0)), some (.inl (a1)), some (.inl (a2))], [.inl ((1 : Int32)), .inr (.inr (.inl (some (204))))], 0, 0, ix_mem 276 I9 J9 T9)) rfl trivial ?_
        refine ix_sp rfl ⟨rfl, ⟨ix_lt rfl, ix_eq rfl, ix_lt rfl⟩, ix_le rfl, Nat.le_refl _, Nat.le_refl _, tp_X12_refuse h11 (fun v12 I12 J12 T12 h12 => ?_)⟩
        change ix_W _ _ _ (37, [some (.inr (.inr (.inl (some (204))))), some (.inl (a0)), some (.inl (a1)), some (.inl (a2))], [.inl (v12)], 0, 0, ix_mem 276 I12 J12 T12)
        exact ix_sp rfl ⟨Nat.le_refl _, Nat.le_refl _, trivial, hQ _ _ _ _ h12⟩
      · have h11 := h9.2 c10
        obtain ⟨p13, h14⟩ := h11
        refine ix_go 6 (x' := (if a1 < I9 261 (a0).toNatClampNeg then 32 else 38, [some (.inr (.inr (.inl (some (204))))), some (.inl (a0)), some (.inl (a1)), some (.inl (a2))], [], 0, 0, ix_mem 276 I9 J9 T9)) rfl ⟨rfl, rfl, rfl, rfl, p13⟩ ?_
        refine ix_br (fun c15 => ?_) (fun c15 => ?_)
        · have h16 := h14.1 c15
          refine ix_go 2 (x' := (34, [some (.inr (.inr (.inl (some (204))))), some (.inl (a0)), some (.inl (a1)), some (.inl (a2))], [.inl ((1 : Int32)), .inr (.inr (.inl (some (204))))], 0, 0, ix_mem 276 I9 J9 T9)) rfl trivial ?_
          refine ix_sp rfl ⟨rfl, ⟨ix_lt rfl, ix_eq rfl, ix_lt rfl⟩, ix_le rfl, Nat.le_refl _, Nat.le_refl _, tp_X12_refuse h16 (fun v17 I17 J17 T17 h17 => ?_)⟩
          change ix_W _ _ _ (37, [some (.inr (.inr (.inl (some (204))))), some (.inl (a0)), some (.inl (a1)), some (.inl (a2))], [.inl (v17)], 0, 0, ix_mem 276 I17 J17 T17)
          exact ix_sp rfl ⟨Nat.le_refl _, Nat.le_refl _, trivial, hQ _ _ _ _ h17⟩
        · have h16 := h14.2 c15
          refine ix_go 5 (x' := (43, [some (.inr (.inr (.inl (some (204))))), some (.inl (a0)), some (.inl (a1)), some (.inl (a2))], [.inl (a2), .inl (a1), .inl (a0), .inr (.inr (.inl (some (204)))), .inr (.inr (.inl (some (204))))], 0, 0, ix_mem 276 I9 J9 T9)) rfl trivial ?_
          refine ix_sp rfl ⟨rfl, ⟨ix_lt rfl, ix_eq rfl, ix_lt rfl⟩, ix_le rfl, Nat.le_refl _, Nat.le_refl _, tp_X12_lateOf h16 (fun v18 I18 J18 T18 h18 => ?_)⟩
          change ix_W _ _ _ (46, [some (.inr (.inr (.inl (some (204))))), some (.inl (a0)), some (.inl (a1)), some (.inl (a2))], [.inl (v18), .inr (.inr (.inl (some (204))))], 0, 0, ix_mem 276 I18 J18 T18)
          refine ix_sp rfl ⟨rfl, ⟨ix_lt rfl, ix_eq rfl, ix_lt rfl⟩, ix_le rfl, Nat.le_refl _, Nat.le_refl _, tp_X12_gives h18 (fun v19 I19 J19 T19 h19 => ?_)⟩
          change ix_W _ _ _ (49, [some (.inr (.inr (.inl (some (204))))), some (.inl (a0)), some (.inl (a1)), some (.inl (a2))], [.inl (v19)], 0, 0, ix_mem 276 I19 J19 T19)
          exact ix_sp rfl ⟨Nat.le_refl _, Nat.le_refl _, trivial, hQ _ _ _ _ h19⟩
def wb_X12_loses_27 (x1 : Int32) (x2 : Int32) (x3 : Int64) (x5 : Int32) (I : Nat → Nat → Int32) (J : Nat → Nat → Int64) (T : Option Nat) (V27 : Int32 → Int32 → Int64 → Int32 → (Nat → Nat → Int32) → (Nat → Nat → Int64) → Option Nat → Prop) (P : Int64 → (Nat → Nat → Int32) → (Nat → Nat → Int64) → Option Nat → Prop) : Prop := ((x5 < I 204 81 → ix_inb (x5) 30 = true ∧ ((I 261 (x5).toNatClampNeg ≤ x2 → wp_X12_lateOf (x5) (x2) (x2) I J T (fun v15 I15 J15 T15 => ((v15 = (2 : Int32) → ix_inb ((((5 : Int32)) * (x5)) + (I15 204 95)) 150 = true ∧ ((I15 262 ((((5 : Int32)) * (x5)) + (I15 204 95)).toNatClampNeg = x1 → ix_inb (x5) 30 = true ∧ V27 (x1) (x2) ((x3) + ((((I15 259 (x5).toNatClampNeg).toInt64) * ((I15 204 86).toInt64)) / ((1000 : Int64)))) (x5 + (1 : Int32)) I15 J15 T15) ∧ (¬ (I15 262 ((((5 : Int32)) * (x5)) + (I15 204 95)).toNatClampNeg = x1) → V27 (x1) (x2) (x3) (x5 + (1 : Int32)) I15 J15 T15))) ∧ (¬ (v15 = (2 : Int32)) → V27 (x1) (x2) (x3) (x5 + (1 : Int32)) I15 J15 T15)))) ∧ (¬ (I 261 (x5).toNatClampNeg ≤ x2) → V27 (x1) (x2) (x3) (x5 + (1 : Int32)) I J T))) ∧ (¬ (x5 < I 204 81) → wp_X12_givesLong (x3) I J T (fun v24 I24 J24 T24 => P (v24) I24 J24 T24)))
def wl_X12_loses_27 (x1 : Int32) (x2 : Int32) (x3 : Int64) (x5 : Int32) (I : Nat → Nat → Int32) (J : Nat → Nat → Int64) (T : Option Nat) (P : Int64 → (Nat → Nat → Int32) → (Nat → Nat → Int64) → Option Nat → Prop) : Prop := ∀ V : Int32 → Int32 → Int64 → Int32 → (Nat → Nat → Int32) → (Nat → Nat → Int64) → Option Nat → Prop, (∀ (x1 : Int32) (x2 : Int32) (x3 : Int64) (x5 : Int32) (I : Nat → Nat → Int32) (J : Nat → Nat → Int64) (T : Option Nat), wb_X12_loses_27 x1 x2 x3 x5 I J T V P → V x1 x2 x3 x5 I J T) → V x1 x2 x3 x5 I J T
set_option maxRecDepth 20000 in
theorem tl_X12_loses_27 {d : Nat} {x1 : Int32} {x2 : Int32} {x3 : Int64} {x5 : Int32} {I : Nat → Nat → Int32} {J : Nat → Nat → Int64} {T : Option Nat} {P : Int64 → (Nat → Nat → Int32) → (Nat → Nat → Int64) → Option Nat → Prop} {Q : ix_Q} (h : wl_X12_loses_27 x1 x2 x3 x5 I J T P) (hQ : ∀ v I J T, P v I J T → Q (some (.inr (.inl v))) (ix_mem 276 I J T)) : ix_W (ix_C (d + 2)) (12, ix_lk ix_l328, (some .long), 0, 0, Nat.blt 0 0, none) Q (27, [some (.inr (.inr (.inl (some (204))))), some (.inl (x1)), some (.inl (x2)), some (.inr (.inl (x3))), none, some (.inl (x5))], [], 0, 0, ix_mem 276 I J T) := by
  refine h (fun x1 x2 x3 x5 I J T => ix_W (ix_C (d + 2)) (12, ix_lk ix_l328, (some .long), 0, 0, Nat.blt 0 0, none) Q (27, [some (.inr (.inr (.inl (some (204))))), some (.inl (x1)), some (.inl (x2)), some (.inr (.inl (x3))), none, some (.inl (x5))], [], 0, 0, ix_mem 276 I J T)) ?_
  intro x1 x2 x3 x5 I J T hb
  unfold wb_X12_loses_27 at hb
  refine ix_go 4 (x' := (if x5 < I 204 81 then 36 else 107, [some (.inr (.inr (.inl (some (204))))), some (.inl (x1)), some (.inl (x2)), some (.inr (.inl (x3))), none, some (.inl (x5))], [], 0, 0, ix_mem 276 I J T)) rfl ⟨rfl, rfl⟩ ?_
  refine ix_br (fun c9 => ?_) (fun c9 => ?_)
  · have h10 := hb.1 c9
    obtain ⟨p11, h12⟩ := h10
    refine ix_go 6 (x' := (if I 261 (x5).toNatClampNeg ≤ x2 then 47 else 101, [some (.inr (.inr (.inl (some (204))))), some (.inl (x1)), some (.inl (x2)), some (.inr (.inl (x3))), none, some (.inl (x5))], [], 0, 0, ix_mem 276 I J T)) rfl ⟨rfl, rfl, rfl, rfl, p11⟩ ?_
    refine ix_br (fun c13 => ?_) (fun c13 => ?_)
    · have h14 := h12.1 c13
      refine ix_go 4 (x' := (52, [some (.inr (.inr (.inl (some (204))))), some (.inl (x1)), some (.inl (x2)), some (.inr (.inl (x3))), none, some (.inl (x5))], [.inl (x2), .inl (x2), .inl (x5), .inr (.inr (.inl (some (204))))], 0, 0, ix_mem 276 I J T)) rfl trivial ?_
      refine ix_sp rfl ⟨rfl, ⟨ix_lt rfl, ix_eq rfl, ix_lt rfl⟩, ix_le rfl, Nat.le_refl _, Nat.le_refl _, tp_X12_lateOf h14 (fun v15 I15 J15 T15 h15 => ?_)⟩
      change ix_W _ _ _ (55, [some (.inr (.inr (.inl (some (204))))), some (.inl (x1)), some (.inl (x2)), some (.inr (.inl (x3))), none, some (.inl (x5))], [.inl (v15)], 0, 0, ix_mem 276 I15 J15 T15)
      refine ix_go 2 (x' := (if v15 = (2 : Int32) then 59 else 101, [some (.inr (.inr (.inl (some (204))))), some (.inl (x1)), some (.inl (x2)), some (.inr (.inl (x3))), none, some (.inl (x5))], [], 0, 0, ix_mem 276 I15 J15 T15)) rfl trivial ?_
      refine ix_br (fun c16 => ?_) (fun c16 => ?_)
      · have h17 := h15.1 c16
        refine ix_go 7 (x' := (71, [some (.inr (.inr (.inl (some (204))))), some (.inl (x1)), some (.inl (x2)), some (.inr (.inl (x3))), none, some (.inl (x5))], [.inl (I15 204 95), .inl (((5 : Int32)) * (x5)), .inr (.inr (.inl (some (262))))], 0, 0, ix_mem 276 I15 J15 T15)) rfl ⟨rfl, rfl, rfl, rfl⟩ ?_
        obtain ⟨p18, h19⟩ := h17
        refine ix_go 4 (x' := (if I15 262 ((((5 : Int32)) * (x5)) + (I15 204 95)).toNatClampNeg = x1 then 80 else 77, [some (.inr (.inr (.inl (some (204))))), some (.inl (x1)), some (.inl (x2)), some (.inr (.inl (x3))), none, some (.inl (x5))], [], 0, 0, ix_mem 276 I15 J15 T15)) rfl ⟨rfl, rfl, p18⟩ ?_
        refine ix_br (fun c20 => ?_) (fun c20 => ?_)
        · have h21 := h19.1 c20
          obtain ⟨p22, h23⟩ := h21
          refine ix_go 7 (x' := (90, [some (.inr (.inr (.inl (some (204))))), some (.inl (x1)), some (.inl (x2)), some (.inr (.inl (x3))), none, some (.inl (x5))], [.inr (.inr (.inl (some (204)))), .inr (.inl ((I15 259 (x5).toNatClampNeg).toInt64)), .inr (.inl (x3))], 0, 0, ix_mem 276 I15 J15 T15)) rfl ⟨rfl, rfl, rfl, rfl, p22⟩ ?_
          refine ix_go 7 (x' := (101, [some (.inr (.inr (.inl (some (204))))), some (.inl (x1)), some (.inl (x2)), some (.inr (.inl ((x3) + ((((I15 259 (x5).toNatClampNeg).toInt64) * ((I15 204 86).toInt64)) / ((1000 : Int64)))))), none, some (.inl (x5))], [], 0, 0, ix_mem 276 I15 J15 T15)) rfl ⟨rfl, rfl, rfl⟩ ?_
          refine ix_go 2 (x' := (27, [some (.inr (.inr (.inl (some (204))))), some (.inl (x1)), some (.inl (x2)), some (.inr (.inl ((x3) + ((((I15 259 (x5).toNatClampNeg).toInt64) * ((I15 204 86).toInt64)) / ((1000 : Int64)))))), none, some (.inl (x5 + (1 : Int32)))], [], 0, 0, ix_mem 276 I15 J15 T15)) rfl trivial ?_
          refine ix_subW ([some (.inr (.inr (.inl (some (204))))), some (.inl (x1)), some (.inl (x2)), some (.inr (.inl ((x3) + ((((I15 259 (x5).toNatClampNeg).toInt64) * ((I15 204 86).toInt64)) / ((1000 : Int64)))))), none, some (.inl (x5 + (1 : Int32)))]) (ix_subS (ix_subS (ix_subS (ix_subS (ix_subS (ix_subS (ix_sub0))))))) ?_
          exact h23
        · have h21 := h19.2 c20
          refine ix_go 3 (x' := (27, [some (.inr (.inr (.inl (some (204))))), some (.inl (x1)), some (.inl (x2)), some (.inr (.inl (x3))), none, some (.inl (x5 + (1 : Int32)))], [], 0, 0, ix_mem 276 I15 J15 T15)) rfl trivial ?_
          refine ix_subW ([some (.inr (.inr (.inl (some (204))))), some (.inl (x1)), some (.inl (x2)), some (.inr (.inl (x3))), none, some (.inl (x5 + (1 : Int32)))]) (ix_subS (ix_subS (ix_subS (ix_subS (ix_subS (ix_subS (ix_sub0))))))) ?_
          exact h21
      · have h17 := h15.2 c16
        refine ix_go 2 (x' := (27, [some (.inr (.inr (.inl (some (204))))), some (.inl (x1)), some (.inl (x2)), some (.inr (.inl (x3))), none, some (.inl (x5 + (1 : Int32)))], [], 0, 0, ix_mem 276 I15 J15 T15)) rfl trivial ?_
        refine ix_subW ([some (.inr (.inr (.inl (some (204))))), some (.inl (x1)), some (.inl (x2)), some (.inr (.inl (x3))), none, some (.inl (x5 + (1 : Int32)))]) (ix_subS (ix_subS (ix_subS (ix_subS (ix_subS (ix_subS (ix_sub0))))))) ?_
        exact h17
    · have h14 := h12.2 c13
      refine ix_go 2 (x' := (27, [some (.inr (.inr (.inl (some (204))))), some (.inl (x1)), some (.inl (x2)), some (.inr (.inl (x3))), none, some (.inl (x5 + (1 : Int32)))], [], 0, 0, ix_mem 276 I J T)) rfl trivial ?_
      refine ix_subW ([some (.inr (.inr (.inl (some (204))))), some (.inl (x1)), some (.inl (x2)), some (.inr (.inl (x3))), none, some (.inl (x5 + (1 : Int32)))]) (ix_subS (ix_subS (ix_subS (ix_subS (ix_subS (ix_subS (ix_sub0))))))) ?_
      exact h14
  · have h10 := hb.2 c9
    refine ix_go 2 (x' := (109, [some (.inr (.inr (.inl (some (204))))), some (.inl (x1)), some (.inl (x2)), some (.inr (.inl (x3))), none, some (.inl (x5))], [.inr (.inl (x3)), .inr (.inr (.inl (some (204))))], 0, 0, ix_mem 276 I J T)) rfl trivial ?_
    refine ix_sp rfl ⟨rfl, ⟨ix_lt rfl, ix_eq rfl, ix_lt rfl⟩, ix_le rfl, Nat.le_refl _, Nat.le_refl _, tp_X12_givesLong h10 (fun v24 I24 J24 T24 h24 => ?_)⟩
    change ix_W _ _ _ (112, [some (.inr (.inr (.inl (some (204))))), some (.inl (x1)), some (.inl (x2)), some (.inr (.inl (x3))), none, some (.inl (x5))], [.inr (.inl (v24))], 0, 0, ix_mem 276 I24 J24 T24)
    exact ix_sp rfl ⟨Nat.le_refl _, Nat.le_refl _, rfl, hQ _ _ _ _ h24⟩
def wp_X12_loses (a0 : Int32) (a1 : Int32) (I : Nat → Nat → Int32) (J : Nat → Nat → Int64) (T : Option Nat) (P : Int64 → (Nat → Nat → Int32) → (Nat → Nat → Int64) → Option Nat → Prop) : Prop := wp_X12_isLand (a0) I J T (fun v1 I1 J1 T1 => ((v1 = 0 → wp_X12_refuse ((1 : Int32)) I1 J1 T1 (fun v4 I4 J4 T4 => P ((v4).toInt64) I4 J4 T4)) ∧ (¬ (v1 = 0) → wp_X12_isDay (a1) I1 J1 T1 (fun v5 I5 J5 T5 => ((v5 = 0 → wp_X12_refuse ((1 : Int32)) I5 J5 T5 (fun v8 I8 J8 T8 => P ((v8).toInt64) I8 J8 T8)) ∧ (¬ (v5 = 0) → wl_X12_loses_27 (a0) (a1) ((0 : Int64)) ((0 : Int32)) I5 J5 T5 P))))))
set_option maxRecDepth 20000 in
theorem tp_X12_loses {d : Nat} {a0 : Int32} {a1 : Int32} {I : Nat → Nat → Int32} {J : Nat → Nat → Int64} {T : Option Nat} {P : Int64 → (Nat → Nat → Int32) → (Nat → Nat → Int64) → Option Nat → Prop} {Q : ix_Q} (h : wp_X12_loses a0 a1 I J T P) (hQ : ∀ v I J T, P v I J T → Q (some (.inr (.inl v))) (ix_mem 276 I J T)) : ix_C (d + 3) 328 [.inr (.inr (.inl (some (204)))), .inl (a0), .inl (a1)] (ix_mem 276 I J T) Q := by
  unfold wp_X12_loses at h
  refine ix_enter (ls := [some (.inr (.inr (.inl (some (204))))), some (.inl (a0)), some (.inl (a1)), none, none, none]) rfl rfl rfl (Nat.le_of_ble_eq_true rfl) ?_
  refine ix_go 2 (x' := (2, [some (.inr (.inr (.inl (some (204))))), some (.inl (a0)), some (.inl (a1)), none, none, none], [.inl (a0), .inr (.inr (.inl (some (204))))], 0, 0, ix_mem 276 I J T)) rfl trivial ?_
  refine ix_sp rfl ⟨rfl, ⟨ix_lt rfl, ix_eq rfl, ix_lt rfl⟩, ix_le rfl, Nat.le_refl _, Nat.le_refl _, tp_X12_isLand h (fun v1 I1 J1 T1 h1 => ?_)⟩
  change ix_W _ _ _ (5, [some (.inr (.inr (.inl (some (204))))), some (.inl (a0)), some (.inl (a1)), none, none, none], [.inl (v1)], 0, 0, ix_mem 276 I1 J1 T1)
  refine ix_go 1 (x' := (if v1 = 0 then 15 else 8, [some (.inr (.inr (.inl (some (204))))), some (.inl (a0)), some (.inl (a1)), none, none, none], [], 0, 0, ix_mem 276 I1 J1 T1)) rfl trivial ?_
  refine ix_br (fun c2 => ?_) (fun c2 => ?_)
  · have h3 := h1.1 c2
    refine ix_go 2 (x' := (17, [some (.inr (.inr (.inl (some (204))))), some (.inl (a0)), some (.inl (a1)), none, none, none], [.inl ((1 : Int32)), .inr (.inr (.inl (some (204))))], 0, 0, ix_mem 276 I1 J1 T1)) rfl trivial ?_
    refine ix_sp rfl ⟨rfl, ⟨ix_lt rfl, ix_eq rfl, ix_lt rfl⟩, ix_le rfl, Nat.le_refl _, Nat.le_refl _, tp_X12_refuse h3 (fun v4 I4 J4 T4 h4 => ?_)⟩
    change ix_W _ _ _ (20, [some (.inr (.inr (.inl (some (204))))), some (.inl (a0)), some (.inl (a1)), none, none, none], [.inl (v4)], 0, 0, ix_mem 276 I4 J4 T4)
    refine ix_go 1 (x' := (21, [some (.inr (.inr (.inl (some (204))))), some (.inl (a0)), some (.inl (a1)), none, none, none], [.inr (.inl ((v4).toInt64))], 0, 0, ix_mem 276 I4 J4 T4)) rfl trivial ?_
    exact ix_sp rfl ⟨Nat.le_refl _, Nat.le_refl _, rfl, hQ _ _ _ _ h4⟩
  · have h3 := h1.2 c2
    refine ix_go 1 (x' := (9, [some (.inr (.inr (.inl (some (204))))), some (.inl (a0)), some (.inl (a1)), none, none, none], [.inl (a1)], 0, 0, ix_mem 276 I1 J1 T1)) rfl trivial ?_
    refine ix_sp rfl ⟨rfl, trivial, ix_le rfl, Nat.le_refl _, Nat.le_refl _, tp_X12_isDay h3 (fun v5 I5 J5 T5 h5 => ?_)⟩
    change ix_W _ _ _ (12, [some (.inr (.inr (.inl (some (204))))), some (.inl (a0)), some (.inl (a1)), none, none, none], [.inl (v5)], 0, 0, ix_mem 276 I5 J5 T5)
    refine ix_go 1 (x' := (if v5 = 0 then 15 else 22, [some (.inr (.inr (.inl (some (204))))), some (.inl (a0)), some (.inl (a1)), none, none, none], [], 0, 0, ix_mem 276 I5 J5 T5)) rfl trivial ?_
    refine ix_br (fun c6 => ?_) (fun c6 => ?_)
    · have h7 := h5.1 c6
      refine ix_go 2 (x' := (17, [some (.inr (.inr (.inl (some (204))))), some (.inl (a0)), some (.inl (a1)), none, none, none], [.inl ((1 : Int32)), .inr (.inr (.inl (some (204))))], 0, 0, ix_mem 276 I5 J5 T5)) rfl trivial ?_
      refine ix_sp rfl ⟨rfl, ⟨ix_lt rfl, ix_eq rfl, ix_lt rfl⟩, ix_le rfl, Nat.le_refl _, Nat.le_refl _, tp_X12_refuse h7 (fun v8 I8 J8 T8 h8 => ?_)⟩
      change ix_W _ _ _ (20, [some (.inr (.inr (.inl (some (204))))), some (.inl (a0)), some (.inl (a1)), none, none, none], [.inl (v8)], 0, 0, ix_mem 276 I8 J8 T8)
      refine ix_go 1 (x' := (21, [some (.inr (.inr (.inl (some (204))))), some (.inl (a0)), some (.inl (a1)), none, none, none], [.inr (.inl ((v8).toInt64))], 0, 0, ix_mem 276 I8 J8 T8)) rfl trivial ?_
      exact ix_sp rfl ⟨Nat.le_refl _, Nat.le_refl _, rfl, hQ _ _ _ _ h8⟩
    · have h7 := h5.2 c6
      refine ix_go 4 (x' := (27, [some (.inr (.inr (.inl (some (204))))), some (.inl (a0)), some (.inl (a1)), some (.inr (.inl ((0 : Int64)))), none, some (.inl ((0 : Int32)))], [], 0, 0, ix_mem 276 I5 J5 T5)) rfl trivial ?_
      refine ix_subW ([some (.inr (.inr (.inl (some (204))))), some (.inl (a0)), some (.inl (a1)), some (.inr (.inl ((0 : Int64)))), none, some (.inl ((0 : Int32)))]) (ix_subS (ix_subS (ix_subS (ix_subS (ix_subS (ix_subS (ix_sub0))))))) ?_
      exact tl_X12_loses_27 h7 hQ
