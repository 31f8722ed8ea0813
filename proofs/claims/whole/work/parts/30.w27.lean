def wp_X11_interest (a0 : Int32) (a1 : Int32) (a2 : Int32) (I : Nat → Nat → Int32) (J : Nat → Nat → Int64) (T : Option Nat) (P : Int32 → (Nat → Nat → Int32) → (Nat → Nat → Int64) → Option Nat → Prop) : Prop := wp_X11_outside ((a0).toInt64) ((0 : Int64)) ((1000000000 : Int64)) I J T (fun v1 I1 J1 T1 => ((v1 = 0 → wp_X11_outside ((a1).toInt64) ((0 : Int64)) ((1000 : Int64)) I1 J1 T1 (fun v4 I4 J4 T4 => ((v4 = 0 → wp_X11_outside ((a2).toInt64) ((0 : Int64)) ((10000 : Int64)) I4 J4 T4 (fun v7 I7 J7 T7 => ((v7 = 0 → wp_X11_setFraction ((((a0).toInt64) * ((a1).toInt64)) * ((a2).toInt64)) ((365000 : Int64)) I7 J7 T7 (fun I10 J10 T10 => ((lg_cmp (J10 0 1) ((0 : Int64)) ≤ 0 → P ((0 : Int32)) (ix_u2 I10 0 0 ((0 : Int32))) J10 T10) ∧ (¬ (lg_cmp (J10 0 1) ((0 : Int64)) ≤ 0) → P ((1 : Int32)) (ix_u2 I10 0 0 ((0 : Int32))) J10 T10)))) ∧ (¬ (v7 = 0) → wp_X11_refuse ((1 : Int32)) I7 J7 T7 (fun v13 I13 J13 T13 => P (v13) I13 J13 T13))))) ∧ (¬ (v4 = 0) → wp_X11_refuse ((1 : Int32)) I4 J4 T4 (fun v14 I14 J14 T14 => P (v14) I14 J14 T14))))) ∧ (¬ (v1 = 0) → wp_X11_refuse ((1 : Int32)) I1 J1 T1 (fun v15 I15 J15 T15 => P (v15) I15 J15 T15))))
set_option maxRecDepth 20000 in
theorem tp_X11_interest {d : Nat} {a0 : Int32} {a1 : Int32} {a2 : Int32} {I : Nat → Nat → Int32} {J : Nat → Nat → Int64} {T : Option Nat} {P : Int32 → (Nat → Nat → Int32) → (Nat → Nat → Int64) → Option Nat → Prop} {Q : ix_Q} (h : wp_X11_interest a0 a1 a2 I J T P) (hQ : ∀ v I J T, P v I J T → Q (some (.inl v)) (ix_mem 276 I J T)) : ix_C (d + 2) 222 [.inr (.inr (.inl (some (0)))), .inl (a0), .inl (a1), .inl (a2)] (ix_mem 276 I J T) Q := by
  unfold wp_X11_interest at h
  refine ix_enter (ls := [some (.inr (.inr (.inl (some (0))))), some (.inl (a0)), some (.inl (a1)), some (.inl (a2))]) rfl rfl rfl (Nat.le_of_ble_eq_true rfl) ?_
  refine ix_go 4 (x' := (6, [some (.inr (.inr (.inl (some (0))))), some (.inl (a0)), some (.inl (a1)), some (.inl (a2))], [.inr (.inl ((1000000000 : Int64))), .inr (.inl ((0 : Int64))), .inr (.inl ((a0).toInt64))], 0, 0, ix_mem 276 I J T)) rfl trivial ?_
  refine ix_sp rfl ⟨rfl, trivial, ix_le rfl, Nat.le_refl _, Nat.le_refl _, tp_X11_outside h (fun v1 I1 J1 T1 h1 => ?_)⟩
  change ix_W _ _ _ (9, [some (.inr (.inr (.inl (some (0))))), some (.inl (a0)), some (.inl (a1)), some (.inl (a2))], [.inl (v1)], 0, 0, ix_mem 276 I1 J1 T1)
  refine ix_go 1 (x' := (if v1 = 0 then 12 else 36, [some (.inr (.inr (.inl (some (0))))), some (.inl (a0)), some (.inl (a1)), some (.inl (a2))], [], 0, 0, ix_mem 276 I1 J1 T1)) rfl trivial ?_
  refine ix_br (fun c2 => ?_) (fun c2 => ?_)
  · have h3 := h1.1 c2
    refine ix_go 4 (x' := (18, [some (.inr (.inr (.inl (some (0))))), some (.inl (a0)), some (.inl (a1)), some (.inl (a2))], [.inr (.inl ((1000 : Int64))), .inr (.inl ((0 : Int64))), .inr (.inl ((a1).toInt64))], 0, 0, ix_mem 276 I1 J1 T1)) rfl trivial ?_
    refine ix_sp rfl ⟨rfl, trivial, ix_le rfl, Nat.le_refl _, Nat.le_refl _, tp_X11_outside h3 (fun v4 I4 J4 T4 h4 => ?_)⟩
    change ix_W _ _ _ (21, [some (.inr (.inr (.inl (some (0))))), some (.inl (a0)), some (.inl (a1)), some (.inl (a2))], [.inl (v4)], 0, 0, ix_mem 276 I4 J4 T4)
    refine ix_go 1 (x' := (if v4 = 0 then 24 else 36, [some (.inr (.inr (.inl (some (0))))), some (.inl (a0)), some (.inl (a1)), some (.inl (a2))], [], 0, 0, ix_mem 276 I4 J4 T4)) rfl trivial ?_
    refine ix_br (fun c5 => ?_) (fun c5 => ?_)
    · have h6 := h4.1 c5
      refine ix_go 4 (x' := (30, [some (.inr (.inr (.inl (some (0))))), some (.inl (a0)), some (.inl (a1)), some (.inl (a2))], [.inr (.inl ((10000 : Int64))), .inr (.inl ((0 : Int64))), .inr (.inl ((a2).toInt64))], 0, 0, ix_mem 276 I4 J4 T4)) rfl trivial ?_
      refine ix_sp rfl ⟨rfl, trivial, ix_le rfl, Nat.le_refl _, Nat.le_refl _, tp_X11_outside h6 (fun v7 I7 J7 T7 h7 => ?_)⟩
      change ix_W _ _ _ (33, [some (.inr (.inr (.inl (some (0))))), some (.inl (a0)), some (.inl (a1)), some (.inl (a2))], [.inl (v7)], 0, 0, ix_mem 276 I7 J7 T7)
      refine ix_go 1 (x' := (if v7 = 0 then 42 else 36, [some (.inr (.inr (.inl (some (0))))), some (.inl (a0)), some (.inl (a1)), some (.inl (a2))], [], 0, 0, ix_mem 276 I7 J7 T7)) rfl trivial ?_
      refine ix_br (fun c8 => ?_) (fun c8 => ?_)
      · have h9 := h7.1 c8
        refine ix_go 7 (x' := (49, [some (.inr (.inr (.inl (some (0))))), some (.inl (a0)), some (.inl (a1)), some (.inl (a2))], [.inl (a2), .inr (.inl (((a0).toInt64) * ((a1).toInt64))), .inr (.inr (.inl (some (0))))], 0, 0, ix_mem 276 I7 J7 T7)) rfl trivial ?_
        refine ix_go 3 (x' := (54, [some (.inr (.inr (.inl (some (0))))), some (.inl (a0)), some (.inl (a1)), some (.inl (a2))], [.inr (.inl ((365000 : Int64))), .inr (.inl ((((a0).toInt64) * ((a1).toInt64)) * ((a2).toInt64))), .inr (.inr (.inl (some (0))))], 0, 0, ix_mem 276 I7 J7 T7)) rfl trivial ?_
        refine ix_sp rfl ⟨rfl, ⟨ix_lt rfl, ix_eq rfl, ix_lt rfl⟩, ix_le rfl, Nat.le_refl _, Nat.le_refl _, tp_X11_setFraction h9 (fun I10 J10 T10 h10 => ?_)⟩
        change ix_W _ _ _ (57, [some (.inr (.inr (.inl (some (0))))), some (.inl (a0)), some (.inl (a1)), some (.inl (a2))], [], 0, 0, ix_mem 276 I10 J10 T10)
        refine ix_go 7 (x' := (68, [some (.inr (.inr (.inl (some (0))))), some (.inl (a0)), some (.inl (a1)), some (.inl (a2))], [.inl (lg_cmp (J10 0 1) ((0 : Int64)))], 0, 0, ix_mem 276 (ix_u2 I10 0 0 ((0 : Int32))) J10 T10)) rfl ⟨rfl, rfl, rfl, rfl⟩ ?_
        refine ix_go 1 (x' := (if lg_cmp (J10 0 1) ((0 : Int64)) ≤ 0 then 75 else 71, [some (.inr (.inr (.inl (some (0))))), some (.inl (a0)), some (.inl (a1)), some (.inl (a2))], [], 0, 0, ix_mem 276 (ix_u2 I10 0 0 ((0 : Int32))) J10 T10)) rfl trivial ?_
        refine ix_br (fun c11 => ?_) (fun c11 => ?_)
        · have h12 := h10.1 c11
          refine ix_go 1 (x' := (76, [some (.inr (.inr (.inl (some (0))))), some (.inl (a0)), some (.inl (a1)), some (.inl (a2))], [.inl ((0 : Int32))], 0, 0, ix_mem 276 (ix_u2 I10 0 0 ((0 : Int32))) J10 T10)) rfl trivial ?_
          exact ix_sp rfl ⟨Nat.le_refl _, Nat.le_refl _, trivial, hQ _ _ _ _ h12⟩
        · have h12 := h10.2 c11
          refine ix_go 2 (x' := (76, [some (.inr (.inr (.inl (some (0))))), some (.inl (a0)), some (.inl (a1)), some (.inl (a2))], [.inl ((1 : Int32))], 0, 0, ix_mem 276 (ix_u2 I10 0 0 ((0 : Int32))) J10 T10)) rfl trivial ?_
          exact ix_sp rfl ⟨Nat.le_refl _, Nat.le_refl _, trivial, hQ _ _ _ _ h12⟩
      · have h9 := h7.2 c8
        refine ix_go 2 (x' := (38, [some (.inr (.inr (.inl (some (0))))), some (.inl (a0)), some (.inl (a1)), some (.inl (a2))], [.inl ((1 : Int32)), .inr (.inr (.inl (some (0))))], 0, 0, ix_mem 276 I7 J7 T7)) rfl trivial ?_
        refine ix_sp rfl ⟨rfl, ⟨ix_lt rfl, ix_eq rfl, ix_lt rfl⟩, ix_le rfl, Nat.le_refl _, Nat.le_refl _, tp_X11_refuse h9 (fun v13 I13 J13 T13 h13 => ?_)⟩
        change ix_W _ _ _ (41, [some (.inr (.inr (.inl (some (0))))), some (.inl (a0)), some (.inl (a1)), some (.inl (a2))], [.inl (v13)], 0, 0, ix_mem 276 I13 J13 T13)
        exact ix_sp rfl ⟨Nat.le_refl _, Nat.le_refl _, trivial, hQ _ _ _ _ h13⟩
    · have h6 := h4.2 c5
      refine ix_go 2 (x' := (38, [some (.inr (.inr (.inl (some (0))))), some (.inl (a0)), some (.inl (a1)), some (.inl (a2))], [.inl ((1 : Int32)), .inr (.inr (.inl (some (0))))], 0, 0, ix_mem 276 I4 J4 T4)) rfl trivial ?_
      refine ix_sp rfl ⟨rfl, ⟨ix_lt rfl, ix_eq rfl, ix_lt rfl⟩, ix_le rfl, Nat.le_refl _, Nat.le_refl _, tp_X11_refuse h6 (fun v14 I14 J14 T14 h14 => ?_)⟩
      change ix_W _ _ _ (41, [some (.inr (.inr (.inl (some (0))))), some (.inl (a0)), some (.inl (a1)), some (.inl (a2))], [.inl (v14)], 0, 0, ix_mem 276 I14 J14 T14)
      exact ix_sp rfl ⟨Nat.le_refl _, Nat.le_refl _, trivial, hQ _ _ _ _ h14⟩
  · have h3 := h1.2 c2
    refine ix_go 2 (x' := (38, [some (.inr (.inr (.inl (some (0))))), some (.inl (a0)), some (.inl (a1)), some (.inl (a2))], [.inl ((1 : Int32)), .inr (.inr (.inl (some (0))))], 0, 0, ix_mem 276 I1 J1 T1)) rfl trivial ?_
    refine ix_sp rfl ⟨rfl, ⟨ix_lt rfl, ix_eq rfl, ix_lt rfl⟩, ix_le rfl, Nat.le_refl _, Nat.le_refl _, tp_X11_refuse h3 (fun v15 I15 J15 T15 h15 => ?_)⟩
    change ix_W _ _ _ (41, [some (.inr (.inr (.inl (some (0))))), some (.inl (a0)), some (.inl (a1)), some (.inl (a2))], [.inl (v15)], 0, 0, ix_mem 276 I15 J15 T15)
    exact ix_sp rfl ⟨Nat.le_refl _, Nat.le_refl _, trivial, hQ _ _ _ _ h15⟩
def wp_X11_weigh (a0 : Int32) (a1 : Int32) (I : Nat → Nat → Int32) (J : Nat → Nat → Int64) (T : Option Nat) (P : Int32 → (Nat → Nat → Int32) → (Nat → Nat → Int64) → Option Nat → Prop) : Prop := wp_X11_outside ((a0).toInt64) ((0 : Int64)) ((5 : Int64)) I J T (fun v1 I1 J1 T1 => ((v1 = 0 → wp_X11_outside ((a1).toInt64) ((0 : Int64)) ((9 : Int64)) I1 J1 T1 (fun v4 I4 J4 T4 => ((v4 = 0 → wp_X3_setWeight (a0) (a1) I4 J4 T4 (fun I7 J7 T7 => wp_X11_accepted I7 J7 T7 (fun v8 I8 J8 T8 => ix_01 (v8) = true ∧ P (v8) I8 J8 T8))) ∧ (¬ (v4 = 0) → wp_X11_refused ((1 : Int32)) I4 J4 T4 (fun v9 I9 J9 T9 => ix_01 (v9) = true ∧ P (v9) I9 J9 T9))))) ∧ (¬ (v1 = 0) → wp_X11_refused ((1 : Int32)) I1 J1 T1 (fun v10 I10 J10 T10 => ix_01 (v10) = true ∧ P (v10) I10 J10 T10))))
set_option maxRecDepth 20000 in
theorem tp_X11_weigh {d : Nat} {a0 : Int32} {a1 : Int32} {I : Nat → Nat → Int32} {J : Nat → Nat → Int64} {T : Option Nat} {P : Int32 → (Nat → Nat → Int32) → (Nat → Nat → Int64) → Option Nat → Prop} {Q : ix_Q} (h : wp_X11_weigh a0 a1 I J T P) (hQ : ∀ v I J T, P v I J T → Q (some (.inl v)) (ix_mem 276 I J T)) : ix_C (d + 2) 223 [.inr (.inr (.inl (some (0)))), .inl (a0), .inl (a1)] (ix_mem 276 I J T) Q := by
  unfold wp_X11_weigh at h
  refine ix_enter (ls := [some (.inr (.inr (.inl (some (0))))), some (.inl (a0)), some (.inl (a1))]) rfl rfl rfl (Nat.le_of_ble_eq_true rfl) ?_
  refine ix_go 4 (x' := (6, [some (.inr (.inr (.inl (some (0))))), some (.inl (a0)), some (.inl (a1))], [.inr (.inl ((5 : Int64))), .inr (.inl ((0 : Int64))), .inr (.inl ((a0).toInt64))], 0, 0, ix_mem 276 I J T)) rfl trivial ?_
  refine ix_sp rfl ⟨rfl, trivial, ix_le rfl, Nat.le_refl _, Nat.le_refl _, tp_X11_outside h (fun v1 I1 J1 T1 h1 => ?_)⟩
  change ix_W _ _ _ (9, [some (.inr (.inr (.inl (some (0))))), some (.inl (a0)), some (.inl (a1))], [.inl (v1)], 0, 0, ix_mem 276 I1 J1 T1)
  refine ix_go 1 (x' := (if v1 = 0 then 12 else 24, [some (.inr (.inr (.inl (some (0))))), some (.inl (a0)), some (.inl (a1))], [], 0, 0, ix_mem 276 I1 J1 T1)) rfl trivial ?_
  refine ix_br (fun c2 => ?_) (fun c2 => ?_)
  · have h3 := h1.1 c2
    refine ix_go 4 (x' := (18, [some (.inr (.inr (.inl (some (0))))), some (.inl (a0)), some (.inl (a1))], [.inr (.inl ((9 : Int64))), .inr (.inl ((0 : Int64))), .inr (.inl ((a1).toInt64))], 0, 0, ix_mem 276 I1 J1 T1)) rfl trivial ?_
    refine ix_sp rfl ⟨rfl, trivial, ix_le rfl, Nat.le_refl _, Nat.le_refl _, tp_X11_outside h3 (fun v4 I4 J4 T4 h4 => ?_)⟩
    change ix_W _ _ _ (21, [some (.inr (.inr (.inl (some (0))))), some (.inl (a0)), some (.inl (a1))], [.inl (v4)], 0, 0, ix_mem 276 I4 J4 T4)
    refine ix_go 1 (x' := (if v4 = 0 then 30 else 24, [some (.inr (.inr (.inl (some (0))))), some (.inl (a0)), some (.inl (a1))], [], 0, 0, ix_mem 276 I4 J4 T4)) rfl trivial ?_
    refine ix_br (fun c5 => ?_) (fun c5 => ?_)
    · have h6 := h4.1 c5
      refine ix_go 4 (x' := (36, [some (.inr (.inr (.inl (some (0))))), some (.inl (a0)), some (.inl (a1))], [.inl (a1), .inl (a0), .inr (.inr (.inl (some (200))))], 0, 0, ix_mem 276 I4 J4 T4)) rfl ⟨rfl, rfl⟩ ?_
      refine ix_sp rfl ⟨rfl, ⟨ix_lt rfl, ix_eq rfl, ix_lt rfl⟩, ix_le rfl, Nat.le_refl _, Nat.le_refl _, tp_X3_setWeight h6 (fun I7 J7 T7 h7 => ?_)⟩
      change ix_W _ _ _ (39, [some (.inr (.inr (.inl (some (0))))), some (.inl (a0)), some (.inl (a1))], [], 0, 0, ix_mem 276 I7 J7 T7)
      refine ix_go 1 (x' := (40, [some (.inr (.inr (.inl (some (0))))), some (.inl (a0)), some (.inl (a1))], [.inr (.inr (.inl (some (0))))], 0, 0, ix_mem 276 I7 J7 T7)) rfl trivial ?_
      refine ix_sp rfl ⟨rfl, ⟨ix_lt rfl, ix_eq rfl, ix_lt rfl⟩, ix_le rfl, Nat.le_refl _, Nat.le_refl _, tp_X11_accepted h7 (fun v8 I8 J8 T8 h8 => ?_)⟩
      change ix_W _ _ _ (43, [some (.inr (.inr (.inl (some (0))))), some (.inl (a0)), some (.inl (a1))], [.inl (v8)], 0, 0, ix_mem 276 I8 J8 T8)
      exact ix_sp rfl ⟨Nat.le_refl _, Nat.le_refl _, ix_01_ok h8.1, hQ _ _ _ _ h8.2⟩
    · have h6 := h4.2 c5
      refine ix_go 2 (x' := (26, [some (.inr (.inr (.inl (some (0))))), some (.inl (a0)), some (.inl (a1))], [.inl ((1 : Int32)), .inr (.inr (.inl (some (0))))], 0, 0, ix_mem 276 I4 J4 T4)) rfl trivial ?_
      refine ix_sp rfl ⟨rfl, ⟨ix_lt rfl, ix_eq rfl, ix_lt rfl⟩, ix_le rfl, Nat.le_refl _, Nat.le_refl _, tp_X11_refused h6 (fun v9 I9 J9 T9 h9 => ?_)⟩
      change ix_W _ _ _ (29, [some (.inr (.inr (.inl (some (0))))), some (.inl (a0)), some (.inl (a1))], [.inl (v9)], 0, 0, ix_mem 276 I9 J9 T9)
      exact ix_sp rfl ⟨Nat.le_refl _, Nat.le_refl _, ix_01_ok h9.1, hQ _ _ _ _ h9.2⟩
  · have h3 := h1.2 c2
    refine ix_go 2 (x' := (26, [some (.inr (.inr (.inl (some (0))))), some (.inl (a0)), some (.inl (a1))], [.inl ((1 : Int32)), .inr (.inr (.inl (some (0))))], 0, 0, ix_mem 276 I1 J1 T1)) rfl trivial ?_
    refine ix_sp rfl ⟨rfl, ⟨ix_lt rfl, ix_eq rfl, ix_lt rfl⟩, ix_le rfl, Nat.le_refl _, Nat.le_refl _, tp_X11_refused h3 (fun v10 I10 J10 T10 h10 => ?_)⟩
    change ix_W _ _ _ (29, [some (.inr (.inr (.inl (some (0))))), some (.inl (a0)), some (.inl (a1))], [.inl (v10)], 0, 0, ix_mem 276 I10 J10 T10)
    exact ix_sp rfl ⟨Nat.le_refl _, Nat.le_refl _, ix_01_ok h10.1, hQ _ _ _ _ h10.2⟩
def wp_X11_rule (a0 : Int32) (a1 : Int32) (I : Nat → Nat → Int32) (J : Nat → Nat → Int64) (T : Option Nat) (P : Int32 → (Nat → Nat → Int32) → (Nat → Nat → Int64) → Option Nat → Prop) : Prop := wp_X11_outside ((a0).toInt64) ((0 : Int64)) ((999999 : Int64)) I J T (fun v1 I1 J1 T1 => ((v1 = 0 → wp_X11_outside ((a1).toInt64) ((0 : Int64)) ((9 : Int64)) I1 J1 T1 (fun v4 I4 J4 T4 => ((v4 = 0 → wp_X3_isFull I4 J4 T4 (fun v7 I7 J7 T7 => ((v7 = 0 → wp_X3_add (a0) (a1) (ix_u2 I7 0 0 ((0 : Int32))) J7 T7 (fun v10 I10 J10 T10 => P (v10) I10 J10 T10)) ∧ (¬ (v7 = 0) → wp_X11_refuse ((4 : Int32)) I7 J7 T7 (fun v11 I11 J11 T11 => P (v11) I11 J11 T11))))) ∧ (¬ (v4 = 0) → wp_X11_refuse ((1 : Int32)) I4 J4 T4 (fun v12 I12 J12 T12 => P (v12) I12 J12 T12))))) ∧ (¬ (v1 = 0) → wp_X11_refuse ((1 : Int32)) I1 J1 T1 (fun v13 I13 J13 T13 => P (v13) I13 J13 T13))))
set_option maxRecDepth 20000 in
theorem tp_X11_rule {d : Nat} {a0 : Int32} {a1 : Int32} {I : Nat → Nat → Int32} {J : Nat → Nat → Int64} {T : Option Nat} {P : Int32 → (Nat → Nat → Int32) → (Nat → Nat → Int64) → Option Nat → Prop} {Q : ix_Q} (h : wp_X11_rule a0 a1 I J T P) (hQ : ∀ v I J T, P v I J T → Q (some (.inl v)) (ix_mem 276 I J T)) : ix_C (d + 2) 224 [.inr (.inr (.inl (some (0)))), .inl (a0), .inl (a1)] (ix_mem 276 I J T) Q := by
  unfold wp_X11_rule at h
  refine ix_enter (ls := [some (.inr (.inr (.inl (some (0))))), some (.inl (a0)), some (.inl (a1))]) rfl rfl rfl (Nat.le_of_ble_eq_true rfl) ?_
  refine ix_go 4 (x' := (6, [some (.inr (.inr (.inl (some (0))))), some (.inl (a0)), some (.inl (a1))], [.inr (.inl ((999999 : Int64))), .inr (.inl ((0 : Int64))), .inr (.inl ((a0).toInt64))], 0, 0, ix_mem 276 I J T)) rfl trivial ?_
  refine ix_sp rfl ⟨rfl, trivial, ix_le rfl, Nat.le_refl _, Nat.le_refl _, tp_X11_outside h (fun v1 I1 J1 T1 h1 => ?_)⟩
  change ix_W _ _ _ (9, [some (.inr (.inr (.inl (some (0))))), some (.inl (a0)), some (.inl (a1))], [.inl (v1)], 0, 0, ix_mem 276 I1 J1 T1)
  refine ix_go 1 (x' := (if v1 = 0 then 12 else 24, [some (.inr (.inr (.inl (some (0))))), some (.inl (a0)), some (.inl (a1))], [], 0, 0, ix_mem 276 I1 J1 T1)) rfl trivial ?_
  refine ix_br (fun c2 => ?_) (fun c2 => ?_)
  · have h3 := h1.1 c2
    refine ix_go 4 (x' := (18, [some (.inr (.inr (.inl (some (0))))), some (.inl (a0)), some (.inl (a1))], [.inr (.inl ((9 : Int64))), .inr (.inl ((0 : Int64))), .inr (.inl ((a1).toInt64))], 0, 0, ix_mem 276 I1 J1 T1)) rfl trivial ?_
    refine ix_sp rfl ⟨rfl, trivial, ix_le rfl, Nat.le_refl _, Nat.le_refl _, tp_X11_outside h3 (fun v4 I4 J4 T4 h4 => ?_)⟩
    change ix_W _ _ _ (21, [some (.inr (.inr (.inl (some (0))))), some (.inl (a0)), some (.inl (a1))], [.inl (v4)], 0, 0, ix_mem 276 I4 J4 T4)
    refine ix_go 1 (x' := (if v4 = 0 then 30 else 24, [some (.inr (.inr (.inl (some (0))))), some (.inl (a0)), some (.inl (a1))], [], 0, 0, ix_mem 276 I4 J4 T4)) rfl trivial ?_
    refine ix_br (fun c5 => ?_) (fun c5 => ?_)
    · have h6 := h4.1 c5
      refine ix_go 2 (x' := (34, [some (.inr (.inr (.inl (some (0))))), some (.inl (a0)), some (.inl (a1))], [.inr (.inr (.inl (some (200))))], 0, 0, ix_mem 276 I4 J4 T4)) rfl ⟨rfl, rfl⟩ ?_
      refine ix_sp rfl ⟨rfl, ⟨ix_lt rfl, ix_eq rfl, ix_lt rfl⟩, ix_le rfl, Nat.le_refl _, Nat.le_refl _, tp_X3_isFull h6 (fun v7 I7 J7 T7 h7 => ?_)⟩
      change ix_W _ _ _ (37, [some (.inr (.inr (.inl (some (0))))), some (.inl (a0)), some (.inl (a1))], [.inl (v7)], 0, 0, ix_mem 276 I7 J7 T7)
      refine ix_go 1 (x' := (if v7 = 0 then 46 else 40, [some (.inr (.inr (.inl (some (0))))), some (.inl (a0)), some (.inl (a1))], [], 0, 0, ix_mem 276 I7 J7 T7)) rfl trivial ?_
      refine ix_br (fun c8 => ?_) (fun c8 => ?_)
      · have h9 := h7.1 c8
        refine ix_go 7 (x' := (57, [some (.inr (.inr (.inl (some (0))))), some (.inl (a0)), some (.inl (a1))], [.inl (a1), .inl (a0), .inr (.inr (.inl (some (200))))], 0, 0, ix_mem 276 (ix_u2 I7 0 0 ((0 : Int32))) J7 T7)) rfl ⟨rfl, rfl, rfl, rfl⟩ ?_
        refine ix_sp rfl ⟨rfl, ⟨ix_lt rfl, ix_eq rfl, ix_lt rfl⟩, ix_le rfl, Nat.le_refl _, Nat.le_refl _, tp_X3_add h9 (fun v10 I10 J10 T10 h10 => ?_)⟩
        change ix_W _ _ _ (60, [some (.inr (.inr (.inl (some (0))))), some (.inl (a0)), some (.inl (a1))], [.inl (v10)], 0, 0, ix_mem 276 I10 J10 T10)
        exact ix_sp rfl ⟨Nat.le_refl _, Nat.le_refl _, trivial, hQ _ _ _ _ h10⟩
      · have h9 := h7.2 c8
        refine ix_go 2 (x' := (42, [some (.inr (.inr (.inl (some (0))))), some (.inl (a0)), some (.inl (a1))], [.inl ((4 : Int32)), .inr (.inr (.inl (some (0))))], 0, 0, ix_mem 276 I7 J7 T7)) rfl trivial ?_
        refine ix_sp rfl ⟨rfl, ⟨ix_lt rfl, ix_eq rfl, ix_lt rfl⟩, ix_le rfl, Nat.le_refl _, Nat.le_refl _, tp_X11_refuse h9 (fun v11 I11 J11 T11 h11 => ?_)⟩
        change ix_W _ _ _ (45, [some (.inr (.inr (.inl (some (0))))), some (.inl (a0)), some (.inl (a1))], [.inl (v11)], 0, 0, ix_mem 276 I11 J11 T11)
        exact ix_sp rfl ⟨Nat.le_refl _, Nat.le_refl _, trivial, hQ _ _ _ _ h11⟩
    · have h6 := h4.2 c5
      refine ix_go 2 (x' := (26, [some (.inr (.inr (.inl (some (0))))), some (.inl (a0)), some (.inl (a1))], [.inl ((1 : Int32)), .inr (.inr (.inl (some (0))))], 0, 0, ix_mem 276 I4 J4 T4)) rfl trivial ?_
      refine ix_sp rfl ⟨rfl, ⟨ix_lt rfl, ix_eq rfl, ix_lt rfl⟩, ix_le rfl, Nat.le_refl _, Nat.le_refl _, tp_X11_refuse h6 (fun v12 I12 J12 T12 h12 => ?_)⟩
      change ix_W _ _ _ (29, [some (.inr (.inr (.inl (some (0))))), some (.inl (a0)), some (.inl (a1))], [.inl (v12)], 0, 0, ix_mem 276 I12 J12 T12)
      exact ix_sp rfl ⟨Nat.le_refl _, Nat.le_refl _, trivial, hQ _ _ _ _ h12⟩
  · have h3 := h1.2 c2
    refine ix_go 2 (x' := (26, [some (.inr (.inr (.inl (some (0))))), some (.inl (a0)), some (.inl (a1))], [.inl ((1 : Int32)), .inr (.inr (.inl (some (0))))], 0, 0, ix_mem 276 I1 J1 T1)) rfl trivial ?_
    refine ix_sp rfl ⟨rfl, ⟨ix_lt rfl, ix_eq rfl, ix_lt rfl⟩, ix_le rfl, Nat.le_refl _, Nat.le_refl _, tp_X11_refuse h3 (fun v13 I13 J13 T13 h13 => ?_)⟩
    change ix_W _ _ _ (29, [some (.inr (.inr (.inl (some (0))))), some (.inl (a0)), some (.inl (a1))], [.inl (v13)], 0, 0, ix_mem 276 I13 J13 T13)
    exact ix_sp rfl ⟨Nat.le_refl _, Nat.le_refl _, trivial, hQ _ _ _ _ h13⟩
def wp_X11_judge (a0 : Int32) (I : Nat → Nat → Int32) (J : Nat → Nat → Int64) (T : Option Nat) (P : Int32 → (Nat → Nat → Int32) → (Nat → Nat → Int64) → Option Nat → Prop) : Prop := wp_X11_outside ((a0).toInt64) ((0 : Int64)) ((999999 : Int64)) I J T (fun v1 I1 J1 T1 => ((v1 = 0 → wp_X3_nearestRuling (a0) I1 J1 T1 (fun v4 I4 J4 T4 => wp_X11_answerOrNoneSuch (v4) I4 J4 T4 (fun v5 I5 J5 T5 => P (v5) I5 J5 T5))) ∧ (¬ (v1 = 0) → wp_X11_refuse ((1 : Int32)) I1 J1 T1 (fun v6 I6 J6 T6 => P (v6) I6 J6 T6))))
set_option maxRecDepth 20000 in
theorem tp_X11_judge {d : Nat} {a0 : Int32} {I : Nat → Nat → Int32} {J : Nat → Nat → Int64} {T : Option Nat} {P : Int32 → (Nat → Nat → Int32) → (Nat → Nat → Int64) → Option Nat → Prop} {Q : ix_Q} (h : wp_X11_judge a0 I J T P) (hQ : ∀ v I J T, P v I J T → Q (some (.inl v)) (ix_mem 276 I J T)) : ix_C (d + 4) 225 [.inr (.inr (.inl (some (0)))), .inl (a0)] (ix_mem 276 I J T) Q := by
  unfold wp_X11_judge at h
  refine ix_enter (ls := [some (.inr (.inr (.inl (some (0))))), some (.inl (a0))]) rfl rfl rfl (Nat.le_of_ble_eq_true rfl) ?_
  refine ix_go 4 (x' := (6, [some (.inr (.inr (.inl (some (0))))), some (.inl (a0))], [.inr (.inl ((999999 : Int64))), .inr (.inl ((0 : Int64))), .inr (.inl ((a0).toInt64))], 0, 0, ix_mem 276 I J T)) rfl trivial ?_
  refine ix_sp rfl ⟨rfl, trivial, ix_le rfl, Nat.le_refl _, Nat.le_refl _, tp_X11_outside h (fun v1 I1 J1 T1 h1 => ?_)⟩
  change ix_W _ _ _ (9, [some (.inr (.inr (.inl (some (0))))), some (.inl (a0))], [.inl (v1)], 0, 0, ix_mem 276 I1 J1 T1)
  refine ix_go 1 (x' := (if v1 = 0 then 18 else 12, [some (.inr (.inr (.inl (some (0))))), some (.inl (a0))], [], 0, 0, ix_mem 276 I1 J1 T1)) rfl trivial ?_
  refine ix_br (fun c2 => ?_) (fun c2 => ?_)
  · have h3 := h1.1 c2
    refine ix_go 4 (x' := (24, [some (.inr (.inr (.inl (some (0))))), some (.inl (a0))], [.inl (a0), .inr (.inr (.inl (some (200)))), .inr (.inr (.inl (some (0))))], 0, 0, ix_mem 276 I1 J1 T1)) rfl ⟨rfl, rfl⟩ ?_
    refine ix_sp rfl ⟨rfl, ⟨ix_lt rfl, ix_eq rfl, ix_lt rfl⟩, ix_le rfl, Nat.le_refl _, Nat.le_refl _, tp_X3_nearestRuling h3 (fun v4 I4 J4 T4 h4 => ?_)⟩
    change ix_W _ _ _ (27, [some (.inr (.inr (.inl (some (0))))), some (.inl (a0))], [.inl (v4), .inr (.inr (.inl (some (0))))], 0, 0, ix_mem 276 I4 J4 T4)
    refine ix_sp rfl ⟨rfl, ⟨ix_lt rfl, ix_eq rfl, ix_lt rfl⟩, ix_le rfl, Nat.le_refl _, Nat.le_refl _, tp_X11_answerOrNoneSuch h4 (fun v5 I5 J5 T5 h5 => ?_)⟩
    change ix_W _ _ _ (30, [some (.inr (.inr (.inl (some (0))))), some (.inl (a0))], [.inl (v5)], 0, 0, ix_mem 276 I5 J5 T5)
    exact ix_sp rfl ⟨Nat.le_refl _, Nat.le_refl _, trivial, hQ _ _ _ _ h5⟩
  · have h3 := h1.2 c2
    refine ix_go 2 (x' := (14, [some (.inr (.inr (.inl (some (0))))), some (.inl (a0))], [.inl ((1 : Int32)), .inr (.inr (.inl (some (0))))], 0, 0, ix_mem 276 I1 J1 T1)) rfl trivial ?_
    refine ix_sp rfl ⟨rfl, ⟨ix_lt rfl, ix_eq rfl, ix_lt rfl⟩, ix_le rfl, Nat.le_refl _, Nat.le_refl _, tp_X11_refuse h3 (fun v6 I6 J6 T6 h6 => ?_)⟩
    change ix_W _ _ _ (17, [some (.inr (.inr (.inl (some (0))))), some (.inl (a0))], [.inl (v6)], 0, 0, ix_mem 276 I6 J6 T6)
    exact ix_sp rfl ⟨Nat.le_refl _, Nat.le_refl _, trivial, hQ _ _ _ _ h6⟩
def wp_X12_status (I : Nat → Nat → Int32) (J : Nat → Nat → Int64) (T : Option Nat) (P : Int32 → (Nat → Nat → Int32) → (Nat → Nat → Int64) → Option Nat → Prop) : Prop := P (I 204 0) I J T
set_option maxRecDepth 20000 in
theorem tp_X12_status {d : Nat} {I : Nat → Nat → Int32} {J : Nat → Nat → Int64} {T : Option Nat} {P : Int32 → (Nat → Nat → Int32) → (Nat → Nat → Int64) → Option Nat → Prop} {Q : ix_Q} (h : wp_X12_status I J T P) (hQ : ∀ v I J T, P v I J T → Q (some (.inl v)) (ix_mem 276 I J T)) : ix_C (d + 1) 227 [.inr (.inr (.inl (some (204))))] (ix_mem 276 I J T) Q := by
  unfold wp_X12_status at h
  refine ix_enter (ls := [some (.inr (.inr (.inl (some (204)))))]) rfl rfl rfl (Nat.le_of_ble_eq_true rfl) ?_
  refine ix_go 2 (x' := (4, [some (.inr (.inr (.inl (some (204)))))], [.inl (I 204 0)], 0, 0, ix_mem 276 I J T)) rfl ⟨rfl, rfl⟩ ?_
  exact ix_sp rfl ⟨Nat.le_refl _, Nat.le_refl _, trivial, hQ _ _ _ _ h⟩
def wp_X12_top (I : Nat → Nat → Int32) (J : Nat → Nat → Int64) (T : Option Nat) (P : Int64 → (Nat → Nat → Int32) → (Nat → Nat → Int64) → Option Nat → Prop) : Prop := P (J 204 1) I J T
set_option maxRecDepth 20000 in
theorem tp_X12_top {d : Nat} {I : Nat → Nat → Int32} {J : Nat → Nat → Int64} {T : Option Nat} {P : Int64 → (Nat → Nat → Int32) → (Nat → Nat → Int64) → Option Nat → Prop} {Q : ix_Q} (h : wp_X12_top I J T P) (hQ : ∀ v I J T, P v I J T → Q (some (.inr (.inl v))) (ix_mem 276 I J T)) : ix_C (d + 1) 228 [.inr (.inr (.inl (some (204))))] (ix_mem 276 I J T) Q := by
  unfold wp_X12_top at h
  refine ix_enter (ls := [some (.inr (.inr (.inl (some (204)))))]) rfl rfl rfl (Nat.le_of_ble_eq_true rfl) ?_
  refine ix_go 2 (x' := (4, [some (.inr (.inr (.inl (some (204)))))], [.inr (.inl (J 204 1))], 0, 0, ix_mem 276 I J T)) rfl ⟨rfl, rfl⟩ ?_
  exact ix_sp rfl ⟨Nat.le_refl _, Nat.le_refl _, rfl, hQ _ _ _ _ h⟩
def wp_X12_bottom (I : Nat → Nat → Int32) (J : Nat → Nat → Int64) (T : Option Nat) (P : Int64 → (Nat → Nat → Int32) → (Nat → Nat → Int64) → Option Nat → Prop) : Prop := P (J 204 2) I J T
set_option maxRecDepth 20000 in
theorem tp_X12_bottom {d : Nat} {I : Nat → Nat → Int32} {J : Nat → Nat → Int64} {T : Option Nat} {P : Int64 → (Nat → Nat → Int32) → (Nat → Nat → Int64) → Option Nat → Prop} {Q : ix_Q} (h : wp_X12_bottom I J T P) (hQ : ∀ v I J T, P v I J T → Q (some (.inr (.inl v))) (ix_mem 276 I J T)) : ix_C (d + 1) 229 [.inr (.inr (.inl (some (204))))] (ix_mem 276 I J T) Q := by
  unfold wp_X12_bottom at h
  refine ix_enter (ls := [some (.inr (.inr (.inl (some (204)))))]) rfl rfl rfl (Nat.le_of_ble_eq_true rfl) ?_
  refine ix_go 2 (x' := (4, [some (.inr (.inr (.inl (some (204)))))], [.inr (.inl (J 204 2))], 0, 0, ix_mem 276 I J T)) rfl ⟨rfl, rfl⟩ ?_
  exact ix_sp rfl ⟨Nat.le_refl _, Nat.le_refl _, rfl, hQ _ _ _ _ h⟩
def wp_X12_is (a0 : Int32) (I : Nat → Nat → Int32) (J : Nat → Nat → Int64) (T : Option Nat) (P : Int32 → (Nat → Nat → Int32) → (Nat → Nat → Int64) → Option Nat → Prop) : Prop := ((a0 = 0 → P ((1 : Int32)) (ix_u2 I 204 0 (a0)) J T) ∧ (¬ (a0 = 0) → P ((0 : Int32)) (ix_u2 I 204 0 (a0)) J T))
set_option maxRecDepth 20000 in
theorem tp_X12_is {d : Nat} {a0 : Int32} {I : Nat → Nat → Int32} {J : Nat → Nat → Int64} {T : Option Nat} {P : Int32 → (Nat → Nat → Int32) → (Nat → Nat → Int64) → Option Nat → Prop} {Q : ix_Q} (h : wp_X12_is a0 I J T P) (hQ : ∀ v I J T, P v I J T → Q (some (.inl v)) (ix_mem 276 I J T)) : ix_C (d + 1) 230 [.inr (.inr (.inl (some (204)))), .inl (a0)] (ix_mem 276 I J T) Q := by
  unfold wp_X12_is at h
  refine ix_enter (ls := [some (.inr (.inr (.inl (some (204))))), some (.inl (a0))]) rfl rfl rfl (Nat.le_of_ble_eq_true rfl) ?_
  refine ix_go 5 (x' := (if a0 = 0 then 9 else 13, [some (.inr (.inr (.inl (some (204))))), some (.inl (a0))], [], 0, 0, ix_mem 276 (ix_u2 I 204 0 (a0)) J T)) rfl ⟨rfl, rfl⟩ ?_
  refine ix_br (fun c1 => ?_) (fun c1 => ?_)
  · have h2 := h.1 c1
    refine ix_go 2 (x' := (14, [some (.inr (.inr (.inl (some (204))))), some (.inl (a0))], [.inl ((1 : Int32))], 0, 0, ix_mem 276 (ix_u2 I 204 0 (a0)) J T)) rfl trivial ?_
    exact ix_sp rfl ⟨Nat.le_refl _, Nat.le_refl _, ix_01_ok rfl, hQ _ _ _ _ h2⟩
  · have h2 := h.2 c1
    refine ix_go 1 (x' := (14, [some (.inr (.inr (.inl (some (204))))), some (.inl (a0))], [.inl ((0 : Int32))], 0, 0, ix_mem 276 (ix_u2 I 204 0 (a0)) J T)) rfl trivial ?_
    exact ix_sp rfl ⟨Nat.le_refl _, Nat.le_refl _, ix_01_ok rfl, hQ _ _ _ _ h2⟩
def wp_X12_refuse (a0 : Int32) (I : Nat → Nat → Int32) (J : Nat → Nat → Int64) (T : Option Nat) (P : Int32 → (Nat → Nat → Int32) → (Nat → Nat → Int64) → Option Nat → Prop) : Prop := P ((-1 : Int32)) (ix_u2 I 204 0 (a0)) J T
set_option maxRecDepth 20000 in
theorem tp_X12_refuse {d : Nat} {a0 : Int32} {I : Nat → Nat → Int32} {J : Nat → Nat → Int64} {T : Option Nat} {P : Int32 → (Nat → Nat → Int32) → (Nat → Nat → Int64) → Option Nat → Prop} {Q : ix_Q} (h : wp_X12_refuse a0 I J T P) (hQ : ∀ v I J T, P v I J T → Q (some (.inl v)) (ix_mem 276 I J T)) : ix_C (d + 1) 231 [.inr (.inr (.inl (some (204)))), .inl (a0)] (ix_mem 276 I J T) Q := by
  unfold wp_X12_refuse at h
  refine ix_enter (ls := [some (.inr (.inr (.inl (some (204))))), some (.inl (a0))]) rfl rfl rfl (Nat.le_of_ble_eq_true rfl) ?_
  refine ix_go 4 (x' := (6, [some (.inr (.inr (.inl (some (204))))), some (.inl (a0))], [.inl ((-1 : Int32))], 0, 0, ix_mem 276 (ix_u2 I 204 0 (a0)) J T)) rfl ⟨rfl, rfl⟩ ?_
  exact ix_sp rfl ⟨Nat.le_refl _, Nat.le_refl _, trivial, hQ _ _ _ _ h⟩
def wp_X12_gives (a0 : Int32) (I : Nat → Nat → Int32) (J : Nat → Nat → Int64) (T : Option Nat) (P : Int32 → (Nat → Nat → Int32) → (Nat → Nat → Int64) → Option Nat → Prop) : Prop := P (a0) (ix_u2 I 204 0 ((0 : Int32))) J T
set_option maxRecDepth 20000 in
theorem tp_X12_gives {d : Nat} {a0 : Int32} {I : Nat → Nat → Int32} {J : Nat → Nat → Int64} {T : Option Nat} {P : Int32 → (Nat → Nat → Int32) → (Nat → Nat → Int64) → Option Nat → Prop} {Q : ix_Q} (h : wp_X12_gives a0 I J T P) (hQ : ∀ v I J T, P v I J T → Q (some (.inl v)) (ix_mem 276 I J T)) : ix_C (d + 1) 232 [.inr (.inr (.inl (some (204)))), .inl (a0)] (ix_mem 276 I J T) Q := by
  unfold wp_X12_gives at h
  refine ix_enter (ls := [some (.inr (.inr (.inl (some (204))))), some (.inl (a0))]) rfl rfl rfl (Nat.le_of_ble_eq_true rfl) ?_
  refine ix_go 4 (x' := (6, [some (.inr (.inr (.inl (some (204))))), some (.inl (a0))], [.inl (a0)], 0, 0, ix_mem 276 (ix_u2 I 204 0 ((0 : Int32))) J T)) rfl ⟨rfl, rfl⟩ ?_
  exact ix_sp rfl ⟨Nat.le_refl _, Nat.le_refl _, trivial, hQ _ _ _ _ h⟩
def wp_X12_givesLong (a0 : Int64) (I : Nat → Nat → Int32) (J : Nat → Nat → Int64) (T : Option Nat) (P : Int64 → (Nat → Nat → Int32) → (Nat → Nat → Int64) → Option Nat → Prop) : Prop := P (a0) (ix_u2 I 204 0 ((0 : Int32))) J T
set_option maxRecDepth 20000 in
theorem tp_X12_givesLong {d : Nat} {a0 : Int64} {I : Nat → Nat → Int32} {J : Nat → Nat → Int64} {T : Option Nat} {P : Int64 → (Nat → Nat → Int32) → (Nat → Nat → Int64) → Option Nat → Prop} {Q : ix_Q} (h : wp_X12_givesLong a0 I J T P) (hQ : ∀ v I J T, P v I J T → Q (some (.inr (.inl v))) (ix_mem 276 I J T)) : ix_C (d + 1) 233 [.inr (.inr (.inl (some (204)))), .inr (.inl (a0))] (ix_mem 276 I J T) Q := by
  unfold wp_X12_givesLong at h
  refine ix_enter (ls := [some (.inr (.inr (.inl (some (204))))), some (.inr (.inl (a0))), none]) rfl rfl rfl (Nat.le_of_ble_eq_true rfl) ?_
  refine ix_go 4 (x' := (6, [some (.inr (.inr (.inl (some (204))))), some (.inr (.inl (a0))), none], [.inr (.inl (a0))], 0, 0, ix_mem 276 (ix_u2 I 204 0 ((0 : Int32))) J T)) rfl ⟨rfl, rfl⟩ ?_
  exact ix_sp rfl ⟨Nat.le_refl _, Nat.le_refl _, rfl, hQ _ _ _ _ h⟩
def wp_X12_isTray (a0 : Int32) (I : Nat → Nat → Int32) (J : Nat → Nat → Int64) (T : Option Nat) (P : Int32 → (Nat → Nat → Int32) → (Nat → Nat → Int64) → Option Nat → Prop) : Prop := ((a0 < 0 → P ((0 : Int32)) I J T) ∧ (¬ (a0 < 0) → ((a0 < (4 : Int32) → P ((1 : Int32)) I J T) ∧ (¬ (a0 < (4 : Int32)) → P ((0 : Int32)) I J T))))
set_option maxRecDepth 20000 in
theorem tp_X12_isTray {d : Nat} {a0 : Int32} {I : Nat → Nat → Int32} {J : Nat → Nat → Int64} {T : Option Nat} {P : Int32 → (Nat → Nat → Int32) → (Nat → Nat → Int64) → Option Nat → Prop} {Q : ix_Q} (h : wp_X12_isTray a0 I J T P) (hQ : ∀ v I J T, P v I J T → Q (some (.inl v)) (ix_mem 276 I J T)) : ix_C (d + 1) 234 [.inl (a0)] (ix_mem 276 I J T) Q := by
  unfold wp_X12_isTray at h
  refine ix_enter (ls := [some (.inl (a0))]) rfl rfl rfl (Nat.le_of_ble_eq_true rfl) ?_
  refine ix_go 2 (x' := (if a0 < 0 then 13 else 4, [some (.inl (a0))], [], 0, 0, ix_mem 276 I J T)) rfl trivial ?_
  refine ix_br (fun c1 => ?_) (fun c1 => ?_)
  · have h2 := h.1 c1
    refine ix_go 1 (x' := (14, [some (.inl (a0))], [.inl ((0 : Int32))], 0, 0, ix_mem 276 I J T)) rfl trivial ?_
    exact ix_sp rfl ⟨Nat.le_refl _, Nat.le_refl _, ix_01_ok rfl, hQ _ _ _ _ h2⟩
  · have h2 := h.2 c1
    refine ix_go 3 (x' := (if a0 < (4 : Int32) then 9 else 13, [some (.inl (a0))], [], 0, 0, ix_mem 276 I J T)) rfl trivial ?_
    refine ix_br (fun c3 => ?_) (fun c3 => ?_)
    · have h4 := h2.1 c3
      refine ix_go 2 (x' := (14, [some (.inl (a0))], [.inl ((1 : Int32))], 0, 0, ix_mem 276 I J T)) rfl trivial ?_
      exact ix_sp rfl ⟨Nat.le_refl _, Nat.le_refl _, ix_01_ok rfl, hQ _ _ _ _ h4⟩
    · have h4 := h2.2 c3
      refine ix_go 1 (x' := (14, [some (.inl (a0))], [.inl ((0 : Int32))], 0, 0, ix_mem 276 I J T)) rfl trivial ?_
      exact ix_sp rfl ⟨Nat.le_refl _, Nat.le_refl _, ix_01_ok rfl, hQ _ _ _ _ h4⟩
def wp_X12_cut (a0 : Int64) (a1 : Int32) (I : Nat → Nat → Int32) (J : Nat → Nat → Int64) (T : Option Nat) (P : Int64 → (Nat → Nat → Int32) → (Nat → Nat → Int64) → Option Nat → Prop) : Prop := ((a1 = 0 → P ((((a0).toInt32).toInt8.toInt32).toInt64) I J T) ∧ (¬ (a1 = 0) → ((a1 = (1 : Int32) → P ((((a0).toInt32).toInt16.toInt32).toInt64) I J T) ∧ (¬ (a1 = (1 : Int32)) → ((a1 = (2 : Int32) → P (((a0).toInt32).toInt64) I J T) ∧ (¬ (a1 = (2 : Int32)) → P (a0) I J T))))))
set_option maxRecDepth 20000 in
theorem tp_X12_cut {d : Nat} {a0 : Int64} {a1 : Int32} {I : Nat → Nat → Int32} {J : Nat → Nat → Int64} {T : Option Nat} {P : Int64 → (Nat → Nat → Int32) → (Nat → Nat → Int64) → Option Nat → Prop} {Q : ix_Q} (h : wp_X12_cut a0 a1 I J T P) (hQ : ∀ v I J T, P v I J T → Q (some (.inr (.inl v))) (ix_mem 276 I J T)) : ix_C (d + 1) 235 [.inr (.inl (a0)), .inl (a1)] (ix_mem 276 I J T) Q := by
  unfold wp_X12_cut at h
  refine ix_enter (ls := [some (.inr (.inl (a0))), none, some (.inl (a1))]) rfl rfl rfl (Nat.le_of_ble_eq_true rfl) ?_
  refine ix_go 2 (x' := (if a1 = 0 then 4 else 11, [some (.inr (.inl (a0))), none, some (.inl (a1))], [], 0, 0, ix_mem 276 I J T)) rfl trivial ?_
  refine ix_br (fun c1 => ?_) (fun c1 => ?_)
  · have h2 := h.1 c1
    refine ix_go 5 (x' := (35, [some (.inr (.inl (a0))), none, some (.inl (a1))], [.inr (.inl ((((a0).toInt32).toInt8.toInt32).toInt64))], 0, 0, ix_mem 276 I J T)) rfl trivial ?_
    exact ix_sp rfl ⟨Nat.le_refl _, Nat.le_refl _, rfl, hQ _ _ _ _ h2⟩
  · have h2 := h.2 c1
    refine ix_go 3 (x' := (if a1 = (1 : Int32) then 16 else 23, [some (.inr (.inl (a0))), none, some (.inl (a1))], [], 0, 0, ix_mem 276 I J T)) rfl trivial ?_
    refine ix_br (fun c3 => ?_) (fun c3 => ?_)
    · have h4 := h2.1 c3
      refine ix_go 5 (x' := (35, [some (.inr (.inl (a0))), none, some (.inl (a1))], [.inr (.inl ((((a0).toInt32).toInt16.toInt32).toInt64))], 0, 0, ix_mem 276 I J T)) rfl trivial ?_
      exact ix_sp rfl ⟨Nat.le_refl _, Nat.le_refl _, rfl, hQ _ _ _ _ h4⟩
    · have h4 := h2.2 c3
      refine ix_go 3 (x' := (if a1 = (2 : Int32) then 28 else 34, [some (.inr (.inl (a0))), none, some (.inl (a1))], [], 0, 0, ix_mem 276 I J T)) rfl trivial ?_
      refine ix_br (fun c5 => ?_) (fun c5 => ?_)
      · have h6 := h4.1 c5
        refine ix_go 4 (x' := (35, [some (.inr (.inl (a0))), none, some (.inl (a1))], [.inr (.inl (((a0).toInt32).toInt64))], 0, 0, ix_mem 276 I J T)) rfl trivial ?_
        exact ix_sp rfl ⟨Nat.le_refl _, Nat.le_refl _, rfl, hQ _ _ _ _ h6⟩
      · have h6 := h4.2 c5
        refine ix_go 1 (x' := (35, [some (.inr (.inl (a0))), none, some (.inl (a1))], [.inr (.inl (a0))], 0, 0, ix_mem 276 I J T)) rfl trivial ?_
        exact ix_sp rfl ⟨Nat.le_refl _, Nat.le_refl _, rfl, hQ _ _ _ _ h6⟩
def wb_X12_tray_49 (x1 : Int32) (x3 : Int32) (x4 : Int32) (I : Nat → Nat → Int32) (J : Nat → Nat → Int64) (T : Option Nat) (V49 : Int32 → Int32 → Int32 → (Nat → Nat → Int32) → (Nat → Nat → Int64) → Option Nat → Prop) (P : Int32 → (Nat → Nat → Int32) → (Nat → Nat → Int64) → Option Nat → Prop) : Prop := ((x4 < x3 → ix_inb ((((60 : Int32)) * (x1)) + (x4)) 240 = true ∧ V49 (x1) (x3) (x4 + (1 : Int32)) I (ix_u2 J 207 ((((60 : Int32)) * (x1)) + (x4)).toNatClampNeg ((0 : Int64))) T) ∧ (¬ (x4 < x3) → wp_X12_is ((0 : Int32)) I J T (fun v23 I23 J23 T23 => ix_01 (v23) = true ∧ P (v23) I23 J23 T23)))
def wl_X12_tray_49 (x1 : Int32) (x3 : Int32) (x4 : Int32) (I : Nat → Nat → Int32) (J : Nat → Nat → Int64) (T : Option Nat) (P : Int32 → (Nat → Nat → Int32) → (Nat → Nat → Int64) → Option Nat → Prop) : Prop := ∀ V : Int32 → Int32 → Int32 → (Nat → Nat → Int32) → (Nat → Nat → Int64) → Option Nat → Prop, (∀ (x1 : Int32) (x3 : Int32) (x4 : Int32) (I : Nat → Nat → Int32) (J : Nat → Nat → Int64) (T : Option Nat), wb_X12_tray_49 x1 x3 x4 I J T V P → V x1 x3 x4 I J T) → V x1 x3 x4 I J T
set_option maxRecDepth 20000 in
theorem tl_X12_tray_49 {d : Nat} {x1 : Int32} {x3 : Int32} {x4 : Int32} {I : Nat → Nat → Int32} {J : Nat → Nat → Int64} {T : Option Nat} {P : Int32 → (Nat → Nat → Int32) → (Nat → Nat → Int64) → Option Nat → Prop} {Q : ix_Q} (h : wl_X12_tray_49 x1 x3 x4 I J T P) (hQ : ∀ v I J T, P v I J T → Q (some (.inl v)) (ix_mem 276 I J T)) : ix_W (ix_C (d + 1)) (12, ix_lk ix_l236, (some .boolean), 0, 0, Nat.blt 0 0, none) Q (49, [some (.inr (.inr (.inl (some (204))))), some (.inl (x1)), none, some (.inl (x3)), some (.inl (x4))], [], 0, 0, ix_mem 276 I J T) := by
  refine h (fun x1 x3 x4 I J T => ix_W (ix_C (d + 1)) (12, ix_lk ix_l236, (some .boolean), 0, 0, Nat.blt 0 0, none) Q (49, [some (.inr (.inr (.inl (some (204))))), some (.inl (x1)), none, some (.inl (x3)), some (.inl (x4))], [], 0, 0, ix_mem 276 I J T)) ?_
  intro x1 x3 x4 I J T hb
  unfold wb_X12_tray_49 at hb
  refine ix_go 3 (x' := (if x4 < x3 then 55 else 74, [some (.inr (.inr (.inl (some (204))))), some (.inl (x1)), none, some (.inl (x3)), some (.inl (x4))], [], 0, 0, ix_mem 276 I J T)) rfl trivial ?_
  refine ix_br (fun c19 => ?_) (fun c19 => ?_)
  · have h20 := hb.1 c19
    refine ix_go 7 (x' := (66, [some (.inr (.inr (.inl (some (204))))), some (.inl (x1)), none, some (.inl (x3)), some (.inl (x4))], [.inl ((((60 : Int32)) * (x1)) + (x4)), .inr (.inr (.inl (some (207))))], 0, 0, ix_mem 276 I J T)) rfl ⟨rfl, rfl⟩ ?_
    obtain ⟨p21, h22⟩ := h20
    refine ix_go 4 (x' := (49, [some (.inr (.inr (.inl (some (204))))), some (.inl (x1)), none, some (.inl (x3)), some (.inl (x4 + (1 : Int32)))], [], 0, 0, ix_mem 276 I (ix_u2 J 207 ((((60 : Int32)) * (x1)) + (x4)).toNatClampNeg ((0 : Int64))) T)) rfl ⟨rfl, rfl, p21⟩ ?_
    refine ix_subW ([some (.inr (.inr (.inl (some (204))))), some (.inl (x1)), none, some (.inl (x3)), some (.inl (x4 + (1 : Int32)))]) (ix_subS (ix_subS (ix_subS (ix_subS (ix_subS (ix_sub0)))))) ?_
    exact h22
  · have h20 := hb.2 c19
    refine ix_go 2 (x' := (76, [some (.inr (.inr (.inl (some (204))))), some (.inl (x1)), none, some (.inl (x3)), some (.inl (x4))], [.inl ((0 : Int32)), .inr (.inr (.inl (some (204))))], 0, 0, ix_mem 276 I J T)) rfl trivial ?_
    refine ix_sp rfl ⟨rfl, ⟨ix_lt rfl, ix_eq rfl, ix_lt rfl⟩, ix_le rfl, Nat.le_refl _, Nat.le_refl _, tp_X12_is h20 (fun v23 I23 J23 T23 h23 => ?_)⟩
    change ix_W _ _ _ (79, [some (.inr (.inr (.inl (some (204))))), some (.inl (x1)), none, some (.inl (x3)), some (.inl (x4))], [.inl (v23)], 0, 0, ix_mem 276 I23 J23 T23)
    exact ix_sp rfl ⟨Nat.le_refl _, Nat.le_refl _, ix_01_ok h23.1, hQ _ _ _ _ h23.2⟩
def wp_X12_tray (a0 : Int32) (a1 : Int32) (a2 : Int32) (I : Nat → Nat → Int32) (J : Nat → Nat → Int64) (T : Option Nat) (P : Int32 → (Nat → Nat → Int32) → (Nat → Nat → Int64) → Option Nat → Prop) : Prop := wp_X12_isTray (a0) I J T (fun v1 I1 J1 T1 => ((v1 = 0 → wp_X12_is ((1 : Int32)) I1 J1 T1 (fun v4 I4 J4 T4 => ix_01 (v4) = true ∧ P (v4) I4 J4 T4)) ∧ (¬ (v1 = 0) → ((a1 < 0 → wp_X12_is ((1 : Int32)) I1 J1 T1 (fun v7 I7 J7 T7 => ix_01 (v7) = true ∧ P (v7) I7 J7 T7)) ∧ (¬ (a1 < 0) → ((a1 ≤ (3 : Int32) → ((a2 < 0 → wp_X12_is ((1 : Int32)) I1 J1 T1 (fun v12 I12 J12 T12 => ix_01 (v12) = true ∧ P (v12) I12 J12 T12)) ∧ (¬ (a2 < 0) → ((a2 ≤ (60 : Int32) → ix_inb (a0) 4 = true ∧ ix_inb (a0) 4 = true ∧ wl_X12_tray_49 (a0) (a2) ((0 : Int32)) (ix_u2 (ix_u2 I1 205 (a0).toNatClampNeg (a1)) 206 (a0).toNatClampNeg (a2)) J1 T1 P) ∧ (¬ (a2 ≤ (60 : Int32)) → wp_X12_is ((1 : Int32)) I1 J1 T1 (fun v24 I24 J24 T24 => ix_01 (v24) = true ∧ P (v24) I24 J24 T24)))))) ∧ (¬ (a1 ≤ (3 : Int32)) → wp_X12_is ((1 : Int32)) I1 J1 T1 (fun v25 I25 J25 T25 => ix_01 (v25) = true ∧ P (v25) I25 J25 T25))))))))
set_option maxRecDepth 20000 in
theorem tp_X12_tray {d : Nat} {a0 : Int32} {a1 : Int32} {a2 : Int32} {I : Nat → Nat → Int32} {J : Nat → Nat → Int64} {T : Option Nat} {P : Int32 → (Nat → Nat → Int32) → (Nat → Nat → Int64) → Option Nat → Prop} {Q : ix_Q} (h : wp_X12_tray a0 a1 a2 I J T P) (hQ : ∀ v I J T, P v I J T → Q (some (.inl v)) (ix_mem 276 I J T)) : ix_C (d + 2) 236 [.inr (.inr (.inl (some (204)))), .inl (a0), .inl (a1), .inl (a2)] (ix_mem 276 I J T) Q := by
  unfold wp_X12_tray at h
  refine ix_enter (ls := [some (.inr (.inr (.inl (some (204))))), some (.inl (a0)), some (.inl (a1)), some (.inl (a2)), none]) rfl rfl rfl (Nat.le_of_ble_eq_true rfl) ?_
  refine ix_go 1 (x' := (1, [some (.inr (.inr (.inl (some (204))))), some (.inl (a0)), some (.inl (a1)), some (.inl (a2)), none], [.inl (a0)], 0, 0, ix_mem 276 I J T)) rfl trivial ?_
  refine ix_sp rfl ⟨rfl, trivial, ix_le rfl, Nat.le_refl _, Nat.le_refl _, tp_X12_isTray h (fun v1 I1 J1 T1 h1 => ?_)⟩
  change ix_W _ _ _ (4, [some (.inr (.inr (.inl (some (204))))), some (.inl (a0)), some (.inl (a1)), some (.inl (a2)), none], [.inl (v1)], 0, 0, ix_mem 276 I1 J1 T1)
  refine ix_go 1 (x' := (if v1 = 0 then 26 else 7, [some (.inr (.inr (.inl (some (204))))), some (.inl (a0)), some (.inl (a1)), some (.inl (a2)), none], [], 0, 0, ix_mem 276 I1 J1 T1)) rfl trivial ?_
  refine ix_br (fun c2 => ?_) (fun c2 => ?_)
  · have h3 := h1.1 c2
    refine ix_go 2 (x' := (28, [some (.inr (.inr (.inl (some (204))))), some (.inl (a0)), some (.inl (a1)), some (.inl (a2)), none], [.inl ((1 : Int32)), .inr (.inr (.inl (some (204))))], 0, 0, ix_mem 276 I1 J1 T1)) rfl trivial ?_
    refine ix_sp rfl ⟨rfl, ⟨ix_lt rfl, ix_eq rfl, ix_lt rfl⟩, ix_le rfl, Nat.le_refl _, Nat.le_refl _, tp_X12_is h3 (fun v4 I4 J4 T4 h4 => ?_)⟩
    change ix_W _ _ _ (31, [some (.inr (.inr (.inl (some (204))))), some (.inl (a0)), some (.inl (a1)), some (.inl (a2)), none], [.inl (v4)], 0, 0, ix_mem 276 I4 J4 T4)
    exact ix_sp rfl ⟨Nat.le_refl _, Nat.le_refl _, ix_01_ok h4.1, hQ _ _ _ _ h4.2⟩
  · have h3 := h1.2 c2
    refine ix_go 2 (x' := (if a1 < 0 then 26 else 11, [some (.inr (.inr (.inl (some (204))))), some (.inl (a0)), some (.inl (a1)), some (.inl (a2)), none], [], 0, 0, ix_mem 276 I1 J1 T1)) rfl trivial ?_
    refine ix_br (fun c5 => ?_) (fun c5 => ?_)
    · have h6 := h3.1 c5
      refine ix_go 2 (x' := (28, [some (.inr (.inr (.inl (some (204))))), some (.inl (a0)), some (.inl (a1)), some (.inl (a2)), none], [.inl ((1 : Int32)), .inr (.inr (.inl (some (204))))], 0, 0, ix_mem 276 I1 J1 T1)) rfl trivial ?_
      refine ix_sp rfl ⟨rfl, ⟨ix_lt rfl, ix_eq rfl, ix_lt rfl⟩, ix_le rfl, Nat.le_refl _, Nat.le_refl _, tp_X12_is h6 (fun v7 I7 J7 T7 h7 => ?_)⟩
      change ix_W _ _ _ (31, [some (.inr (.inr (.inl (some (204))))), some (.inl (a0)), some (.inl (a1)), some (.inl (a2)), none], [.inl (v7)], 0, 0, ix_mem 276 I7 J7 T7)
      exact ix_sp rfl ⟨Nat.le_refl _, Nat.le_refl _, ix_01_ok h7.1, hQ _ _ _ _ h7.2⟩
    · have h6 := h3.2 c5
      refine ix_go 3 (x' := (if a1 ≤ (3 : Int32) then 16 else 26, [some (.inr (.inr (.inl (some (204))))), some (.inl (a0)), some (.inl (a1)), some (.inl (a2)), none], [], 0, 0, ix_mem 276 I1 J1 T1)) rfl trivial ?_
      refine ix_br (fun c8 => ?_) (fun c8 => ?_)
      · have h9 := h6.1 c8
        refine ix_go 2 (x' := (if a2 < 0 then 26 else 20, [some (.inr (.inr (.inl (some (204))))), some (.inl (a0)), some (.inl (a1)), some (.inl (a2)), none], [], 0, 0, ix_mem 276 I1 J1 T1)) rfl trivial ?_
        refine ix_br (fun c10 => ?_) (fun c10 => ?_)
        · have h11 := h9.1 c10
          refine ix_go 2 (x' := (28, [some (.inr (.inr (.inl (some (204))))), some (.inl (a0)), some (.inl (a1)), some (.inl (a2)), none], [.inl ((1 : Int32)), .inr (.inr (.inl (some (204))))], 0, 0, ix_mem 276 I1 J1 T1)) rfl trivial ?_
          refine ix_sp rfl ⟨rfl, ⟨ix_lt rfl, ix_eq rfl, ix_lt rfl⟩, ix_le rfl, Nat.le_refl _, Nat.le_refl _, tp_X12_is h11 (fun v12 I12 J12 T12 h12 => ?_)⟩
          change ix_W _ _ _ (31, [some (.inr (.inr (.inl (some (204))))), some (.inl (a0)), some (.inl (a1)), some (.inl (a2)), none], [.inl (v12)], 0, 0, ix_mem 276 I12 J12 T12)
          exact ix_sp rfl ⟨Nat.le_refl _, Nat.le_refl _, ix_01_ok h12.1, hQ _ _ _ _ h12.2⟩
        · have h11 := h9.2 c10
          refine ix_go 3 (x' := (if a2 ≤ (60 : Int32) then 32 else 26, [some (.inr (.inr (.inl (some (204))))), some (.inl (a0)), some (.inl (a1)), some (.inl (a2)), none], [], 0, 0, ix_mem 276 I1 J1 T1)) rfl trivial ?_
          refine ix_br (fun c13 => ?_) (fun c13 => ?_)
          · have h14 := h11.1 c13
            obtain ⟨p15, h16⟩ := h14
            refine ix_go 7 (x' := (43, [some (.inr (.inr (.inl (some (204))))), some (.inl (a0)), some (.inl (a1)), some (.inl (a2)), none], [.inr (.inr (.inl (some (206))))], 0, 0, ix_mem 276 (ix_u2 I1 205 (a0).toNatClampNeg (a1)) J1 T1)) rfl ⟨rfl, rfl, rfl, rfl, p15, rfl, rfl⟩ ?_
            obtain ⟨p17, h18⟩ := h16
            refine ix_go 5 (x' := (49, [some (.inr (.inr (.inl (some (204))))), some (.inl (a0)), some (.inl (a1)), some (.inl (a2)), some (.inl ((0 : Int32)))], [], 0, 0, ix_mem 276 (ix_u2 (ix_u2 I1 205 (a0).toNatClampNeg (a1)) 206 (a0).toNatClampNeg (a2)) J1 T1)) rfl ⟨rfl, rfl, p17⟩ ?_
            refine ix_subW ([some (.inr (.inr (.inl (some (204))))), some (.inl (a0)), none, some (.inl (a2)), some (.inl ((0 : Int32)))]) (ix_subS (ix_subS (ix_subN (ix_subS (ix_subS (ix_sub0)))))) ?_
            exact tl_X12_tray_49 h18 hQ
          · have h14 := h11.2 c13
            refine ix_go 2 (x' := (28, [some (.inr (.inr (.inl (some (204))))), some (.inl (a0)), some (.inl (a1)), some (.inl (a2)), none], [.inl ((1 : Int32)), .inr (.inr (.inl (some (204))))], 0, 0, ix_mem 276 I1 J1 T1)) rfl trivial ?_
            refine ix_sp rfl ⟨rfl, ⟨ix_lt rfl, ix_eq rfl, ix_lt rfl⟩, ix_le rfl, Nat.le_refl _, Nat.le_refl _, tp_X12_is h14 (fun v24 I24 J24 T24 h24 => ?_)⟩
            change ix_W _ _ _ (31, [some (.inr (.inr (.inl (some (204))))), some (.inl (a0)), some (.inl (a1)), some (.inl (a2)), none], [.inl (v24)], 0, 0, ix_mem 276 I24 J24 T24)
            exact ix_sp rfl ⟨Nat.le_refl _, Nat.le_refl _, ix_01_ok h24.1, hQ _ _ _ _ h24.2⟩
      · have h9 := h6.2 c8
        refine ix_go 2 (x' := (28, [some (.inr (.inr (.inl (some (204))))), some (.inl (a0)), some (.inl (a1)), some (.inl (a2)), none], [.inl ((1 : Int32)), .inr (.inr (.inl (some (204))))], 0, 0, ix_mem 276 I1 J1 T1)) rfl trivial ?_
        refine ix_sp rfl ⟨rfl, ⟨ix_lt rfl, ix_eq rfl, ix_lt rfl⟩, ix_le rfl, Nat.le_refl _, Nat.le_refl _, tp_X12_is h9 (fun v25 I25 J25 T25 h25 => ?_)⟩
        change ix_W _ _ _ (31, [some (.inr (.inr (.inl (some (204))))), some (.inl (a0)), some (.inl (a1)), some (.inl (a2)), none], [.inl (v25)], 0, 0, ix_mem 276 I25 J25 T25)
        exact ix_sp rfl ⟨Nat.le_refl _, Nat.le_refl _, ix_01_ok h25.1, hQ _ _ _ _ h25.2⟩
def wp_X12_wrongPlace (a0 : Int32) (a1 : Int32) (I : Nat → Nat → Int32) (J : Nat → Nat → Int64) (T : Option Nat) (P : Int32 → (Nat → Nat → Int32) → (Nat → Nat → Int64) → Option Nat → Prop) : Prop := wp_X12_isTray (a0) I J T (fun v1 I1 J1 T1 => ((v1 = 0 → P ((1 : Int32)) I1 J1 T1) ∧ (¬ (v1 = 0) → ix_inb (a0) 4 = true ∧ ((I1 206 (a0).toNatClampNeg = (-1 : Int32) → P ((2 : Int32)) I1 J1 T1) ∧ (¬ (I1 206 (a0).toNatClampNeg = (-1 : Int32)) → ((a1 < 0 → P ((3 : Int32)) I1 J1 T1) ∧ (¬ (a1 < 0) → ix_inb (a0) 4 = true ∧ ((a1 < I1 206 (a0).toNatClampNeg → P ((0 : Int32)) I1 J1 T1) ∧ (¬ (a1 < I1 206 (a0).toNatClampNeg) → P ((3 : Int32)) I1 J1 T1)))))))))
set_option maxRecDepth 20000 in
theorem tp_X12_wrongPlace {d : Nat} {a0 : Int32} {a1 : Int32} {I : Nat → Nat → Int32} {J : Nat → Nat → Int64} {T : Option Nat} {P : Int32 → (Nat → Nat → Int32) → (Nat → Nat → Int64) → Option Nat → Prop} {Q : ix_Q} (h : wp_X12_wrongPlace a0 a1 I J T P) (hQ : ∀ v I J T, P v I J T → Q (some (.inl v)) (ix_mem 276 I J T)) : ix_C (d + 2) 237 [.inr (.inr (.inl (some (204)))), .inl (a0), .inl (a1)] (ix_mem 276 I J T) Q := by
  unfold wp_X12_wrongPlace at h
  refine ix_enter (ls := [some (.inr (.inr (.inl (some (204))))), some (.inl (a0)), some (.inl (a1))]) rfl rfl rfl (Nat.le_of_ble_eq_true rfl) ?_
  refine ix_go 1 (x' := (1, [some (.inr (.inr (.inl (some (204))))), some (.inl (a0)), some (.inl (a1))], [.inl (a0)], 0, 0, ix_mem 276 I J T)) rfl trivial ?_
  refine ix_sp rfl ⟨rfl, trivial, ix_le rfl, Nat.le_refl _, Nat.le_refl _, tp_X12_isTray h (fun v1 I1 J1 T1 h1 => ?_)⟩
  change ix_W _ _ _ (4, [some (.inr (.inr (.inl (some (204))))), some (.inl (a0)), some (.inl (a1))], [.inl (v1)], 0, 0, ix_mem 276 I1 J1 T1)
  refine ix_go 1 (x' := (if v1 = 0 then 7 else 11, [some (.inr (.inr (.inl (some (204))))), some (.inl (a0)), some (.inl (a1))], [], 0, 0, ix_mem 276 I1 J1 T1)) rfl trivial ?_
  refine ix_br (fun c2 => ?_) (fun c2 => ?_)
  · have h3 := h1.1 c2
    refine ix_go 2 (x' := (44, [some (.inr (.inr (.inl (some (204))))), some (.inl (a0)), some (.inl (a1))], [.inl ((1 : Int32))], 0, 0, ix_mem 276 I1 J1 T1)) rfl trivial ?_
    exact ix_sp rfl ⟨Nat.le_refl _, Nat.le_refl _, trivial, hQ _ _ _ _ h3⟩
  · have h3 := h1.2 c2
    obtain ⟨p4, h5⟩ := h3
    refine ix_go 6 (x' := (if I1 206 (a0).toNatClampNeg = (-1 : Int32) then 21 else 25, [some (.inr (.inr (.inl (some (204))))), some (.inl (a0)), some (.inl (a1))], [], 0, 0, ix_mem 276 I1 J1 T1)) rfl ⟨rfl, rfl, rfl, rfl, p4⟩ ?_
    refine ix_br (fun c6 => ?_) (fun c6 => ?_)
    · have h7 := h5.1 c6
      refine ix_go 2 (x' := (44, [some (.inr (.inr (.inl (some (204))))), some (.inl (a0)), some (.inl (a1))], [.inl ((2 : Int32))], 0, 0, ix_mem 276 I1 J1 T1)) rfl trivial ?_
      exact ix_sp rfl ⟨Nat.le_refl _, Nat.le_refl _, trivial, hQ _ _ _ _ h7⟩
    · have h7 := h5.2 c6
      refine ix_go 2 (x' := (if a1 < 0 then 39 else 29, [some (.inr (.inr (.inl (some (204))))), some (.inl (a0)), some (.inl (a1))], [], 0, 0, ix_mem 276 I1 J1 T1)) rfl trivial ?_
      refine ix_br (fun c8 => ?_) (fun c8 => ?_)
      · have h9 := h7.1 c8
        refine ix_go 2 (x' := (44, [some (.inr (.inr (.inl (some (204))))), some (.inl (a0)), some (.inl (a1))], [.inl ((3 : Int32))], 0, 0, ix_mem 276 I1 J1 T1)) rfl trivial ?_
        exact ix_sp rfl ⟨Nat.le_refl _, Nat.le_refl _, trivial, hQ _ _ _ _ h9⟩
      · have h9 := h7.2 c8
        obtain ⟨p10, h11⟩ := h9
        refine ix_go 6 (x' := (if a1 < I1 206 (a0).toNatClampNeg then 43 else 39, [some (.inr (.inr (.inl (some (204))))), some (.inl (a0)), some (.inl (a1))], [], 0, 0, ix_mem 276 I1 J1 T1)) rfl ⟨rfl, rfl, rfl, rfl, p10⟩ ?_
        refine ix_br (fun c12 => ?_) (fun c12 => ?_)
        · have h13 := h11.1 c12
          refine ix_go 1 (x' := (44, [some (.inr (.inr (.inl (some (204))))), some (.inl (a0)), some (.inl (a1))], [.inl ((0 : Int32))], 0, 0, ix_mem 276 I1 J1 T1)) rfl trivial ?_
          exact ix_sp rfl ⟨Nat.le_refl _, Nat.le_refl _, trivial, hQ _ _ _ _ h13⟩
        · have h13 := h11.2 c12
          refine ix_go 2 (x' := (44, [some (.inr (.inr (.inl (some (204))))), some (.inl (a0)), some (.inl (a1))], [.inl ((3 : Int32))], 0, 0, ix_mem 276 I1 J1 T1)) rfl trivial ?_
          exact ix_sp rfl ⟨Nat.le_refl _, Nat.le_refl _, trivial, hQ _ _ _ _ h13⟩
def wp_X12_write (a0 : Int32) (a1 : Int32) (a2 : Int64) (I : Nat → Nat → Int32) (J : Nat → Nat → Int64) (T : Option Nat) (P : Int32 → (Nat → Nat → Int32) → (Nat → Nat → Int64) → Option Nat → Prop) : Prop := wp_X12_wrongPlace (a0) (a1) I J T (fun v1 I1 J1 T1 => ((v1 = 0 → ix_inb (a0) 4 = true ∧ wp_X12_cut (a2) (I1 205 (a0).toNatClampNeg) I1 J1 T1 (fun v6 I6 J6 T6 => ix_inb ((((60 : Int32)) * (a0)) + (a1)) 240 = true ∧ wp_X12_is (v1) I6 (ix_u2 J6 207 ((((60 : Int32)) * (a0)) + (a1)).toNatClampNeg (v6)) T6 (fun v9 I9 J9 T9 => ix_01 (v9) = true ∧ P (v9) I9 J9 T9))) ∧ (¬ (v1 = 0) → wp_X12_is (v1) I1 J1 T1 (fun v10 I10 J10 T10 => ix_01 (v10) = true ∧ P (v10) I10 J10 T10))))
set_option maxRecDepth 20000 in
theorem tp_X12_write {d : Nat} {a0 : Int32} {a1 : Int32} {a2 : Int64} {I : Nat → Nat → Int32} {J : Nat → Nat → Int64} {T : Option Nat} {P : Int32 → (Nat → Nat → Int32) → (Nat → Nat → Int64) → Option Nat → Prop} {Q : ix_Q} (h : wp_X12_write a0 a1 a2 I J T P) (hQ : ∀ v I J T, P v I J T → Q (some (.inl v)) (ix_mem 276 I J T)) : ix_C (d + 3) 238 [.inr (.inr (.inl (some (204)))), .inl (a0), .inl (a1), .inr (.inl (a2))] (ix_mem 276 I J T) Q := by
  unfold wp_X12_write at h
  refine ix_enter (ls := [some (.inr (.inr (.inl (some (204))))), some (.inl (a0)), some (.inl (a1)), some (.inr (.inl (a2))), none, none]) rfl rfl rfl (Nat.le_of_ble_eq_true rfl) ?_
  refine ix_go 3 (x' := (3, [some (.inr (.inr (.inl (some (204))))), some (.inl (a0)), some (.inl (a1)), some (.inr (.inl (a2))), none, none], [.inl (a1), .inl (a0), .inr (.inr (.inl (some (204))))], 0, 0, ix_mem 276 I J T)) rfl trivial ?_
  refine ix_sp rfl ⟨rfl, ⟨ix_lt rfl, ix_eq rfl, ix_lt rfl⟩, ix_le rfl, Nat.le_refl _, Nat.le_refl _, tp_X12_wrongPlace h (fun v1 I1 J1 T1 h1 => ?_)⟩
  change ix_W _ _ _ (6, [some (.inr (.inr (.inl (some (204))))), some (.inl (a0)), some (.inl (a1)), some (.inr (.inl (a2))), none, none], [.inl (v1)], 0, 0, ix_mem 276 I1 J1 T1)
  refine ix_go 3 (x' := (if v1 = 0 then 13 else 34, [some (.inr (.inr (.inl (some (204))))), some (.inl (a0)), some (.inl (a1)), some (.inr (.inl (a2))), none, some (.inl (v1))], [], 0, 0, ix_mem 276 I1 J1 T1)) rfl trivial ?_
  refine ix_br (fun c2 => ?_) (fun c2 => ?_)
  · have h3 := h1.1 c2
    refine ix_go 7 (x' := (23, [some (.inr (.inr (.inl (some (204))))), some (.inl (a0)), some (.inl (a1)), some (.inr (.inl (a2))), none, some (.inl (v1))], [.inl ((((60 : Int32)) * (a0)) + (a1)), .inr (.inr (.inl (some (207))))], 0, 0, ix_mem 276 I1 J1 T1)) rfl ⟨rfl, rfl⟩ ?_
    obtain ⟨p4, h5⟩ := h3
    refine ix_go 5 (x' := (30, [some (.inr (.inr (.inl (some (204))))), some (.inl (a0)), some (.inl (a1)), some (.inr (.inl (a2))), none, some (.inl (v1))], [.inl (I1 205 (a0).toNatClampNeg), .inr (.inl (a2)), .inl ((((60 : Int32)) * (a0)) + (a1)), .inr (.inr (.inl (some (207))))], 0, 0, ix_mem 276 I1 J1 T1)) rfl ⟨rfl, rfl, rfl, rfl, p4⟩ ?_
    refine ix_sp rfl ⟨rfl, trivial, ix_le rfl, Nat.le_refl _, Nat.le_refl _, tp_X12_cut h5 (fun v6 I6 J6 T6 h6 => ?_)⟩
    change ix_W _ _ _ (33, [some (.inr (.inr (.inl (some (204))))), some (.inl (a0)), some (.inl (a1)), some (.inr (.inl (a2))), none, some (.inl (v1))], [.inr (.inl (v6)), .inl ((((60 : Int32)) * (a0)) + (a1)), .inr (.inr (.inl (some (207))))], 0, 0, ix_mem 276 I6 J6 T6)
    obtain ⟨p7, h8⟩ := h6
    refine ix_go 3 (x' := (37, [some (.inr (.inr (.inl (some (204))))), some (.inl (a0)), some (.inl (a1)), some (.inr (.inl (a2))), none, some (.inl (v1))], [.inl (v1), .inr (.inr (.inl (some (204))))], 0, 0, ix_mem 276 I6 (ix_u2 J6 207 ((((60 : Int32)) * (a0)) + (a1)).toNatClampNeg (v6)) T6)) rfl ⟨rfl, rfl, p7⟩ ?_
    refine ix_sp rfl ⟨rfl, ⟨ix_lt rfl, ix_eq rfl, ix_lt rfl⟩, ix_le rfl, Nat.le_refl _, Nat.le_refl _, tp_X12_is h8 (fun v9 I9 J9 T9 h9 => ?_)⟩
    change ix_W _ _ _ (40, [some (.inr (.inr (.inl (some (204))))), some (.inl (a0)), some (.inl (a1)), some (.inr (.inl (a2))), none, some (.inl (v1))], [.inl (v9)], 0, 0, ix_mem 276 I9 J9 T9)
    exact ix_sp rfl ⟨Nat.le_refl _, Nat.le_refl _, ix_01_ok h9.1, hQ _ _ _ _ h9.2⟩
  · have h3 := h1.2 c2
    refine ix_go 2 (x' := (37, [some (.inr (.inr (.inl (some (204))))), some (.inl (a0)), some (.inl (a1)), some (.inr (.inl (a2))), none, some (.inl (v1))], [.inl (v1), .inr (.inr (.inl (some (204))))], 0, 0, ix_mem 276 I1 J1 T1)) rfl trivial ?_
    refine ix_sp rfl ⟨rfl, ⟨ix_lt rfl, ix_eq rfl, ix_lt rfl⟩, ix_le rfl, Nat.le_refl _, Nat.le_refl _, tp_X12_is h3 (fun v10 I10 J10 T10 h10 => ?_)⟩
    change ix_W _ _ _ (40, [some (.inr (.inr (.inl (some (204))))), some (.inl (a0)), some (.inl (a1)), some (.inr (.inl (a2))), none, some (.inl (v1))], [.inl (v10)], 0, 0, ix_mem 276 I10 J10 T10)
    exact ix_sp rfl ⟨Nat.le_refl _, Nat.le_refl _, ix_01_ok h10.1, hQ _ _ _ _ h10.2⟩
def wb_X12_fill_65 (x1 : Int32) (x2 : Int32) (x3 : Int32) (x4 : Int64) (x6 : Int64) (x8 : Int32) (I : Nat → Nat → Int32) (J : Nat → Nat → Int64) (T : Option Nat) (V65 : Int32 → Int32 → Int32 → Int64 → Int64 → Int32 → (Nat → Nat → Int32) → (Nat → Nat → Int64) → Option Nat → Prop) (P : Int32 → (Nat → Nat → Int32) → (Nat → Nat → Int64) → Option Nat → Prop) : Prop := ((x8 < x3 → ix_inb (x1) 4 = true ∧ wp_X12_cut ((x4) + (((x8).toInt64) * (x6))) (I 205 (x1).toNatClampNeg) I J T (fun v26 I26 J26 T26 => ix_inb (((((60 : Int32)) * (x1)) + (x2)) + (x8)) 240 = true ∧ V65 (x1) (x2) (x3) (x4) (x6) (x8 + (1 : Int32)) I26 (ix_u2 J26 207 (((((60 : Int32)) * (x1)) + (x2)) + (x8)).toNatClampNeg (v26)) T26)) ∧ (¬ (x8 < x3) → wp_X12_is ((0 : Int32)) I J T (fun v29 I29 J29 T29 => ix_01 (v29) = true ∧ P (v29) I29 J29 T29)))
def wl_X12_fill_65 (x1 : Int32) (x2 : Int32) (x3 : Int32) (x4 : Int64) (x6 : Int64) (x8 : Int32) (I : Nat → Nat → Int32) (J : Nat → Nat → Int64) (T : Option Nat) (P : Int32 → (Nat → Nat → Int32) → (Nat → Nat → Int64) → Option Nat → Prop) : Prop := ∀ V : Int32 → Int32 → Int32 → Int64 → Int64 → Int32 → (Nat → Nat → Int32) → (Nat → Nat → Int64) → Option Nat → Prop, (∀ (x1 : Int32) (x2 : Int32) (x3 : Int32) (x4 : Int64) (x6 : Int64) (x8 : Int32) (I : Nat → Nat → Int32) (J : Nat → Nat → Int64) (T : Option Nat), wb_X12_fill_65 x1 x2 x3 x4 x6 x8 I J T V P → V x1 x2 x3 x4 x6 x8 I J T) → V x1 x2 x3 x4 x6 x8 I J T
set_option maxRecDepth 20000 in
theorem tl_X12_fill_65 {d : Nat} {x1 : Int32} {x2 : Int32} {x3 : Int32} {x4 : Int64} {x6 : Int64} {x8 : Int32} {I : Nat → Nat → Int32} {J : Nat → Nat → Int64} {T : Option Nat} {P : Int32 → (Nat → Nat → Int32) → (Nat → Nat → Int64) → Option Nat → Prop} {Q : ix_Q} (h : wl_X12_fill_65 x1 x2 x3 x4 x6 x8 I J T P) (hQ : ∀ v I J T, P v I J T → Q (some (.inl v)) (ix_mem 276 I J T)) : ix_W (ix_C (d + 1)) (12, ix_lk ix_l239, (some .boolean), 0, 0, Nat.blt 0 0, none) Q (65, [some (.inr (.inr (.inl (some (204))))), some (.inl (x1)), some (.inl (x2)), some (.inl (x3)), some (.inr (.inl (x4))), none, some (.inr (.inl (x6))), none, some (.inl (x8))], [], 0, 0, ix_mem 276 I J T) := by
  refine h (fun x1 x2 x3 x4 x6 x8 I J T => ix_W (ix_C (d + 1)) (12, ix_lk ix_l239, (some .boolean), 0, 0, Nat.blt 0 0, none) Q (65, [some (.inr (.inr (.inl (some (204))))), some (.inl (x1)), some (.inl (x2)), some (.inl (x3)), some (.inr (.inl (x4))), none, some (.inr (.inl (x6))), none, some (.inl (x8))], [], 0, 0, ix_mem 276 I J T)) ?_
  intro x1 x2 x3 x4 x6 x8 I J T hb
  unfold wb_X12_fill_65 at hb
  refine ix_go 3 (x' := (if x8 < x3 then 71 else 109, [some (.inr (.inr (.inl (some (204))))), some (.inl (x1)), some (.inl (x2)), some (.inl (x3)), some (.inr (.inl (x4))), none, some (.inr (.inl (x6))), none, some (.inl (x8))], [], 0, 0, ix_mem 276 I J T)) rfl trivial ?_
  refine ix_br (fun c22 => ?_) (fun c22 => ?_)
  · have h23 := hb.1 c22
    refine ix_go 7 (x' := (81, [some (.inr (.inr (.inl (some (204))))), some (.inl (x1)), some (.inl (x2)), some (.inl (x3)), some (.inr (.inl (x4))), none, some (.inr (.inl (x6))), none, some (.inl (x8))], [.inl ((((60 : Int32)) * (x1)) + (x2)), .inr (.inr (.inl (some (207))))], 0, 0, ix_mem 276 I J T)) rfl ⟨rfl, rfl⟩ ?_
    refine ix_go 7 (x' := (92, [some (.inr (.inr (.inl (some (204))))), some (.inl (x1)), some (.inl (x2)), some (.inl (x3)), some (.inr (.inl (x4))), none, some (.inr (.inl (x6))), none, some (.inl (x8))], [.inr (.inl (((x8).toInt64) * (x6))), .inr (.inl (x4)), .inl (((((60 : Int32)) * (x1)) + (x2)) + (x8)), .inr (.inr (.inl (some (207))))], 0, 0, ix_mem 276 I J T)) rfl trivial ?_
    obtain ⟨p24, h25⟩ := h23
    refine ix_go 5 (x' := (99, [some (.inr (.inr (.inl (some (204))))), some (.inl (x1)), some (.inl (x2)), some (.inl (x3)), some (.inr (.inl (x4))), none, some (.inr (.inl (x6))), none, some (.inl (x8))], [.inl (I 205 (x1).toNatClampNeg), .inr (.inl ((x4) + (((x8).toInt64) * (x6)))), .inl (((((60 : Int32)) * (x1)) + (x2)) + (x8)), .inr (.inr (.inl (some (207))))], 0, 0, ix_mem 276 I J T)) rfl ⟨rfl, rfl, rfl, rfl, p24⟩ ?_
    refine ix_sp rfl ⟨rfl, trivial, ix_le rfl, Nat.le_refl _, Nat.le_refl _, tp_X12_cut h25 (fun v26 I26 J26 T26 h26 => ?_)⟩
    change ix_W _ _ _ (102, [some (.inr (.inr (.inl (some (204))))), some (.inl (x1)), some (.inl (x2)), some (.inl (x3)), some (.inr (.inl (x4))), none, some (.inr (.inl (x6))), none, some (.inl (x8))], [.inr (.inl (v26)), .inl (((((60 : Int32)) * (x1)) + (x2)) + (x8)), .inr (.inr (.inl (some (207))))], 0, 0, ix_mem 276 I26 J26 T26)
    obtain ⟨p27, h28⟩ := h26
    refine ix_go 3 (x' := (65, [some (.inr (.inr (.inl (some (204))))), some (.inl (x1)), some (.inl (x2)), some (.inl (x3)), some (.inr (.inl (x4))), none, some (.inr (.inl (x6))), none, some (.inl (x8 + (1 : Int32)))], [], 0, 0, ix_mem 276 I26 (ix_u2 J26 207 (((((60 : Int32)) * (x1)) + (x2)) + (x8)).toNatClampNeg (v26)) T26)) rfl ⟨rfl, rfl, p27⟩ ?_
    refine ix_subW ([some (.inr (.inr (.inl (some (204))))), some (.inl (x1)), some (.inl (x2)), some (.inl (x3)), some (.inr (.inl (x4))), none, some (.inr (.inl (x6))), none, some (.inl (x8 + (1 : Int32)))]) (ix_subS (ix_subS (ix_subS (ix_subS (ix_subS (ix_subS (ix_subS (ix_subS (ix_subS (ix_sub0)))))))))) ?_
    exact h28
  · have h23 := hb.2 c22
    refine ix_go 2 (x' := (111, [some (.inr (.inr (.inl (some (204))))), some (.inl (x1)), some (.inl (x2)), some (.inl (x3)), some (.inr (.inl (x4))), none, some (.inr (.inl (x6))), none, some (.inl (x8))], [.inl ((0 : Int32)), .inr (.inr (.inl (some (204))))], 0, 0, ix_mem 276 I J T)) rfl trivial ?_
    refine ix_sp rfl ⟨rfl, ⟨ix_lt rfl, ix_eq rfl, ix_lt rfl⟩, ix_le rfl, Nat.le_refl _, Nat.le_refl _, tp_X12_is h23 (fun v29 I29 J29 T29 h29 => ?_)⟩
    change ix_W _ _ _ (114, [some (.inr (.inr (.inl (some (204))))), some (.inl (x1)), some (.inl (x2)), some (.inl (x3)), some (.inr (.inl (x4))), none, some (.inr (.inl (x6))), none, some (.inl (x8))], [.inl (v29)], 0, 0, ix_mem 276 I29 J29 T29)
    exact ix_sp rfl ⟨Nat.le_refl _, Nat.le_refl _, ix_01_ok h29.1, hQ _ _ _ _ h29.2⟩
def wp_X12_fill (a0 : Int32) (a1 : Int32) (a2 : Int32) (a3 : Int64) (a4 : Int64) (I : Nat → Nat → Int32) (J : Nat → Nat → Int64) (T : Option Nat) (P : Int32 → (Nat → Nat → Int32) → (Nat → Nat → Int64) → Option Nat → Prop) : Prop := wp_X12_isTray (a0) I J T (fun v1 I1 J1 T1 => ((v1 = 0 → wp_X12_is ((1 : Int32)) I1 J1 T1 (fun v4 I4 J4 T4 => ix_01 (v4) = true ∧ P (v4) I4 J4 T4)) ∧ (¬ (v1 = 0) → ((a2 < (1 : Int32) → wp_X12_is ((1 : Int32)) I1 J1 T1 (fun v7 I7 J7 T7 => ix_01 (v7) = true ∧ P (v7) I7 J7 T7)) ∧ (¬ (a2 < (1 : Int32)) → ((a2 ≤ (60 : Int32) → ix_inb (a0) 4 = true ∧ ((I1 206 (a0).toNatClampNeg = (-1 : Int32) → wp_X12_is ((2 : Int32)) I1 J1 T1 (fun v14 I14 J14 T14 => ix_01 (v14) = true ∧ P (v14) I14 J14 T14)) ∧ (¬ (I1 206 (a0).toNatClampNeg = (-1 : Int32)) → ((a1 < 0 → wp_X12_is ((3 : Int32)) I1 J1 T1 (fun v17 I17 J17 T17 => ix_01 (v17) = true ∧ P (v17) I17 J17 T17)) ∧ (¬ (a1 < 0) → ix_inb (a0) 4 = true ∧ ((a2 ≤ (I1 206 (a0).toNatClampNeg) - (a1) → wl_X12_fill_65 (a0) (a1) (a2) (a3) (a4) ((0 : Int32)) I1 J1 T1 P) ∧ (¬ (a2 ≤ (I1 206 (a0).toNatClampNeg) - (a1)) → wp_X12_is ((3 : Int32)) I1 J1 T1 (fun v30 I30 J30 T30 => ix_01 (v30) = true ∧ P (v30) I30 J30 T30)))))))) ∧ (¬ (a2 ≤ (60 : Int32)) → wp_X12_is ((1 : Int32)) I1 J1 T1 (fun v31 I31 J31 T31 => ix_01 (v31) = true ∧ P (v31) I31 J31 T31))))))))
set_option maxRecDepth 20000 in
theorem tp_X12_fill {d : Nat} {a0 : Int32} {a1 : Int32} {a2 : Int32} {a3 : Int64} {a4 : Int64} {I : Nat → Nat → Int32} {J : Nat → Nat → Int64} {T : Option Nat} {P : Int32 → (Nat → Nat → Int32) → (Nat → Nat → Int64) → Option Nat → Prop} {Q : ix_Q} (h : wp_X12_fill a0 a1 a2 a3 a4 I J T P) (hQ : ∀ v I J T, P v I J T → Q (some (.inl v)) (ix_mem 276 I J T)) : ix_C (d + 2) 239 [.inr (.inr (.inl (some (204)))), .inl (a0), .inl (a1), .inl (a2), .inr (.inl (a3)), .inr (.inl (a4))] (ix_mem 276 I J T) Q := by
  unfold wp_X12_fill at h
  refine ix_enter (ls := [some (.inr (.inr (.inl (some (204))))), some (.inl (a0)), some (.inl (a1)), some (.inl (a2)), some (.inr (.inl (a3))), none, some (.inr (.inl (a4))), none, none]) rfl rfl rfl (Nat.le_of_ble_eq_true rfl) ?_
  refine ix_go 1 (x' := (1, [some (.inr (.inr (.inl (some (204))))), some (.inl (a0)), some (.inl (a1)), some (.inl (a2)), some (.inr (.inl (a3))), none, some (.inr (.inl (a4))), none, none], [.inl (a0)], 0, 0, ix_mem 276 I J T)) rfl trivial ?_
  refine ix_sp rfl ⟨rfl, trivial, ix_le rfl, Nat.le_refl _, Nat.le_refl _, tp_X12_isTray h (fun v1 I1 J1 T1 h1 => ?_)⟩
  change ix_W _ _ _ (4, [some (.inr (.inr (.inl (some (204))))), some (.inl (a0)), some (.inl (a1)), some (.inl (a2)), some (.inr (.inl (a3))), none, some (.inr (.inl (a4))), none, none], [.inl (v1)], 0, 0, ix_mem 276 I1 J1 T1)
  refine ix_go 1 (x' := (if v1 = 0 then 18 else 7, [some (.inr (.inr (.inl (some (204))))), some (.inl (a0)), some (.inl (a1)), some (.inl (a2)), some (.inr (.inl (a3))), none, some (.inr (.inl (a4))), none, none], [], 0, 0, ix_mem 276 I1 J1 T1)) rfl trivial ?_
  refine ix_br (fun c2 => ?_) (fun c2 => ?_)
  · have h3 := h1.1 c2
    refine ix_go 2 (x' := (20, [some (.inr (.inr (.inl (some (204))))), some (.inl (a0)), some (.inl (a1)), some (.inl (a2)), some (.inr (.inl (a3))), none, some (.inr (.inl (a4))), none, none], [.inl ((1 : Int32)), .inr (.inr (.inl (some (204))))], 0, 0, ix_mem 276 I1 J1 T1)) rfl trivial ?_
    refine ix_sp rfl ⟨rfl, ⟨ix_lt rfl, ix_eq rfl, ix_lt rfl⟩, ix_le rfl, Nat.le_refl _, Nat.le_refl _, tp_X12_is h3 (fun v4 I4 J4 T4 h4 => ?_)⟩
    change ix_W _ _ _ (23, [some (.inr (.inr (.inl (some (204))))), some (.inl (a0)), some (.inl (a1)), some (.inl (a2)), some (.inr (.inl (a3))), none, some (.inr (.inl (a4))), none, none], [.inl (v4)], 0, 0, ix_mem 276 I4 J4 T4)
    exact ix_sp rfl ⟨Nat.le_refl _, Nat.le_refl _, ix_01_ok h4.1, hQ _ _ _ _ h4.2⟩
  · have h3 := h1.2 c2
    refine ix_go 3 (x' := (if a2 < (1 : Int32) then 18 else 12, [some (.inr (.inr (.inl (some (204))))), some (.inl (a0)), some (.inl (a1)), some (.inl (a2)), some (.inr (.inl (a3))), none, some (.inr (.inl (a4))), none, none], [], 0, 0, ix_mem 276 I1 J1 T1)) rfl trivial ?_
    refine ix_br (fun c5 => ?_) (fun c5 => ?_)
    · have h6 := h3.1 c5
      refine ix_go 2 (x' := (20, [some (.inr (.inr (.inl (some (204))))), some (.inl (a0)), some (.inl (a1)), some (.inl (a2)), some (.inr (.inl (a3))), none, some (.inr (.inl (a4))), none, none], [.inl ((1 : Int32)), .inr (.inr (.inl (some (204))))], 0, 0, ix_mem 276 I1 J1 T1)) rfl trivial ?_
      refine ix_sp rfl ⟨rfl, ⟨ix_lt rfl, ix_eq rfl, ix_lt rfl⟩, ix_le rfl, Nat.le_refl _, Nat.le_refl _, tp_X12_is h6 (fun v7 I7 J7 T7 h7 => ?_)⟩
      change ix_W _ _ _ (23, [some (.inr (.inr (.inl (some (204))))), some (.inl (a0)), some (.inl (a1)), some (.inl (a2)), some (.inr (.inl (a3))), none, some (.inr (.inl (a4))), none, none], [.inl (v7)], 0, 0, ix_mem 276 I7 J7 T7)
      exact ix_sp rfl ⟨Nat.le_refl _, Nat.le_refl _, ix_01_ok h7.1, hQ _ _ _ _ h7.2⟩
    · have h6 := h3.2 c5
      refine ix_go 3 (x' := (if a2 ≤ (60 : Int32) then 24 else 18, [some (.inr (.inr (.inl (some (204))))), some (.inl (a0)), some (.inl (a1)), some (.inl (a2)), some (.inr (.inl (a3))), none, some (.inr (.inl (a4))), none, none], [], 0, 0, ix_mem 276 I1 J1 T1)) rfl trivial ?_
      refine ix_br (fun c8 => ?_) (fun c8 => ?_)
      · have h9 := h6.1 c8
        obtain ⟨p10, h11⟩ := h9
        refine ix_go 6 (x' := (if I1 206 (a0).toNatClampNeg = (-1 : Int32) then 34 else 40, [some (.inr (.inr (.inl (some (204))))), some (.inl (a0)), some (.inl (a1)), some (.inl (a2)), some (.inr (.inl (a3))), none, some (.inr (.inl (a4))), none, none], [], 0, 0, ix_mem 276 I1 J1 T1)) rfl ⟨rfl, rfl, rfl, rfl, p10⟩ ?_
        refine ix_br (fun c12 => ?_) (fun c12 => ?_)
        · have h13 := h11.1 c12
          refine ix_go 2 (x' := (36, [some (.inr (.inr (.inl (some (204))))), some (.inl (a0)), some (.inl (a1)), some (.inl (a2)), some (.inr (.inl (a3))), none, some (.inr (.inl (a4))), none, none], [.inl ((2 : Int32)), .inr (.inr (.inl (some (204))))], 0, 0, ix_mem 276 I1 J1 T1)) rfl trivial ?_
          refine ix_sp rfl ⟨rfl, ⟨ix_lt rfl, ix_eq rfl, ix_lt rfl⟩, ix_le rfl, Nat.le_refl _, Nat.le_refl _, tp_X12_is h13 (fun v14 I14 J14 T14 h14 => ?_)⟩
          change ix_W _ _ _ (39, [some (.inr (.inr (.inl (some (204))))), some (.inl (a0)), some (.inl (a1)), some (.inl (a2)), some (.inr (.inl (a3))), none, some (.inr (.inl (a4))), none, none], [.inl (v14)], 0, 0, ix_mem 276 I14 J14 T14)
          exact ix_sp rfl ⟨Nat.le_refl _, Nat.le_refl _, ix_01_ok h14.1, hQ _ _ _ _ h14.2⟩
        · have h13 := h11.2 c12
          refine ix_go 2 (x' := (if a1 < 0 then 56 else 44, [some (.inr (.inr (.inl (some (204))))), some (.inl (a0)), some (.inl (a1)), some (.inl (a2)), some (.inr (.inl (a3))), none, some (.inr (.inl (a4))), none, none], [], 0, 0, ix_mem 276 I1 J1 T1)) rfl trivial ?_
          refine ix_br (fun c15 => ?_) (fun c15 => ?_)
          · have h16 := h13.1 c15
            refine ix_go 2 (x' := (58, [some (.inr (.inr (.inl (some (204))))), some (.inl (a0)), some (.inl (a1)), some (.inl (a2)), some (.inr (.inl (a3))), none, some (.inr (.inl (a4))), none, none], [.inl ((3 : Int32)), .inr (.inr (.inl (some (204))))], 0, 0, ix_mem 276 I1 J1 T1)) rfl trivial ?_
            refine ix_sp rfl ⟨rfl, ⟨ix_lt rfl, ix_eq rfl, ix_lt rfl⟩, ix_le rfl, Nat.le_refl _, Nat.le_refl _, tp_X12_is h16 (fun v17 I17 J17 T17 h17 => ?_)⟩
            change ix_W _ _ _ (61, [some (.inr (.inr (.inl (some (204))))), some (.inl (a0)), some (.inl (a1)), some (.inl (a2)), some (.inr (.inl (a3))), none, some (.inr (.inl (a4))), none, none], [.inl (v17)], 0, 0, ix_mem 276 I17 J17 T17)
            exact ix_sp rfl ⟨Nat.le_refl _, Nat.le_refl _, ix_01_ok h17.1, hQ _ _ _ _ h17.2⟩
          · have h16 := h13.2 c15
            obtain ⟨p18, h19⟩ := h16
            refine ix_go 7 (x' := (53, [some (.inr (.inr (.inl (some (204))))), some (.inl (a0)), some (.inl (a1)), some (.inl (a2)), some (.inr (.inl (a3))), none, some (.inr (.inl (a4))), none, none], [.inl ((I1 206 (a0).toNatClampNeg) - (a1)), .inl (a2)], 0, 0, ix_mem 276 I1 J1 T1)) rfl ⟨rfl, rfl, rfl, rfl, p18⟩ ?_
            refine ix_go 1 (x' := (if a2 ≤ (I1 206 (a0).toNatClampNeg) - (a1) then 62 else 56, [some (.inr (.inr (.inl (some (204))))), some (.inl (a0)), some (.inl (a1)), some (.inl (a2)), some (.inr (.inl (a3))), none, some (.inr (.inl (a4))), none, none], [], 0, 0, ix_mem 276 I1 J1 T1)) rfl trivial ?_
            refine ix_br (fun c20 => ?_) (fun c20 => ?_)
            · have h21 := h19.1 c20
              refine ix_go 2 (x' := (65, [some (.inr (.inr (.inl (some (204))))), some (.inl (a0)), some (.inl (a1)), some (.inl (a2)), some (.inr (.inl (a3))), none, some (.inr (.inl (a4))), none, some (.inl ((0 : Int32)))], [], 0, 0, ix_mem 276 I1 J1 T1)) rfl trivial ?_
              refine ix_subW ([some (.inr (.inr (.inl (some (204))))), some (.inl (a0)), some (.inl (a1)), some (.inl (a2)), some (.inr (.inl (a3))), none, some (.inr (.inl (a4))), none, some (.inl ((0 : Int32)))]) (ix_subS (ix_subS (ix_subS (ix_subS (ix_subS (ix_subS (ix_subS (ix_subS (ix_subS (ix_sub0)))))))))) ?_
              exact tl_X12_fill_65 h21 hQ
            · have h21 := h19.2 c20
              refine ix_go 2 (x' := (58, [some (.inr (.inr (.inl (some (204))))), some (.inl (a0)), some (.inl (a1)), some (.inl (a2)), some (.inr (.inl (a3))), none, some (.inr (.inl (a4))), none, none], [.inl ((3 : Int32)), .inr (.inr (.inl (some (204))))], 0, 0, ix_mem 276 I1 J1 T1)) rfl trivial ?_
              refine ix_sp rfl ⟨rfl, ⟨ix_lt rfl, ix_eq rfl, ix_lt rfl⟩, ix_le rfl, Nat.le_refl _, Nat.le_refl _, tp_X12_is h21 (fun v30 I30 J30 T30 h30 => ?_)⟩
              change ix_W _ _ _ (61, [some (.inr (.inr (.inl (some (204))))), some (.inl (a0)), some (.inl (a1)), some (.inl (a2)), some (.inr (.inl (a3))), none, some (.inr (.inl (a4))), none, none], [.inl (v30)], 0, 0, ix_mem 276 I30 J30 T30)
              exact ix_sp rfl ⟨Nat.le_refl _, Nat.le_refl _, ix_01_ok h30.1, hQ _ _ _ _ h30.2⟩
      · have h9 := h6.2 c8
        refine ix_go 2 (x' := (20, [some (.inr (.inr (.inl (some (204))))), some (.inl (a0)), some (.inl (a1)), some (.inl (a2)), some (.inr (.inl (a3))), none, some (.inr (.inl (a4))), none, none], [.inl ((1 : Int32)), .inr (.inr (.inl (some (204))))], 0, 0, ix_mem 276 I1 J1 T1)) rfl trivial ?_
        refine ix_sp rfl ⟨rfl, ⟨ix_lt rfl, ix_eq rfl, ix_lt rfl⟩, ix_le rfl, Nat.le_refl _, Nat.le_refl _, tp_X12_is h9 (fun v31 I31 J31 T31 h31 => ?_)⟩
        change ix_W _ _ _ (23, [some (.inr (.inr (.inl (some (204))))), some (.inl (a0)), some (.inl (a1)), some (.inl (a2)), some (.inr (.inl (a3))), none, some (.inr (.inl (a4))), none, none], [.inl (v31)], 0, 0, ix_mem 276 I31 J31 T31)
        exact ix_sp rfl ⟨Nat.le_refl _, Nat.le_refl _, ix_01_ok h31.1, hQ _ _ _ _ h31.2⟩
