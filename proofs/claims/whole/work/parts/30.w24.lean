def wp_X11_owes (a0 : Int32) (a1 : Int32) (I : Nat → Nat → Int32) (J : Nat → Nat → Int64) (T : Option Nat) (P : Int64 → (Nat → Nat → Int32) → (Nat → Nat → Int64) → Option Nat → Prop) : Prop := wp_X11_isPair (a0) (a1) I J T (fun v1 I1 J1 T1 => ((v1 = 0 → wp_X11_refuse ((1 : Int32)) I1 J1 T1 (fun v4 I4 J4 T4 => P ((v4).toInt64) I4 J4 T4)) ∧ (¬ (v1 = 0) → wp_X0_isTold I1 J1 T1 (fun v5 I5 J5 T5 => ((v5 = 0 → wp_X11_refuse ((6 : Int32)) I5 J5 T5 (fun v8 I8 J8 T8 => P ((v8).toInt64) I8 J8 T8)) ∧ (¬ (v5 = 0) → wp_X0_netDebt (a0) (a1) (ix_u2 I5 0 0 ((0 : Int32))) J5 T5 (fun v9 I9 J9 T9 => P (v9) I9 J9 T9)))))))
set_option maxRecDepth 20000 in
theorem tp_X11_owes {d : Nat} {a0 : Int32} {a1 : Int32} {I : Nat → Nat → Int32} {J : Nat → Nat → Int64} {T : Option Nat} {P : Int64 → (Nat → Nat → Int32) → (Nat → Nat → Int64) → Option Nat → Prop} {Q : ix_Q} (h : wp_X11_owes a0 a1 I J T P) (hQ : ∀ v I J T, P v I J T → Q (some (.inr (.inl v))) (ix_mem 276 I J T)) : ix_C (d + 4) 207 [.inr (.inr (.inl (some (0)))), .inl (a0), .inl (a1)] (ix_mem 276 I J T) Q := by
  unfold wp_X11_owes at h
  refine ix_enter (ls := [some (.inr (.inr (.inl (some (0))))), some (.inl (a0)), some (.inl (a1))]) rfl rfl rfl (Nat.le_of_ble_eq_true rfl) ?_
  refine ix_go 3 (x' := (3, [some (.inr (.inr (.inl (some (0))))), some (.inl (a0)), some (.inl (a1))], [.inl (a1), .inl (a0), .inr (.inr (.inl (some (0))))], 0, 0, ix_mem 276 I J T)) rfl trivial ?_
  refine ix_sp rfl ⟨rfl, ⟨ix_lt rfl, ix_eq rfl, ix_lt rfl⟩, ix_le rfl, Nat.le_refl _, Nat.le_refl _, tp_X11_isPair h (fun v1 I1 J1 T1 h1 => ?_)⟩
  change ix_W _ _ _ (6, [some (.inr (.inr (.inl (some (0))))), some (.inl (a0)), some (.inl (a1))], [.inl (v1)], 0, 0, ix_mem 276 I1 J1 T1)
  refine ix_go 1 (x' := (if v1 = 0 then 9 else 16, [some (.inr (.inr (.inl (some (0))))), some (.inl (a0)), some (.inl (a1))], [], 0, 0, ix_mem 276 I1 J1 T1)) rfl trivial ?_
  refine ix_br (fun c2 => ?_) (fun c2 => ?_)
  · have h3 := h1.1 c2
    refine ix_go 2 (x' := (11, [some (.inr (.inr (.inl (some (0))))), some (.inl (a0)), some (.inl (a1))], [.inl ((1 : Int32)), .inr (.inr (.inl (some (0))))], 0, 0, ix_mem 276 I1 J1 T1)) rfl trivial ?_
    refine ix_sp rfl ⟨rfl, ⟨ix_lt rfl, ix_eq rfl, ix_lt rfl⟩, ix_le rfl, Nat.le_refl _, Nat.le_refl _, tp_X11_refuse h3 (fun v4 I4 J4 T4 h4 => ?_)⟩
    change ix_W _ _ _ (14, [some (.inr (.inr (.inl (some (0))))), some (.inl (a0)), some (.inl (a1))], [.inl (v4)], 0, 0, ix_mem 276 I4 J4 T4)
    refine ix_go 1 (x' := (15, [some (.inr (.inr (.inl (some (0))))), some (.inl (a0)), some (.inl (a1))], [.inr (.inl ((v4).toInt64))], 0, 0, ix_mem 276 I4 J4 T4)) rfl trivial ?_
    exact ix_sp rfl ⟨Nat.le_refl _, Nat.le_refl _, rfl, hQ _ _ _ _ h4⟩
  · have h3 := h1.2 c2
    refine ix_go 2 (x' := (20, [some (.inr (.inr (.inl (some (0))))), some (.inl (a0)), some (.inl (a1))], [.inr (.inr (.inl (some (124))))], 0, 0, ix_mem 276 I1 J1 T1)) rfl ⟨rfl, rfl⟩ ?_
    refine ix_sp rfl ⟨rfl, ⟨ix_lt rfl, ix_eq rfl, ix_lt rfl⟩, ix_le rfl, Nat.le_refl _, Nat.le_refl _, tp_X0_isTold h3 (fun v5 I5 J5 T5 h5 => ?_)⟩
    change ix_W _ _ _ (23, [some (.inr (.inr (.inl (some (0))))), some (.inl (a0)), some (.inl (a1))], [.inl (v5)], 0, 0, ix_mem 276 I5 J5 T5)
    refine ix_go 1 (x' := (if v5 = 0 then 26 else 34, [some (.inr (.inr (.inl (some (0))))), some (.inl (a0)), some (.inl (a1))], [], 0, 0, ix_mem 276 I5 J5 T5)) rfl trivial ?_
    refine ix_br (fun c6 => ?_) (fun c6 => ?_)
    · have h7 := h5.1 c6
      refine ix_go 2 (x' := (29, [some (.inr (.inr (.inl (some (0))))), some (.inl (a0)), some (.inl (a1))], [.inl ((6 : Int32)), .inr (.inr (.inl (some (0))))], 0, 0, ix_mem 276 I5 J5 T5)) rfl trivial ?_
      refine ix_sp rfl ⟨rfl, ⟨ix_lt rfl, ix_eq rfl, ix_lt rfl⟩, ix_le rfl, Nat.le_refl _, Nat.le_refl _, tp_X11_refuse h7 (fun v8 I8 J8 T8 h8 => ?_)⟩
      change ix_W _ _ _ (32, [some (.inr (.inr (.inl (some (0))))), some (.inl (a0)), some (.inl (a1))], [.inl (v8)], 0, 0, ix_mem 276 I8 J8 T8)
      refine ix_go 1 (x' := (33, [some (.inr (.inr (.inl (some (0))))), some (.inl (a0)), some (.inl (a1))], [.inr (.inl ((v8).toInt64))], 0, 0, ix_mem 276 I8 J8 T8)) rfl trivial ?_
      exact ix_sp rfl ⟨Nat.le_refl _, Nat.le_refl _, rfl, hQ _ _ _ _ h8⟩
    · have h7 := h5.2 c6
      refine ix_go 7 (x' := (45, [some (.inr (.inr (.inl (some (0))))), some (.inl (a0)), some (.inl (a1))], [.inl (a1), .inl (a0), .inr (.inr (.inl (some (124))))], 0, 0, ix_mem 276 (ix_u2 I5 0 0 ((0 : Int32))) J5 T5)) rfl ⟨rfl, rfl, rfl, rfl⟩ ?_
      refine ix_sp rfl ⟨rfl, ⟨ix_lt rfl, ix_eq rfl, ix_lt rfl⟩, ix_le rfl, Nat.le_refl _, Nat.le_refl _, tp_X0_netDebt h7 (fun v9 I9 J9 T9 h9 => ?_)⟩
      change ix_W _ _ _ (48, [some (.inr (.inr (.inl (some (0))))), some (.inl (a0)), some (.inl (a1))], [.inr (.inl (v9))], 0, 0, ix_mem 276 I9 J9 T9)
      exact ix_sp rfl ⟨Nat.le_refl _, Nat.le_refl _, rfl, hQ _ _ _ _ h9⟩
def wp_X11_balance (a0 : Int32) (I : Nat → Nat → Int32) (J : Nat → Nat → Int64) (T : Option Nat) (P : Int64 → (Nat → Nat → Int32) → (Nat → Nat → Int64) → Option Nat → Prop) : Prop := wp_X11_isLand (a0) I J T (fun v1 I1 J1 T1 => ((v1 = 0 → wp_X11_refuse ((1 : Int32)) I1 J1 T1 (fun v4 I4 J4 T4 => P ((v4).toInt64) I4 J4 T4)) ∧ (¬ (v1 = 0) → wp_X0_isTold I1 J1 T1 (fun v5 I5 J5 T5 => ((v5 = 0 → wp_X11_refuse ((6 : Int32)) I5 J5 T5 (fun v8 I8 J8 T8 => P ((v8).toInt64) I8 J8 T8)) ∧ (¬ (v5 = 0) → wp_X0_balanceOf (a0) (ix_u2 I5 0 0 ((0 : Int32))) J5 T5 (fun v9 I9 J9 T9 => P (v9) I9 J9 T9)))))))
set_option maxRecDepth 20000 in
theorem tp_X11_balance {d : Nat} {a0 : Int32} {I : Nat → Nat → Int32} {J : Nat → Nat → Int64} {T : Option Nat} {P : Int64 → (Nat → Nat → Int32) → (Nat → Nat → Int64) → Option Nat → Prop} {Q : ix_Q} (h : wp_X11_balance a0 I J T P) (hQ : ∀ v I J T, P v I J T → Q (some (.inr (.inl v))) (ix_mem 276 I J T)) : ix_C (d + 3) 208 [.inr (.inr (.inl (some (0)))), .inl (a0)] (ix_mem 276 I J T) Q := by
  unfold wp_X11_balance at h
  refine ix_enter (ls := [some (.inr (.inr (.inl (some (0))))), some (.inl (a0))]) rfl rfl rfl (Nat.le_of_ble_eq_true rfl) ?_
  refine ix_go 2 (x' := (2, [some (.inr (.inr (.inl (some (0))))), some (.inl (a0))], [.inl (a0), .inr (.inr (.inl (some (0))))], 0, 0, ix_mem 276 I J T)) rfl trivial ?_
  refine ix_sp rfl ⟨rfl, ⟨ix_lt rfl, ix_eq rfl, ix_lt rfl⟩, ix_le rfl, Nat.le_refl _, Nat.le_refl _, tp_X11_isLand h (fun v1 I1 J1 T1 h1 => ?_)⟩
  change ix_W _ _ _ (5, [some (.inr (.inr (.inl (some (0))))), some (.inl (a0))], [.inl (v1)], 0, 0, ix_mem 276 I1 J1 T1)
  refine ix_go 1 (x' := (if v1 = 0 then 8 else 15, [some (.inr (.inr (.inl (some (0))))), some (.inl (a0))], [], 0, 0, ix_mem 276 I1 J1 T1)) rfl trivial ?_
  refine ix_br (fun c2 => ?_) (fun c2 => ?_)
  · have h3 := h1.1 c2
    refine ix_go 2 (x' := (10, [some (.inr (.inr (.inl (some (0))))), some (.inl (a0))], [.inl ((1 : Int32)), .inr (.inr (.inl (some (0))))], 0, 0, ix_mem 276 I1 J1 T1)) rfl trivial ?_
    refine ix_sp rfl ⟨rfl, ⟨ix_lt rfl, ix_eq rfl, ix_lt rfl⟩, ix_le rfl, Nat.le_refl _, Nat.le_refl _, tp_X11_refuse h3 (fun v4 I4 J4 T4 h4 => ?_)⟩
    change ix_W _ _ _ (13, [some (.inr (.inr (.inl (some (0))))), some (.inl (a0))], [.inl (v4)], 0, 0, ix_mem 276 I4 J4 T4)
    refine ix_go 1 (x' := (14, [some (.inr (.inr (.inl (some (0))))), some (.inl (a0))], [.inr (.inl ((v4).toInt64))], 0, 0, ix_mem 276 I4 J4 T4)) rfl trivial ?_
    exact ix_sp rfl ⟨Nat.le_refl _, Nat.le_refl _, rfl, hQ _ _ _ _ h4⟩
  · have h3 := h1.2 c2
    refine ix_go 2 (x' := (19, [some (.inr (.inr (.inl (some (0))))), some (.inl (a0))], [.inr (.inr (.inl (some (124))))], 0, 0, ix_mem 276 I1 J1 T1)) rfl ⟨rfl, rfl⟩ ?_
    refine ix_sp rfl ⟨rfl, ⟨ix_lt rfl, ix_eq rfl, ix_lt rfl⟩, ix_le rfl, Nat.le_refl _, Nat.le_refl _, tp_X0_isTold h3 (fun v5 I5 J5 T5 h5 => ?_)⟩
    change ix_W _ _ _ (22, [some (.inr (.inr (.inl (some (0))))), some (.inl (a0))], [.inl (v5)], 0, 0, ix_mem 276 I5 J5 T5)
    refine ix_go 1 (x' := (if v5 = 0 then 25 else 33, [some (.inr (.inr (.inl (some (0))))), some (.inl (a0))], [], 0, 0, ix_mem 276 I5 J5 T5)) rfl trivial ?_
    refine ix_br (fun c6 => ?_) (fun c6 => ?_)
    · have h7 := h5.1 c6
      refine ix_go 2 (x' := (28, [some (.inr (.inr (.inl (some (0))))), some (.inl (a0))], [.inl ((6 : Int32)), .inr (.inr (.inl (some (0))))], 0, 0, ix_mem 276 I5 J5 T5)) rfl trivial ?_
      refine ix_sp rfl ⟨rfl, ⟨ix_lt rfl, ix_eq rfl, ix_lt rfl⟩, ix_le rfl, Nat.le_refl _, Nat.le_refl _, tp_X11_refuse h7 (fun v8 I8 J8 T8 h8 => ?_)⟩
      change ix_W _ _ _ (31, [some (.inr (.inr (.inl (some (0))))), some (.inl (a0))], [.inl (v8)], 0, 0, ix_mem 276 I8 J8 T8)
      refine ix_go 1 (x' := (32, [some (.inr (.inr (.inl (some (0))))), some (.inl (a0))], [.inr (.inl ((v8).toInt64))], 0, 0, ix_mem 276 I8 J8 T8)) rfl trivial ?_
      exact ix_sp rfl ⟨Nat.le_refl _, Nat.le_refl _, rfl, hQ _ _ _ _ h8⟩
    · have h7 := h5.2 c6
      refine ix_go 6 (x' := (43, [some (.inr (.inr (.inl (some (0))))), some (.inl (a0))], [.inl (a0), .inr (.inr (.inl (some (124))))], 0, 0, ix_mem 276 (ix_u2 I5 0 0 ((0 : Int32))) J5 T5)) rfl ⟨rfl, rfl, rfl, rfl⟩ ?_
      refine ix_sp rfl ⟨rfl, ⟨ix_lt rfl, ix_eq rfl, ix_lt rfl⟩, ix_le rfl, Nat.le_refl _, Nat.le_refl _, tp_X0_balanceOf h7 (fun v9 I9 J9 T9 h9 => ?_)⟩
      change ix_W _ _ _ (46, [some (.inr (.inr (.inl (some (0))))), some (.inl (a0))], [.inr (.inl (v9))], 0, 0, ix_mem 276 I9 J9 T9)
      exact ix_sp rfl ⟨Nat.le_refl _, Nat.le_refl _, rfl, hQ _ _ _ _ h9⟩
def wp_X11_pays (a0 : Int32) (a1 : Int32) (I : Nat → Nat → Int32) (J : Nat → Nat → Int64) (T : Option Nat) (P : Int64 → (Nat → Nat → Int32) → (Nat → Nat → Int64) → Option Nat → Prop) : Prop := wp_X11_isPair (a0) (a1) I J T (fun v1 I1 J1 T1 => ((v1 = 0 → wp_X11_refuse ((1 : Int32)) I1 J1 T1 (fun v4 I4 J4 T4 => P ((v4).toInt64) I4 J4 T4)) ∧ (¬ (v1 = 0) → wp_X0_isTold I1 J1 T1 (fun v5 I5 J5 T5 => ((v5 = 0 → wp_X11_refuse ((6 : Int32)) I5 J5 T5 (fun v8 I8 J8 T8 => P ((v8).toInt64) I8 J8 T8)) ∧ (¬ (v5 = 0) → wp_X0_clearedPayment (a0) (a1) (ix_u2 I5 0 0 ((0 : Int32))) J5 T5 (fun v9 I9 J9 T9 => P (v9) I9 J9 T9)))))))
set_option maxRecDepth 20000 in
theorem tp_X11_pays {d : Nat} {a0 : Int32} {a1 : Int32} {I : Nat → Nat → Int32} {J : Nat → Nat → Int64} {T : Option Nat} {P : Int64 → (Nat → Nat → Int32) → (Nat → Nat → Int64) → Option Nat → Prop} {Q : ix_Q} (h : wp_X11_pays a0 a1 I J T P) (hQ : ∀ v I J T, P v I J T → Q (some (.inr (.inl v))) (ix_mem 276 I J T)) : ix_C (d + 4) 209 [.inr (.inr (.inl (some (0)))), .inl (a0), .inl (a1)] (ix_mem 276 I J T) Q := by
  unfold wp_X11_pays at h
  refine ix_enter (ls := [some (.inr (.inr (.inl (some (0))))), some (.inl (a0)), some (.inl (a1))]) rfl rfl rfl (Nat.le_of_ble_eq_true rfl) ?_
  refine ix_go 3 (x' := (3, [some (.inr (.inr (.inl (some (0))))), some (.inl (a0)), some (.inl (a1))], [.inl (a1), .inl (a0), .inr (.inr (.inl (some (0))))], 0, 0, ix_mem 276 I J T)) rfl trivial ?_
  refine ix_sp rfl ⟨rfl, ⟨ix_lt rfl, ix_eq rfl, ix_lt rfl⟩, ix_le rfl, Nat.le_refl _, Nat.le_refl _, tp_X11_isPair h (fun v1 I1 J1 T1 h1 => ?_)⟩
  change ix_W _ _ _ (6, [some (.inr (.inr (.inl (some (0))))), some (.inl (a0)), some (.inl (a1))], [.inl (v1)], 0, 0, ix_mem 276 I1 J1 T1)
  refine ix_go 1 (x' := (if v1 = 0 then 9 else 16, [some (.inr (.inr (.inl (some (0))))), some (.inl (a0)), some (.inl (a1))], [], 0, 0, ix_mem 276 I1 J1 T1)) rfl trivial ?_
  refine ix_br (fun c2 => ?_) (fun c2 => ?_)
  · have h3 := h1.1 c2
    refine ix_go 2 (x' := (11, [some (.inr (.inr (.inl (some (0))))), some (.inl (a0)), some (.inl (a1))], [.inl ((1 : Int32)), .inr (.inr (.inl (some (0))))], 0, 0, ix_mem 276 I1 J1 T1)) rfl trivial ?_
    refine ix_sp rfl ⟨rfl, ⟨ix_lt rfl, ix_eq rfl, ix_lt rfl⟩, ix_le rfl, Nat.le_refl _, Nat.le_refl _, tp_X11_refuse h3 (fun v4 I4 J4 T4 h4 => ?_)⟩
    change ix_W _ _ _ (14, [some (.inr (.inr (.inl (some (0))))), some (.inl (a0)), some (.inl (a1))], [.inl (v4)], 0, 0, ix_mem 276 I4 J4 T4)
    refine ix_go 1 (x' := (15, [some (.inr (.inr (.inl (some (0))))), some (.inl (a0)), some (.inl (a1))], [.inr (.inl ((v4).toInt64))], 0, 0, ix_mem 276 I4 J4 T4)) rfl trivial ?_
    exact ix_sp rfl ⟨Nat.le_refl _, Nat.le_refl _, rfl, hQ _ _ _ _ h4⟩
  · have h3 := h1.2 c2
    refine ix_go 2 (x' := (20, [some (.inr (.inr (.inl (some (0))))), some (.inl (a0)), some (.inl (a1))], [.inr (.inr (.inl (some (124))))], 0, 0, ix_mem 276 I1 J1 T1)) rfl ⟨rfl, rfl⟩ ?_
    refine ix_sp rfl ⟨rfl, ⟨ix_lt rfl, ix_eq rfl, ix_lt rfl⟩, ix_le rfl, Nat.le_refl _, Nat.le_refl _, tp_X0_isTold h3 (fun v5 I5 J5 T5 h5 => ?_)⟩
    change ix_W _ _ _ (23, [some (.inr (.inr (.inl (some (0))))), some (.inl (a0)), some (.inl (a1))], [.inl (v5)], 0, 0, ix_mem 276 I5 J5 T5)
    refine ix_go 1 (x' := (if v5 = 0 then 26 else 34, [some (.inr (.inr (.inl (some (0))))), some (.inl (a0)), some (.inl (a1))], [], 0, 0, ix_mem 276 I5 J5 T5)) rfl trivial ?_
    refine ix_br (fun c6 => ?_) (fun c6 => ?_)
    · have h7 := h5.1 c6
      refine ix_go 2 (x' := (29, [some (.inr (.inr (.inl (some (0))))), some (.inl (a0)), some (.inl (a1))], [.inl ((6 : Int32)), .inr (.inr (.inl (some (0))))], 0, 0, ix_mem 276 I5 J5 T5)) rfl trivial ?_
      refine ix_sp rfl ⟨rfl, ⟨ix_lt rfl, ix_eq rfl, ix_lt rfl⟩, ix_le rfl, Nat.le_refl _, Nat.le_refl _, tp_X11_refuse h7 (fun v8 I8 J8 T8 h8 => ?_)⟩
      change ix_W _ _ _ (32, [some (.inr (.inr (.inl (some (0))))), some (.inl (a0)), some (.inl (a1))], [.inl (v8)], 0, 0, ix_mem 276 I8 J8 T8)
      refine ix_go 1 (x' := (33, [some (.inr (.inr (.inl (some (0))))), some (.inl (a0)), some (.inl (a1))], [.inr (.inl ((v8).toInt64))], 0, 0, ix_mem 276 I8 J8 T8)) rfl trivial ?_
      exact ix_sp rfl ⟨Nat.le_refl _, Nat.le_refl _, rfl, hQ _ _ _ _ h8⟩
    · have h7 := h5.2 c6
      refine ix_go 7 (x' := (45, [some (.inr (.inr (.inl (some (0))))), some (.inl (a0)), some (.inl (a1))], [.inl (a1), .inl (a0), .inr (.inr (.inl (some (124))))], 0, 0, ix_mem 276 (ix_u2 I5 0 0 ((0 : Int32))) J5 T5)) rfl ⟨rfl, rfl, rfl, rfl⟩ ?_
      refine ix_sp rfl ⟨rfl, ⟨ix_lt rfl, ix_eq rfl, ix_lt rfl⟩, ix_le rfl, Nat.le_refl _, Nat.le_refl _, tp_X0_clearedPayment h7 (fun v9 I9 J9 T9 h9 => ?_)⟩
      change ix_W _ _ _ (48, [some (.inr (.inr (.inl (some (0))))), some (.inl (a0)), some (.inl (a1))], [.inr (.inl (v9))], 0, 0, ix_mem 276 I9 J9 T9)
      exact ix_sp rfl ⟨Nat.le_refl _, Nat.le_refl _, rfl, hQ _ _ _ _ h9⟩
def wp_X11_rules (a0 : Int32) (a1 : Int32) (a2 : Int32) (I : Nat → Nat → Int32) (J : Nat → Nat → Int64) (T : Option Nat) (P : Int32 → (Nat → Nat → Int32) → (Nat → Nat → Int64) → Option Nat → Prop) : Prop := wp_X11_outside ((a0).toInt64) ((0 : Int64)) ((60 : Int64)) I J T (fun v1 I1 J1 T1 => ((v1 = 0 → wp_X11_outside ((a1).toInt64) ((1 : Int64)) ((365 : Int64)) I1 J1 T1 (fun v4 I4 J4 T4 => ((v4 = 0 → wp_X11_outside ((a2).toInt64) ((0 : Int64)) ((100000 : Int64)) I4 J4 T4 (fun v7 I7 J7 T7 => ((v7 = 0 → wp_X1_setRules (a0) (a1) (a2) I7 J7 T7 (fun I10 J10 T10 => wp_X11_accepted I10 J10 T10 (fun v11 I11 J11 T11 => ix_01 (v11) = true ∧ P (v11) I11 J11 T11))) ∧ (¬ (v7 = 0) → wp_X11_refused ((1 : Int32)) I7 J7 T7 (fun v12 I12 J12 T12 => ix_01 (v12) = true ∧ P (v12) I12 J12 T12))))) ∧ (¬ (v4 = 0) → wp_X11_refused ((1 : Int32)) I4 J4 T4 (fun v13 I13 J13 T13 => ix_01 (v13) = true ∧ P (v13) I13 J13 T13))))) ∧ (¬ (v1 = 0) → wp_X11_refused ((1 : Int32)) I1 J1 T1 (fun v14 I14 J14 T14 => ix_01 (v14) = true ∧ P (v14) I14 J14 T14))))
set_option maxRecDepth 20000 in
theorem tp_X11_rules {d : Nat} {a0 : Int32} {a1 : Int32} {a2 : Int32} {I : Nat → Nat → Int32} {J : Nat → Nat → Int64} {T : Option Nat} {P : Int32 → (Nat → Nat → Int32) → (Nat → Nat → Int64) → Option Nat → Prop} {Q : ix_Q} (h : wp_X11_rules a0 a1 a2 I J T P) (hQ : ∀ v I J T, P v I J T → Q (some (.inl v)) (ix_mem 276 I J T)) : ix_C (d + 2) 210 [.inr (.inr (.inl (some (0)))), .inl (a0), .inl (a1), .inl (a2)] (ix_mem 276 I J T) Q := by
  unfold wp_X11_rules at h
  refine ix_enter (ls := [some (.inr (.inr (.inl (some (0))))), some (.inl (a0)), some (.inl (a1)), some (.inl (a2))]) rfl rfl rfl (Nat.le_of_ble_eq_true rfl) ?_
  refine ix_go 4 (x' := (6, [some (.inr (.inr (.inl (some (0))))), some (.inl (a0)), some (.inl (a1)), some (.inl (a2))], [.inr (.inl ((60 : Int64))), .inr (.inl ((0 : Int64))), .inr (.inl ((a0).toInt64))], 0, 0, ix_mem 276 I J T)) rfl trivial ?_
  refine ix_sp rfl ⟨rfl, trivial, ix_le rfl, Nat.le_refl _, Nat.le_refl _, tp_X11_outside h (fun v1 I1 J1 T1 h1 => ?_)⟩
  change ix_W _ _ _ (9, [some (.inr (.inr (.inl (some (0))))), some (.inl (a0)), some (.inl (a1)), some (.inl (a2))], [.inl (v1)], 0, 0, ix_mem 276 I1 J1 T1)
  refine ix_go 1 (x' := (if v1 = 0 then 12 else 36, [some (.inr (.inr (.inl (some (0))))), some (.inl (a0)), some (.inl (a1)), some (.inl (a2))], [], 0, 0, ix_mem 276 I1 J1 T1)) rfl trivial ?_
  refine ix_br (fun c2 => ?_) (fun c2 => ?_)
  · have h3 := h1.1 c2
    refine ix_go 4 (x' := (18, [some (.inr (.inr (.inl (some (0))))), some (.inl (a0)), some (.inl (a1)), some (.inl (a2))], [.inr (.inl ((365 : Int64))), .inr (.inl ((1 : Int64))), .inr (.inl ((a1).toInt64))], 0, 0, ix_mem 276 I1 J1 T1)) rfl trivial ?_
    refine ix_sp rfl ⟨rfl, trivial, ix_le rfl, Nat.le_refl _, Nat.le_refl _, tp_X11_outside h3 (fun v4 I4 J4 T4 h4 => ?_)⟩
    change ix_W _ _ _ (21, [some (.inr (.inr (.inl (some (0))))), some (.inl (a0)), some (.inl (a1)), some (.inl (a2))], [.inl (v4)], 0, 0, ix_mem 276 I4 J4 T4)
    refine ix_go 1 (x' := (if v4 = 0 then 24 else 36, [some (.inr (.inr (.inl (some (0))))), some (.inl (a0)), some (.inl (a1)), some (.inl (a2))], [], 0, 0, ix_mem 276 I4 J4 T4)) rfl trivial ?_
    refine ix_br (fun c5 => ?_) (fun c5 => ?_)
    · have h6 := h4.1 c5
      refine ix_go 4 (x' := (30, [some (.inr (.inr (.inl (some (0))))), some (.inl (a0)), some (.inl (a1)), some (.inl (a2))], [.inr (.inl ((100000 : Int64))), .inr (.inl ((0 : Int64))), .inr (.inl ((a2).toInt64))], 0, 0, ix_mem 276 I4 J4 T4)) rfl trivial ?_
      refine ix_sp rfl ⟨rfl, trivial, ix_le rfl, Nat.le_refl _, Nat.le_refl _, tp_X11_outside h6 (fun v7 I7 J7 T7 h7 => ?_)⟩
      change ix_W _ _ _ (33, [some (.inr (.inr (.inl (some (0))))), some (.inl (a0)), some (.inl (a1)), some (.inl (a2))], [.inl (v7)], 0, 0, ix_mem 276 I7 J7 T7)
      refine ix_go 1 (x' := (if v7 = 0 then 42 else 36, [some (.inr (.inr (.inl (some (0))))), some (.inl (a0)), some (.inl (a1)), some (.inl (a2))], [], 0, 0, ix_mem 276 I7 J7 T7)) rfl trivial ?_
      refine ix_br (fun c8 => ?_) (fun c8 => ?_)
      · have h9 := h7.1 c8
        refine ix_go 5 (x' := (49, [some (.inr (.inr (.inl (some (0))))), some (.inl (a0)), some (.inl (a1)), some (.inl (a2))], [.inl (a2), .inl (a1), .inl (a0), .inr (.inr (.inl (some (142))))], 0, 0, ix_mem 276 I7 J7 T7)) rfl ⟨rfl, rfl⟩ ?_
        refine ix_sp rfl ⟨rfl, ⟨ix_lt rfl, ix_eq rfl, ix_lt rfl⟩, ix_le rfl, Nat.le_refl _, Nat.le_refl _, tp_X1_setRules h9 (fun I10 J10 T10 h10 => ?_)⟩
        change ix_W _ _ _ (52, [some (.inr (.inr (.inl (some (0))))), some (.inl (a0)), some (.inl (a1)), some (.inl (a2))], [], 0, 0, ix_mem 276 I10 J10 T10)
        refine ix_go 1 (x' := (53, [some (.inr (.inr (.inl (some (0))))), some (.inl (a0)), some (.inl (a1)), some (.inl (a2))], [.inr (.inr (.inl (some (0))))], 0, 0, ix_mem 276 I10 J10 T10)) rfl trivial ?_
        refine ix_sp rfl ⟨rfl, ⟨ix_lt rfl, ix_eq rfl, ix_lt rfl⟩, ix_le rfl, Nat.le_refl _, Nat.le_refl _, tp_X11_accepted h10 (fun v11 I11 J11 T11 h11 => ?_)⟩
        change ix_W _ _ _ (56, [some (.inr (.inr (.inl (some (0))))), some (.inl (a0)), some (.inl (a1)), some (.inl (a2))], [.inl (v11)], 0, 0, ix_mem 276 I11 J11 T11)
        exact ix_sp rfl ⟨Nat.le_refl _, Nat.le_refl _, ix_01_ok h11.1, hQ _ _ _ _ h11.2⟩
      · have h9 := h7.2 c8
        refine ix_go 2 (x' := (38, [some (.inr (.inr (.inl (some (0))))), some (.inl (a0)), some (.inl (a1)), some (.inl (a2))], [.inl ((1 : Int32)), .inr (.inr (.inl (some (0))))], 0, 0, ix_mem 276 I7 J7 T7)) rfl trivial ?_
        refine ix_sp rfl ⟨rfl, ⟨ix_lt rfl, ix_eq rfl, ix_lt rfl⟩, ix_le rfl, Nat.le_refl _, Nat.le_refl _, tp_X11_refused h9 (fun v12 I12 J12 T12 h12 => ?_)⟩
        change ix_W _ _ _ (41, [some (.inr (.inr (.inl (some (0))))), some (.inl (a0)), some (.inl (a1)), some (.inl (a2))], [.inl (v12)], 0, 0, ix_mem 276 I12 J12 T12)
        exact ix_sp rfl ⟨Nat.le_refl _, Nat.le_refl _, ix_01_ok h12.1, hQ _ _ _ _ h12.2⟩
    · have h6 := h4.2 c5
      refine ix_go 2 (x' := (38, [some (.inr (.inr (.inl (some (0))))), some (.inl (a0)), some (.inl (a1)), some (.inl (a2))], [.inl ((1 : Int32)), .inr (.inr (.inl (some (0))))], 0, 0, ix_mem 276 I4 J4 T4)) rfl trivial ?_
      refine ix_sp rfl ⟨rfl, ⟨ix_lt rfl, ix_eq rfl, ix_lt rfl⟩, ix_le rfl, Nat.le_refl _, Nat.le_refl _, tp_X11_refused h6 (fun v13 I13 J13 T13 h13 => ?_)⟩
      change ix_W _ _ _ (41, [some (.inr (.inr (.inl (some (0))))), some (.inl (a0)), some (.inl (a1)), some (.inl (a2))], [.inl (v13)], 0, 0, ix_mem 276 I13 J13 T13)
      exact ix_sp rfl ⟨Nat.le_refl _, Nat.le_refl _, ix_01_ok h13.1, hQ _ _ _ _ h13.2⟩
  · have h3 := h1.2 c2
    refine ix_go 2 (x' := (38, [some (.inr (.inr (.inl (some (0))))), some (.inl (a0)), some (.inl (a1)), some (.inl (a2))], [.inl ((1 : Int32)), .inr (.inr (.inl (some (0))))], 0, 0, ix_mem 276 I1 J1 T1)) rfl trivial ?_
    refine ix_sp rfl ⟨rfl, ⟨ix_lt rfl, ix_eq rfl, ix_lt rfl⟩, ix_le rfl, Nat.le_refl _, Nat.le_refl _, tp_X11_refused h3 (fun v14 I14 J14 T14 h14 => ?_)⟩
    change ix_W _ _ _ (41, [some (.inr (.inr (.inl (some (0))))), some (.inl (a0)), some (.inl (a1)), some (.inl (a2))], [.inl (v14)], 0, 0, ix_mem 276 I14 J14 T14)
    exact ix_sp rfl ⟨Nat.le_refl _, Nat.le_refl _, ix_01_ok h14.1, hQ _ _ _ _ h14.2⟩
def wb_X5_isWay_r2_5_c2 (x2 : Int32) (x3 : Int32) (x4 : Int32) (I : Nat → Nat → Int32) (J : Nat → Nat → Int64) (T : Option Nat) (V5 : Int32 → Int32 → Int32 → (Nat → Nat → Int32) → (Nat → Nat → Int64) → Option Nat → Prop) (P : Int32 → (Nat → Nat → Int32) → (Nat → Nat → Int64) → Option Nat → Prop) : Prop := ((x4 < x2 → ((x4 < (60 : Int32) → ix_inb (x4) 60 = true ∧ ((((x3) >>> (((J 2 (x4).toNatClampNeg).toInt32) &&& 31)) &&& ((1 : Int32)) = 0 → ((x4 ≤ 0 → V5 (x2) ((x3) ||| (((1 : Int32)) <<< (((J 2 (x4).toNatClampNeg).toInt32) &&& 31))) (x4 + (1 : Int32)) I J T) ∧ (¬ (x4 ≤ 0) → ix_inb ((x4) - ((1 : Int32))) 60 = true ∧ wp_X5_hasRoad ((J 2 ((x4) - ((1 : Int32))).toNatClampNeg).toInt32) ((J 2 (x4).toNatClampNeg).toInt32) I J T (fun v13 I13 J13 T13 => ((v13 = 0 → P ((0 : Int32)) I13 J13 T13) ∧ (¬ (v13 = 0) → V5 (x2) ((x3) ||| (((1 : Int32)) <<< (((J 2 (x4).toNatClampNeg).toInt32) &&& 31))) (x4 + (1 : Int32)) I13 J13 T13)))))) ∧ (¬ (((x3) >>> (((J 2 (x4).toNatClampNeg).toInt32) &&& 31)) &&& ((1 : Int32)) = 0) → P ((0 : Int32)) I J T))) ∧ (¬ (x4 < (60 : Int32)) → P ((1 : Int32)) I J T))) ∧ (¬ (x4 < x2) → P ((1 : Int32)) I J T))
def wl_X5_isWay_r2_5_c2 (x2 : Int32) (x3 : Int32) (x4 : Int32) (I : Nat → Nat → Int32) (J : Nat → Nat → Int64) (T : Option Nat) (P : Int32 → (Nat → Nat → Int32) → (Nat → Nat → Int64) → Option Nat → Prop) : Prop := ∀ V : Int32 → Int32 → Int32 → (Nat → Nat → Int32) → (Nat → Nat → Int64) → Option Nat → Prop, (∀ (x2 : Int32) (x3 : Int32) (x4 : Int32) (I : Nat → Nat → Int32) (J : Nat → Nat → Int64) (T : Option Nat), wb_X5_isWay_r2_5_c2 x2 x3 x4 I J T V P → V x2 x3 x4 I J T) → V x2 x3 x4 I J T
set_option maxRecDepth 20000 in
theorem tl_X5_isWay_r2_5_c2 {d : Nat} {x2 : Int32} {x3 : Int32} {x4 : Int32} {I : Nat → Nat → Int32} {J : Nat → Nat → Int64} {T : Option Nat} {P : Int32 → (Nat → Nat → Int32) → (Nat → Nat → Int64) → Option Nat → Prop} {Q : ix_Q} (h : wl_X5_isWay_r2_5_c2 x2 x3 x4 I J T P) (hQ : ∀ v I J T, P v I J T → Q (some (.inl v)) (ix_mem 276 I J T)) : ix_W (ix_C (d + 1)) (5, ix_lk ix_l79, (some .boolean), 0, 0, Nat.blt 0 0, none) Q (5, [some (.inr (.inr (.inl (some (8))))), some (.inr (.inr (.inl (some (2))))), some (.inl (x2)), some (.inl (x3)), some (.inl (x4)), none], [], 0, 0, ix_mem 276 I J T) := by
  refine h (fun x2 x3 x4 I J T => ix_W (ix_C (d + 1)) (5, ix_lk ix_l79, (some .boolean), 0, 0, Nat.blt 0 0, none) Q (5, [some (.inr (.inr (.inl (some (8))))), some (.inr (.inr (.inl (some (2))))), some (.inl (x2)), some (.inl (x3)), some (.inl (x4)), none], [], 0, 0, ix_mem 276 I J T)) ?_
  intro x2 x3 x4 I J T hb
  unfold wb_X5_isWay_r2_5_c2 at hb
  refine ix_go 3 (x' := (if x4 < x2 then 11 else 70, [some (.inr (.inr (.inl (some (8))))), some (.inr (.inr (.inl (some (2))))), some (.inl (x2)), some (.inl (x3)), some (.inl (x4)), none], [], 0, 0, ix_mem 276 I J T)) rfl trivial ?_
  refine ix_br (fun c1 => ?_) (fun c1 => ?_)
  · have h2 := hb.1 c1
    refine ix_go 4 (x' := (if x4 < (60 : Int32) then 18 else 70, [some (.inr (.inr (.inl (some (8))))), some (.inr (.inr (.inl (some (2))))), some (.inl (x2)), some (.inl (x3)), some (.inl (x4)), none], [], 0, 0, ix_mem 276 I J T)) rfl ⟨rfl, rfl, rfl⟩ ?_
    refine ix_br (fun c3 => ?_) (fun c3 => ?_)
    · have h4 := h2.1 c3
      obtain ⟨p5, h6⟩ := h4
      refine ix_go 7 (x' := (28, [some (.inr (.inr (.inl (some (8))))), some (.inr (.inr (.inl (some (2))))), some (.inl (x2)), some (.inl (x3)), some (.inl (x4)), some (.inl ((J 2 (x4).toNatClampNeg).toInt32))], [.inl ((J 2 (x4).toNatClampNeg).toInt32), .inl (x3)], 0, 0, ix_mem 276 I J T)) rfl ⟨rfl, rfl, p5⟩ ?_
      refine ix_go 4 (x' := (if ((x3) >>> (((J 2 (x4).toNatClampNeg).toInt32) &&& 31)) &&& ((1 : Int32)) = 0 then 34 else 55, [some (.inr (.inr (.inl (some (8))))), some (.inr (.inr (.inl (some (2))))), some (.inl (x2)), some (.inl (x3)), some (.inl (x4)), some (.inl ((J 2 (x4).toNatClampNeg).toInt32))], [], 0, 0, ix_mem 276 I J T)) rfl trivial ?_
      refine ix_br (fun c7 => ?_) (fun c7 => ?_)
      · have h8 := h6.1 c7
        refine ix_go 2 (x' := (if x4 ≤ 0 then 57 else 39, [some (.inr (.inr (.inl (some (8))))), some (.inr (.inr (.inl (some (2))))), some (.inl (x2)), some (.inl (x3)), some (.inl (x4)), some (.inl ((J 2 (x4).toNatClampNeg).toInt32))], [], 0, 0, ix_mem 276 I J T)) rfl trivial ?_
        refine ix_br (fun c9 => ?_) (fun c9 => ?_)
        · have h10 := h8.1 c9
          refine ix_go 7 (x' := (67, [some (.inr (.inr (.inl (some (8))))), some (.inr (.inr (.inl (some (2))))), some (.inl (x2)), some (.inl ((x3) ||| (((1 : Int32)) <<< (((J 2 (x4).toNatClampNeg).toInt32) &&& 31)))), some (.inl (x4 + (1 : Int32))), some (.inl ((J 2 (x4).toNatClampNeg).toInt32))], [], 0, 0, ix_mem 276 I J T)) rfl trivial ?_
          refine ix_go 1 (x' := (5, [some (.inr (.inr (.inl (some (8))))), some (.inr (.inr (.inl (some (2))))), some (.inl (x2)), some (.inl ((x3) ||| (((1 : Int32)) <<< (((J 2 (x4).toNatClampNeg).toInt32) &&& 31)))), some (.inl (x4 + (1 : Int32))), some (.inl ((J 2 (x4).toNatClampNeg).toInt32))], [], 0, 0, ix_mem 276 I J T)) rfl trivial ?_
          refine ix_subW ([some (.inr (.inr (.inl (some (8))))), some (.inr (.inr (.inl (some (2))))), some (.inl (x2)), some (.inl ((x3) ||| (((1 : Int32)) <<< (((J 2 (x4).toNatClampNeg).toInt32) &&& 31)))), some (.inl (x4 + (1 : Int32))), none]) (ix_subS (ix_subS (ix_subS (ix_subS (ix_subS (ix_subN (ix_sub0))))))) ?_
          exact h10
        · have h10 := h8.2 c9
          obtain ⟨p11, h12⟩ := h10
          refine ix_go 7 (x' := (47, [some (.inr (.inr (.inl (some (8))))), some (.inr (.inr (.inl (some (2))))), some (.inl (x2)), some (.inl (x3)), some (.inl (x4)), some (.inl ((J 2 (x4).toNatClampNeg).toInt32))], [.inl ((J 2 ((x4) - ((1 : Int32))).toNatClampNeg).toInt32), .inr (.inr (.inl (some (8))))], 0, 0, ix_mem 276 I J T)) rfl ⟨rfl, rfl, p11⟩ ?_
          refine ix_go 1 (x' := (49, [some (.inr (.inr (.inl (some (8))))), some (.inr (.inr (.inl (some (2))))), some (.inl (x2)), some (.inl (x3)), some (.inl (x4)), some (.inl ((J 2 (x4).toNatClampNeg).toInt32))], [.inl ((J 2 (x4).toNatClampNeg).toInt32), .inl ((J 2 ((x4) - ((1 : Int32))).toNatClampNeg).toInt32), .inr (.inr (.inl (some (8))))], 0, 0, ix_mem 276 I J T)) rfl trivial ?_
          refine ix_sp rfl ⟨rfl, ⟨ix_lt rfl, ix_eq rfl, ix_lt rfl⟩, ix_le rfl, Nat.le_refl _, Nat.le_refl _, tp_X5_hasRoad h12 (fun v13 I13 J13 T13 h13 => ?_)⟩
          change ix_W _ _ _ (52, [some (.inr (.inr (.inl (some (8))))), some (.inr (.inr (.inl (some (2))))), some (.inl (x2)), some (.inl (x3)), some (.inl (x4)), some (.inl ((J 2 (x4).toNatClampNeg).toInt32))], [.inl (v13)], 0, 0, ix_mem 276 I13 J13 T13)
          refine ix_go 1 (x' := (if v13 = 0 then 55 else 57, [some (.inr (.inr (.inl (some (8))))), some (.inr (.inr (.inl (some (2))))), some (.inl (x2)), some (.inl (x3)), some (.inl (x4)), some (.inl ((J 2 (x4).toNatClampNeg).toInt32))], [], 0, 0, ix_mem 276 I13 J13 T13)) rfl trivial ?_
          refine ix_br (fun c14 => ?_) (fun c14 => ?_)
          · have h15 := h13.1 c14
            refine ix_go 1 (x' := (56, [some (.inr (.inr (.inl (some (8))))), some (.inr (.inr (.inl (some (2))))), some (.inl (x2)), some (.inl (x3)), some (.inl (x4)), some (.inl ((J 2 (x4).toNatClampNeg).toInt32))], [.inl ((0 : Int32))], 0, 0, ix_mem 276 I13 J13 T13)) rfl trivial ?_
            exact ix_sp rfl ⟨Nat.le_refl _, Nat.le_refl _, ix_01_ok rfl, hQ _ _ _ _ h15⟩
          · have h15 := h13.2 c14
            refine ix_go 7 (x' := (67, [some (.inr (.inr (.inl (some (8))))), some (.inr (.inr (.inl (some (2))))), some (.inl (x2)), some (.inl ((x3) ||| (((1 : Int32)) <<< (((J 2 (x4).toNatClampNeg).toInt32) &&& 31)))), some (.inl (x4 + (1 : Int32))), some (.inl ((J 2 (x4).toNatClampNeg).toInt32))], [], 0, 0, ix_mem 276 I13 J13 T13)) rfl trivial ?_
            refine ix_go 1 (x' := (5, [some (.inr (.inr (.inl (some (8))))), some (.inr (.inr (.inl (some (2))))), some (.inl (x2)), some (.inl ((x3) ||| (((1 : Int32)) <<< (((J 2 (x4).toNatClampNeg).toInt32) &&& 31)))), some (.inl (x4 + (1 : Int32))), some (.inl ((J 2 (x4).toNatClampNeg).toInt32))], [], 0, 0, ix_mem 276 I13 J13 T13)) rfl trivial ?_
            refine ix_subW ([some (.inr (.inr (.inl (some (8))))), some (.inr (.inr (.inl (some (2))))), some (.inl (x2)), some (.inl ((x3) ||| (((1 : Int32)) <<< (((J 2 (x4).toNatClampNeg).toInt32) &&& 31)))), some (.inl (x4 + (1 : Int32))), none]) (ix_subS (ix_subS (ix_subS (ix_subS (ix_subS (ix_subN (ix_sub0))))))) ?_
            exact h15
      · have h8 := h6.2 c7
        refine ix_go 1 (x' := (56, [some (.inr (.inr (.inl (some (8))))), some (.inr (.inr (.inl (some (2))))), some (.inl (x2)), some (.inl (x3)), some (.inl (x4)), some (.inl ((J 2 (x4).toNatClampNeg).toInt32))], [.inl ((0 : Int32))], 0, 0, ix_mem 276 I J T)) rfl trivial ?_
        exact ix_sp rfl ⟨Nat.le_refl _, Nat.le_refl _, ix_01_ok rfl, hQ _ _ _ _ h8⟩
    · have h4 := h2.2 c3
      refine ix_go 1 (x' := (71, [some (.inr (.inr (.inl (some (8))))), some (.inr (.inr (.inl (some (2))))), some (.inl (x2)), some (.inl (x3)), some (.inl (x4)), none], [.inl ((1 : Int32))], 0, 0, ix_mem 276 I J T)) rfl trivial ?_
      exact ix_sp rfl ⟨Nat.le_refl _, Nat.le_refl _, ix_01_ok rfl, hQ _ _ _ _ h4⟩
  · have h2 := hb.2 c1
    refine ix_go 1 (x' := (71, [some (.inr (.inr (.inl (some (8))))), some (.inr (.inr (.inl (some (2))))), some (.inl (x2)), some (.inl (x3)), some (.inl (x4)), none], [.inl ((1 : Int32))], 0, 0, ix_mem 276 I J T)) rfl trivial ?_
    exact ix_sp rfl ⟨Nat.le_refl _, Nat.le_refl _, ix_01_ok rfl, hQ _ _ _ _ h2⟩
def wp_X5_isWay_r2 (a1 : Int32) (I : Nat → Nat → Int32) (J : Nat → Nat → Int64) (T : Option Nat) (P : Int32 → (Nat → Nat → Int32) → (Nat → Nat → Int64) → Option Nat → Prop) : Prop := wl_X5_isWay_r2_5_c2 (a1) ((0 : Int32)) ((0 : Int32)) I J T P
set_option maxRecDepth 20000 in
theorem tp_X5_isWay_r2 {d : Nat} {a1 : Int32} {I : Nat → Nat → Int32} {J : Nat → Nat → Int64} {T : Option Nat} {P : Int32 → (Nat → Nat → Int32) → (Nat → Nat → Int64) → Option Nat → Prop} {Q : ix_Q} (h : wp_X5_isWay_r2 a1 I J T P) (hQ : ∀ v I J T, P v I J T → Q (some (.inl v)) (ix_mem 276 I J T)) : ix_C (d + 2) 79 [.inr (.inr (.inl (some (8)))), .inr (.inr (.inl (some (2)))), .inl (a1)] (ix_mem 276 I J T) Q := by
  unfold wp_X5_isWay_r2 at h
  refine ix_enter (ls := [some (.inr (.inr (.inl (some (8))))), some (.inr (.inr (.inl (some (2))))), some (.inl (a1)), none, none, none]) rfl rfl rfl (Nat.le_of_ble_eq_true rfl) ?_
  refine ix_go 4 (x' := (5, [some (.inr (.inr (.inl (some (8))))), some (.inr (.inr (.inl (some (2))))), some (.inl (a1)), some (.inl ((0 : Int32))), some (.inl ((0 : Int32))), none], [], 0, 0, ix_mem 276 I J T)) rfl trivial ?_
  refine ix_subW ([some (.inr (.inr (.inl (some (8))))), some (.inr (.inr (.inl (some (2))))), some (.inl (a1)), some (.inl ((0 : Int32))), some (.inl ((0 : Int32))), none]) (ix_subS (ix_subS (ix_subS (ix_subS (ix_subS (ix_subS (ix_sub0))))))) ?_
  exact tl_X5_isWay_r2_5_c2 h hQ
def wb_X1_add_r2_34_c2 (x3 : Int32) (x5 : Int32) (I : Nat → Nat → Int32) (J : Nat → Nat → Int64) (T : Option Nat) (V34 : Int32 → Int32 → (Nat → Nat → Int32) → (Nat → Nat → Int64) → Option Nat → Prop) (P : Int32 → (Nat → Nat → Int32) → (Nat → Nat → Int64) → Option Nat → Prop) : Prop := ((x5 < x3 → ((x5 < (5 : Int32) → ix_inb (I 142 3) 30 = true ∧ ix_inb (x5) 60 = true ∧ ix_inb (x5) 5 = true ∧ V34 (x3) (x5 + (1 : Int32)) (ix_u2 I (ix_row 146 (I 142 3)) (x5).toNatClampNeg ((J 2 (x5).toNatClampNeg).toInt32)) J T) ∧ (¬ (x5 < (5 : Int32)) → P ((((I 142 3) + ((1 : Int32)))) - ((1 : Int32))) (ix_u2 I 142 3 ((I 142 3) + ((1 : Int32)))) J T))) ∧ (¬ (x5 < x3) → P ((((I 142 3) + ((1 : Int32)))) - ((1 : Int32))) (ix_u2 I 142 3 ((I 142 3) + ((1 : Int32)))) J T))
def wl_X1_add_r2_34_c2 (x3 : Int32) (x5 : Int32) (I : Nat → Nat → Int32) (J : Nat → Nat → Int64) (T : Option Nat) (P : Int32 → (Nat → Nat → Int32) → (Nat → Nat → Int64) → Option Nat → Prop) : Prop := ∀ V : Int32 → Int32 → (Nat → Nat → Int32) → (Nat → Nat → Int64) → Option Nat → Prop, (∀ (x3 : Int32) (x5 : Int32) (I : Nat → Nat → Int32) (J : Nat → Nat → Int64) (T : Option Nat), wb_X1_add_r2_34_c2 x3 x5 I J T V P → V x3 x5 I J T) → V x3 x5 I J T
set_option maxRecDepth 20000 in
theorem tl_X1_add_r2_34_c2 {d : Nat} {x3 : Int32} {x5 : Int32} {I : Nat → Nat → Int32} {J : Nat → Nat → Int64} {T : Option Nat} {P : Int32 → (Nat → Nat → Int32) → (Nat → Nat → Int64) → Option Nat → Prop} {Q : ix_Q} (h : wl_X1_add_r2_34_c2 x3 x5 I J T P) (hQ : ∀ v I J T, P v I J T → Q (some (.inl v)) (ix_mem 276 I J T)) : ix_W (ix_C d) (1, ix_lk ix_l17, (some .int), 0, 0, Nat.blt 0 0, none) Q (34, [some (.inr (.inr (.inl (some (142))))), none, some (.inr (.inr (.inl (some (2))))), some (.inl (x3)), none, some (.inl (x5))], [], 0, 0, ix_mem 276 I J T) := by
  refine h (fun x3 x5 I J T => ix_W (ix_C d) (1, ix_lk ix_l17, (some .int), 0, 0, Nat.blt 0 0, none) Q (34, [some (.inr (.inr (.inl (some (142))))), none, some (.inr (.inr (.inl (some (2))))), some (.inl (x3)), none, some (.inl (x5))], [], 0, 0, ix_mem 276 I J T)) ?_
  intro x3 x5 I J T hb
  unfold wb_X1_add_r2_34_c2 at hb
  refine ix_go 3 (x' := (if x5 < x3 then 40 else 69, [some (.inr (.inr (.inl (some (142))))), none, some (.inr (.inr (.inl (some (2))))), some (.inl (x3)), none, some (.inl (x5))], [], 0, 0, ix_mem 276 I J T)) rfl trivial ?_
  refine ix_br (fun c7 => ?_) (fun c7 => ?_)
  · have h8 := hb.1 c7
    refine ix_go 3 (x' := (if x5 < (5 : Int32) then 46 else 69, [some (.inr (.inr (.inl (some (142))))), none, some (.inr (.inr (.inl (some (2))))), some (.inl (x3)), none, some (.inl (x5))], [], 0, 0, ix_mem 276 I J T)) rfl trivial ?_
    refine ix_br (fun c9 => ?_) (fun c9 => ?_)
    · have h10 := h8.1 c9
      obtain ⟨p11, h12⟩ := h10
      refine ix_go 7 (x' := (58, [some (.inr (.inr (.inl (some (142))))), none, some (.inr (.inr (.inl (some (2))))), some (.inl (x3)), none, some (.inl (x5))], [.inr (.inr (.inl (some (2)))), .inl (x5), .inr (.inr (.inl (some (ix_row 146 (I 142 3)))))], 0, 0, ix_mem 276 I J T)) rfl ⟨rfl, rfl, rfl, rfl, rfl, rfl, rfl, p11, (rw_146 p11).1⟩ ?_
      obtain ⟨p13, h14⟩ := h12
      obtain ⟨p15, h16⟩ := h14
      refine ix_go 6 (x' := (34, [some (.inr (.inr (.inl (some (142))))), none, some (.inr (.inr (.inl (some (2))))), some (.inl (x3)), none, some (.inl (x5 + (1 : Int32)))], [], 0, 0, ix_mem 276 (ix_u2 I (ix_row 146 (I 142 3)) (x5).toNatClampNeg ((J 2 (x5).toNatClampNeg).toInt32)) J T)) rfl ⟨rfl, rfl, p13, (rw_146 p11).2.1, (rw_146 p11).2.2.1, (ix_inbL (rw_146 p11).2.2.2.1 p15)⟩ ?_
      refine ix_subW ([some (.inr (.inr (.inl (some (142))))), none, some (.inr (.inr (.inl (some (2))))), some (.inl (x3)), none, some (.inl (x5 + (1 : Int32)))]) (ix_subS (ix_subS (ix_subS (ix_subS (ix_subS (ix_subS (ix_sub0))))))) ?_
      exact h16
    · have h10 := h8.2 c9
      refine ix_go 7 (x' := (80, [some (.inr (.inr (.inl (some (142))))), none, some (.inr (.inr (.inl (some (2))))), some (.inl (x3)), none, some (.inl (x5))], [.inr (.inr (.inl (some (142))))], 0, 0, ix_mem 276 (ix_u2 I 142 3 ((I 142 3) + ((1 : Int32)))) J T)) rfl ⟨rfl, rfl, rfl, rfl⟩ ?_
      refine ix_go 3 (x' := (85, [some (.inr (.inr (.inl (some (142))))), none, some (.inr (.inr (.inl (some (2))))), some (.inl (x3)), none, some (.inl (x5))], [.inl ((((I 142 3) + ((1 : Int32)))) - ((1 : Int32)))], 0, 0, ix_mem 276 (ix_u2 I 142 3 ((I 142 3) + ((1 : Int32)))) J T)) rfl ⟨rfl, rfl⟩ ?_
      exact ix_sp rfl ⟨Nat.le_refl _, Nat.le_refl _, trivial, hQ _ _ _ _ h10⟩
  · have h8 := hb.2 c7
    refine ix_go 7 (x' := (80, [some (.inr (.inr (.inl (some (142))))), none, some (.inr (.inr (.inl (some (2))))), some (.inl (x3)), none, some (.inl (x5))], [.inr (.inr (.inl (some (142))))], 0, 0, ix_mem 276 (ix_u2 I 142 3 ((I 142 3) + ((1 : Int32)))) J T)) rfl ⟨rfl, rfl, rfl, rfl⟩ ?_
    refine ix_go 3 (x' := (85, [some (.inr (.inr (.inl (some (142))))), none, some (.inr (.inr (.inl (some (2))))), some (.inl (x3)), none, some (.inl (x5))], [.inl ((((I 142 3) + ((1 : Int32)))) - ((1 : Int32)))], 0, 0, ix_mem 276 (ix_u2 I 142 3 ((I 142 3) + ((1 : Int32)))) J T)) rfl ⟨rfl, rfl⟩ ?_
    exact ix_sp rfl ⟨Nat.le_refl _, Nat.le_refl _, trivial, hQ _ _ _ _ h8⟩
def wp_X1_add_r2 (a0 : Int32) (a2 : Int32) (a3 : Int32) (I : Nat → Nat → Int32) (J : Nat → Nat → Int64) (T : Option Nat) (P : Int32 → (Nat → Nat → Int32) → (Nat → Nat → Int64) → Option Nat → Prop) : Prop := ix_inb (I 142 3) 30 = true ∧ ix_inb (I 142 3) 30 = true ∧ ix_inb (I 142 3) 30 = true ∧ wl_X1_add_r2_34_c2 (a2) ((0 : Int32)) (ix_u2 (ix_u2 (ix_u2 I 143 (I 142 3).toNatClampNeg (a0)) 144 (I 142 3).toNatClampNeg (a3)) 145 (I 142 3).toNatClampNeg (a2)) J T P
set_option maxRecDepth 20000 in
theorem tp_X1_add_r2 {d : Nat} {a0 : Int32} {a2 : Int32} {a3 : Int32} {I : Nat → Nat → Int32} {J : Nat → Nat → Int64} {T : Option Nat} {P : Int32 → (Nat → Nat → Int32) → (Nat → Nat → Int64) → Option Nat → Prop} {Q : ix_Q} (h : wp_X1_add_r2 a0 a2 a3 I J T P) (hQ : ∀ v I J T, P v I J T → Q (some (.inl v)) (ix_mem 276 I J T)) : ix_C (d + 1) 17 [.inr (.inr (.inl (some (142)))), .inl (a0), .inr (.inr (.inl (some (2)))), .inl (a2), .inl (a3)] (ix_mem 276 I J T) Q := by
  unfold wp_X1_add_r2 at h
  refine ix_enter (ls := [some (.inr (.inr (.inl (some (142))))), some (.inl (a0)), some (.inr (.inr (.inl (some (2))))), some (.inl (a2)), some (.inl (a3)), none]) rfl rfl rfl (Nat.le_of_ble_eq_true rfl) ?_
  obtain ⟨p1, h2⟩ := h
  refine ix_go 7 (x' := (11, [some (.inr (.inr (.inl (some (142))))), some (.inl (a0)), some (.inr (.inr (.inl (some (2))))), some (.inl (a2)), some (.inl (a3)), none], [.inr (.inr (.inl (some (142))))], 0, 0, ix_mem 276 (ix_u2 I 143 (I 142 3).toNatClampNeg (a0)) J T)) rfl ⟨rfl, rfl, rfl, rfl, rfl, rfl, p1⟩ ?_
  obtain ⟨p3, h4⟩ := h2
  refine ix_go 7 (x' := (25, [some (.inr (.inr (.inl (some (142))))), some (.inl (a0)), some (.inr (.inr (.inl (some (2))))), some (.inl (a2)), some (.inl (a3)), none], [.inr (.inr (.inl (some (145))))], 0, 0, ix_mem 276 (ix_u2 (ix_u2 I 143 (I 142 3).toNatClampNeg (a0)) 144 (I 142 3).toNatClampNeg (a3)) J T)) rfl ⟨rfl, rfl, rfl, rfl, rfl, rfl, p3, rfl, rfl⟩ ?_
  obtain ⟨p5, h6⟩ := h4
  refine ix_go 6 (x' := (34, [some (.inr (.inr (.inl (some (142))))), some (.inl (a0)), some (.inr (.inr (.inl (some (2))))), some (.inl (a2)), some (.inl (a3)), some (.inl ((0 : Int32)))], [], 0, 0, ix_mem 276 (ix_u2 (ix_u2 (ix_u2 I 143 (I 142 3).toNatClampNeg (a0)) 144 (I 142 3).toNatClampNeg (a3)) 145 (I 142 3).toNatClampNeg (a2)) J T)) rfl ⟨rfl, rfl, rfl, rfl, p5⟩ ?_
  refine ix_subW ([some (.inr (.inr (.inl (some (142))))), none, some (.inr (.inr (.inl (some (2))))), some (.inl (a2)), none, some (.inl ((0 : Int32)))]) (ix_subS (ix_subN (ix_subS (ix_subS (ix_subN (ix_subS (ix_sub0))))))) ?_
  exact tl_X1_add_r2_34_c2 h6 hQ
def wb_X1_add_r3_34_c3 (x3 : Int32) (x5 : Int32) (I : Nat → Nat → Int32) (J : Nat → Nat → Int64) (T : Option Nat) (V34 : Int32 → Int32 → (Nat → Nat → Int32) → (Nat → Nat → Int64) → Option Nat → Prop) (P : Int32 → (Nat → Nat → Int32) → (Nat → Nat → Int64) → Option Nat → Prop) : Prop := ((x5 < x3 → ((x5 < (5 : Int32) → ix_inb (I 142 3) 30 = true ∧ ix_inb (x5) 60 = true ∧ ix_inb (x5) 5 = true ∧ V34 (x3) (x5 + (1 : Int32)) (ix_u2 I (ix_row 146 (I 142 3)) (x5).toNatClampNeg ((J 3 (x5).toNatClampNeg).toInt32)) J T) ∧ (¬ (x5 < (5 : Int32)) → P ((((I 142 3) + ((1 : Int32)))) - ((1 : Int32))) (ix_u2 I 142 3 ((I 142 3) + ((1 : Int32)))) J T))) ∧ (¬ (x5 < x3) → P ((((I 142 3) + ((1 : Int32)))) - ((1 : Int32))) (ix_u2 I 142 3 ((I 142 3) + ((1 : Int32)))) J T))
def wl_X1_add_r3_34_c3 (x3 : Int32) (x5 : Int32) (I : Nat → Nat → Int32) (J : Nat → Nat → Int64) (T : Option Nat) (P : Int32 → (Nat → Nat → Int32) → (Nat → Nat → Int64) → Option Nat → Prop) : Prop := ∀ V : Int32 → Int32 → (Nat → Nat → Int32) → (Nat → Nat → Int64) → Option Nat → Prop, (∀ (x3 : Int32) (x5 : Int32) (I : Nat → Nat → Int32) (J : Nat → Nat → Int64) (T : Option Nat), wb_X1_add_r3_34_c3 x3 x5 I J T V P → V x3 x5 I J T) → V x3 x5 I J T
set_option maxRecDepth 20000 in
theorem tl_X1_add_r3_34_c3 {d : Nat} {x3 : Int32} {x5 : Int32} {I : Nat → Nat → Int32} {J : Nat → Nat → Int64} {T : Option Nat} {P : Int32 → (Nat → Nat → Int32) → (Nat → Nat → Int64) → Option Nat → Prop} {Q : ix_Q} (h : wl_X1_add_r3_34_c3 x3 x5 I J T P) (hQ : ∀ v I J T, P v I J T → Q (some (.inl v)) (ix_mem 276 I J T)) : ix_W (ix_C d) (1, ix_lk ix_l17, (some .int), 0, 0, Nat.blt 0 0, none) Q (34, [some (.inr (.inr (.inl (some (142))))), none, some (.inr (.inr (.inl (some (3))))), some (.inl (x3)), none, some (.inl (x5))], [], 0, 0, ix_mem 276 I J T) := by
  refine h (fun x3 x5 I J T => ix_W (ix_C d) (1, ix_lk ix_l17, (some .int), 0, 0, Nat.blt 0 0, none) Q (34, [some (.inr (.inr (.inl (some (142))))), none, some (.inr (.inr (.inl (some (3))))), some (.inl (x3)), none, some (.inl (x5))], [], 0, 0, ix_mem 276 I J T)) ?_
  intro x3 x5 I J T hb
  unfold wb_X1_add_r3_34_c3 at hb
  refine ix_go 3 (x' := (if x5 < x3 then 40 else 69, [some (.inr (.inr (.inl (some (142))))), none, some (.inr (.inr (.inl (some (3))))), some (.inl (x3)), none, some (.inl (x5))], [], 0, 0, ix_mem 276 I J T)) rfl trivial ?_
  refine ix_br (fun c7 => ?_) (fun c7 => ?_)
  · have h8 := hb.1 c7
    refine ix_go 3 (x' := (if x5 < (5 : Int32) then 46 else 69, [some (.inr (.inr (.inl (some (142))))), none, some (.inr (.inr (.inl (some (3))))), some (.inl (x3)), none, some (.inl (x5))], [], 0, 0, ix_mem 276 I J T)) rfl trivial ?_
    refine ix_br (fun c9 => ?_) (fun c9 => ?_)
    · have h10 := h8.1 c9
      obtain ⟨p11, h12⟩ := h10
      refine ix_go 7 (x' := (58, [some (.inr (.inr (.inl (some (142))))), none, some (.inr (.inr (.inl (some (3))))), some (.inl (x3)), none, some (.inl (x5))], [.inr (.inr (.inl (some (3)))), .inl (x5), .inr (.inr (.inl (some (ix_row 146 (I 142 3)))))], 0, 0, ix_mem 276 I J T)) rfl ⟨rfl, rfl, rfl, rfl, rfl, rfl, rfl, p11, (rw_146 p11).1⟩ ?_
      obtain ⟨p13, h14⟩ := h12
      obtain ⟨p15, h16⟩ := h14
      refine ix_go 6 (x' := (34, [some (.inr (.inr (.inl (some (142))))), none, some (.inr (.inr (.inl (some (3))))), some (.inl (x3)), none, some (.inl (x5 + (1 : Int32)))], [], 0, 0, ix_mem 276 (ix_u2 I (ix_row 146 (I 142 3)) (x5).toNatClampNeg ((J 3 (x5).toNatClampNeg).toInt32)) J T)) rfl ⟨rfl, rfl, p13, (rw_146 p11).2.1, (rw_146 p11).2.2.1, (ix_inbL (rw_146 p11).2.2.2.1 p15)⟩ ?_
      refine ix_subW ([some (.inr (.inr (.inl (some (142))))), none, some (.inr (.inr (.inl (some (3))))), some (.inl (x3)), none, some (.inl (x5 + (1 : Int32)))]) (ix_subS (ix_subS (ix_subS (ix_subS (ix_subS (ix_subS (ix_sub0))))))) ?_
      exact h16
    · have h10 := h8.2 c9
      refine ix_go 7 (x' := (80, [some (.inr (.inr (.inl (some (142))))), none, some (.inr (.inr (.inl (some (3))))), some (.inl (x3)), none, some (.inl (x5))], [.inr (.inr (.inl (some (142))))], 0, 0, ix_mem 276 (ix_u2 I 142 3 ((I 142 3) + ((1 : Int32)))) J T)) rfl ⟨rfl, rfl, rfl, rfl⟩ ?_
      refine ix_go 3 (x' := (85, [some (.inr (.inr (.inl (some (142))))), none, some (.inr (.inr (.inl (some (3))))), some (.inl (x3)), none, some (.inl (x5))], [.inl ((((I 142 3) + ((1 : Int32)))) - ((1 : Int32)))], 0, 0, ix_mem 276 (ix_u2 I 142 3 ((I 142 3) + ((1 : Int32)))) J T)) rfl ⟨rfl, rfl⟩ ?_
      exact ix_sp rfl ⟨Nat.le_refl _, Nat.le_refl _, trivial, hQ _ _ _ _ h10⟩
  · have h8 := hb.2 c7
    refine ix_go 7 (x' := (80, [some (.inr (.inr (.inl (some (142))))), none, some (.inr (.inr (.inl (some (3))))), some (.inl (x3)), none, some (.inl (x5))], [.inr (.inr (.inl (some (142))))], 0, 0, ix_mem 276 (ix_u2 I 142 3 ((I 142 3) + ((1 : Int32)))) J T)) rfl ⟨rfl, rfl, rfl, rfl⟩ ?_
    refine ix_go 3 (x' := (85, [some (.inr (.inr (.inl (some (142))))), none, some (.inr (.inr (.inl (some (3))))), some (.inl (x3)), none, some (.inl (x5))], [.inl ((((I 142 3) + ((1 : Int32)))) - ((1 : Int32)))], 0, 0, ix_mem 276 (ix_u2 I 142 3 ((I 142 3) + ((1 : Int32)))) J T)) rfl ⟨rfl, rfl⟩ ?_
    exact ix_sp rfl ⟨Nat.le_refl _, Nat.le_refl _, trivial, hQ _ _ _ _ h8⟩
def wp_X1_add_r3 (a0 : Int32) (a2 : Int32) (a3 : Int32) (I : Nat → Nat → Int32) (J : Nat → Nat → Int64) (T : Option Nat) (P : Int32 → (Nat → Nat → Int32) → (Nat → Nat → Int64) → Option Nat → Prop) : Prop := ix_inb (I 142 3) 30 = true ∧ ix_inb (I 142 3) 30 = true ∧ ix_inb (I 142 3) 30 = true ∧ wl_X1_add_r3_34_c3 (a2) ((0 : Int32)) (ix_u2 (ix_u2 (ix_u2 I 143 (I 142 3).toNatClampNeg (a0)) 144 (I 142 3).toNatClampNeg (a3)) 145 (I 142 3).toNatClampNeg (a2)) J T P
set_option maxRecDepth 20000 in
theorem tp_X1_add_r3 {d : Nat} {a0 : Int32} {a2 : Int32} {a3 : Int32} {I : Nat → Nat → Int32} {J : Nat → Nat → Int64} {T : Option Nat} {P : Int32 → (Nat → Nat → Int32) → (Nat → Nat → Int64) → Option Nat → Prop} {Q : ix_Q} (h : wp_X1_add_r3 a0 a2 a3 I J T P) (hQ : ∀ v I J T, P v I J T → Q (some (.inl v)) (ix_mem 276 I J T)) : ix_C (d + 1) 17 [.inr (.inr (.inl (some (142)))), .inl (a0), .inr (.inr (.inl (some (3)))), .inl (a2), .inl (a3)] (ix_mem 276 I J T) Q := by
  unfold wp_X1_add_r3 at h
  refine ix_enter (ls := [some (.inr (.inr (.inl (some (142))))), some (.inl (a0)), some (.inr (.inr (.inl (some (3))))), some (.inl (a2)), some (.inl (a3)), none]) rfl rfl rfl (Nat.le_of_ble_eq_true rfl) ?_
  obtain ⟨p1, h2⟩ := h
  refine ix_go 7 (x' := (11, [some (.inr (.inr (.inl (some (142))))), some (.inl (a0)), some (.inr (.inr (.inl (some (3))))), some (.inl (a2)), some (.inl (a3)), none], [.inr (.inr (.inl (some (142))))], 0, 0, ix_mem 276 (ix_u2 I 143 (I 142 3).toNatClampNeg (a0)) J T)) rfl ⟨rfl, rfl, rfl, rfl, rfl, rfl, p1⟩ ?_
  obtain ⟨p3, h4⟩ := h2
  refine ix_go 7 (x' := (25, [some (.inr (.inr (.inl (some (142))))), some (.inl (a0)), some (.inr (.inr (.inl (some (3))))), some (.inl (a2)), some (.inl (a3)), none], [.inr (.inr (.inl (some (145))))], 0, 0, ix_mem 276 (ix_u2 (ix_u2 I 143 (I 142 3).toNatClampNeg (a0)) 144 (I 142 3).toNatClampNeg (a3)) J T)) rfl ⟨rfl, rfl, rfl, rfl, rfl, rfl, p3, rfl, rfl⟩ ?_
  obtain ⟨p5, h6⟩ := h4
  refine ix_go 6 (x' := (34, [some (.inr (.inr (.inl (some (142))))), some (.inl (a0)), some (.inr (.inr (.inl (some (3))))), some (.inl (a2)), some (.inl (a3)), some (.inl ((0 : Int32)))], [], 0, 0, ix_mem 276 (ix_u2 (ix_u2 (ix_u2 I 143 (I 142 3).toNatClampNeg (a0)) 144 (I 142 3).toNatClampNeg (a3)) 145 (I 142 3).toNatClampNeg (a2)) J T)) rfl ⟨rfl, rfl, rfl, rfl, p5⟩ ?_
  refine ix_subW ([some (.inr (.inr (.inl (some (142))))), none, some (.inr (.inr (.inl (some (3))))), some (.inl (a2)), none, some (.inl ((0 : Int32)))]) (ix_subS (ix_subN (ix_subS (ix_subS (ix_subN (ix_subS (ix_sub0))))))) ?_
  exact tl_X1_add_r3_34_c3 h6 hQ
def wb_X1_add_r4_34_c4 (x3 : Int32) (x5 : Int32) (I : Nat → Nat → Int32) (J : Nat → Nat → Int64) (T : Option Nat) (V34 : Int32 → Int32 → (Nat → Nat → Int32) → (Nat → Nat → Int64) → Option Nat → Prop) (P : Int32 → (Nat → Nat → Int32) → (Nat → Nat → Int64) → Option Nat → Prop) : Prop := ((x5 < x3 → ((x5 < (5 : Int32) → ix_inb (I 142 3) 30 = true ∧ ix_inb (x5) 60 = true ∧ ix_inb (x5) 5 = true ∧ V34 (x3) (x5 + (1 : Int32)) (ix_u2 I (ix_row 146 (I 142 3)) (x5).toNatClampNeg ((J 4 (x5).toNatClampNeg).toInt32)) J T) ∧ (¬ (x5 < (5 : Int32)) → P ((((I 142 3) + ((1 : Int32)))) - ((1 : Int32))) (ix_u2 I 142 3 ((I 142 3) + ((1 : Int32)))) J T))) ∧ (¬ (x5 < x3) → P ((((I 142 3) + ((1 : Int32)))) - ((1 : Int32))) (ix_u2 I 142 3 ((I 142 3) + ((1 : Int32)))) J T))
def wl_X1_add_r4_34_c4 (x3 : Int32) (x5 : Int32) (I : Nat → Nat → Int32) (J : Nat → Nat → Int64) (T : Option Nat) (P : Int32 → (Nat → Nat → Int32) → (Nat → Nat → Int64) → Option Nat → Prop) : Prop := ∀ V : Int32 → Int32 → (Nat → Nat → Int32) → (Nat → Nat → Int64) → Option Nat → Prop, (∀ (x3 : Int32) (x5 : Int32) (I : Nat → Nat → Int32) (J : Nat → Nat → Int64) (T : Option Nat), wb_X1_add_r4_34_c4 x3 x5 I J T V P → V x3 x5 I J T) → V x3 x5 I J T
set_option maxRecDepth 20000 in
theorem tl_X1_add_r4_34_c4 {d : Nat} {x3 : Int32} {x5 : Int32} {I : Nat → Nat → Int32} {J : Nat → Nat → Int64} {T : Option Nat} {P : Int32 → (Nat → Nat → Int32) → (Nat → Nat → Int64) → Option Nat → Prop} {Q : ix_Q} (h : wl_X1_add_r4_34_c4 x3 x5 I J T P) (hQ : ∀ v I J T, P v I J T → Q (some (.inl v)) (ix_mem 276 I J T)) : ix_W (ix_C d) (1, ix_lk ix_l17, (some .int), 0, 0, Nat.blt 0 0, none) Q (34, [some (.inr (.inr (.inl (some (142))))), none, some (.inr (.inr (.inl (some (4))))), some (.inl (x3)), none, some (.inl (x5))], [], 0, 0, ix_mem 276 I J T) := by
  refine h (fun x3 x5 I J T => ix_W (ix_C d) (1, ix_lk ix_l17, (some .int), 0, 0, Nat.blt 0 0, none) Q (34, [some (.inr (.inr (.inl (some (142))))), none, some (.inr (.inr (.inl (some (4))))), some (.inl (x3)), none, some (.inl (x5))], [], 0, 0, ix_mem 276 I J T)) ?_
  intro x3 x5 I J T hb
  unfold wb_X1_add_r4_34_c4 at hb
  refine ix_go 3 (x' := (if x5 < x3 then 40 else 69, [some (.inr (.inr (.inl (some (142))))), none, some (.inr (.inr (.inl (some (4))))), some (.inl (x3)), none, some (.inl (x5))], [], 0, 0, ix_mem 276 I J T)) rfl trivial ?_
  refine ix_br (fun c7 => ?_) (fun c7 => ?_)
  · have h8 := hb.1 c7
    refine ix_go 3 (x' := (if x5 < (5 : Int32) then 46 else 69, [some (.inr (.inr (.inl (some (142))))), none, some (.inr (.inr (.inl (some (4))))), some (.inl (x3)), none, some (.inl (x5))], [], 0, 0, ix_mem 276 I J T)) rfl trivial ?_
    refine ix_br (fun c9 => ?_) (fun c9 => ?_)
    · have h10 := h8.1 c9
      obtain ⟨p11, h12⟩ := h10
      refine ix_go 7 (x' := (58, [some (.inr (.inr (.inl (some (142))))), none, some (.inr (.inr (.inl (some (4))))), some (.inl (x3)), none, some (.inl (x5))], [.inr (.inr (.inl (some (4)))), .inl (x5), .inr (.inr (.inl (some (ix_row 146 (I 142 3)))))], 0, 0, ix_mem 276 I J T)) rfl ⟨rfl, rfl, rfl, rfl, rfl, rfl, rfl, p11, (rw_146 p11).1⟩ ?_
      obtain ⟨p13, h14⟩ := h12
      obtain ⟨p15, h16⟩ := h14
      refine ix_go 6 (x' := (34, [some (.inr (.inr (.inl (some (142))))), none, some (.inr (.inr (.inl (some (4))))), some (.inl (x3)), none, some (.inl (x5 + (1 : Int32)))], [], 0, 0, ix_mem 276 (ix_u2 I (ix_row 146 (I 142 3)) (x5).toNatClampNeg ((J 4 (x5).toNatClampNeg).toInt32)) J T)) rfl ⟨rfl, rfl, p13, (rw_146 p11).2.1, (rw_146 p11).2.2.1, (ix_inbL (rw_146 p11).2.2.2.1 p15)⟩ ?_
      refine ix_subW ([some (.inr (.inr (.inl (some (142))))), none, some (.inr (.inr (.inl (some (4))))), some (.inl (x3)), none, some (.inl (x5 + (1 : Int32)))]) (ix_subS (ix_subS (ix_subS (ix_subS (ix_subS (ix_subS (ix_sub0))))))) ?_
      exact h16
    · have h10 := h8.2 c9
      refine ix_go 7 (x' := (80, [some (.inr (.inr (.inl (some (142))))), none, some (.inr (.inr (.inl (some (4))))), some (.inl (x3)), none, some (.inl (x5))], [.inr (.inr (.inl (some (142))))], 0, 0, ix_mem 276 (ix_u2 I 142 3 ((I 142 3) + ((1 : Int32)))) J T)) rfl ⟨rfl, rfl, rfl, rfl⟩ ?_
      refine ix_go 3 (x' := (85, [some (.inr (.inr (.inl (some (142))))), none, some (.inr (.inr (.inl (some (4))))), some (.inl (x3)), none, some (.inl (x5))], [.inl ((((I 142 3) + ((1 : Int32)))) - ((1 : Int32)))], 0, 0, ix_mem 276 (ix_u2 I 142 3 ((I 142 3) + ((1 : Int32)))) J T)) rfl ⟨rfl, rfl⟩ ?_
      exact ix_sp rfl ⟨Nat.le_refl _, Nat.le_refl _, trivial, hQ _ _ _ _ h10⟩
  · have h8 := hb.2 c7
    refine ix_go 7 (x' := (80, [some (.inr (.inr (.inl (some (142))))), none, some (.inr (.inr (.inl (some (4))))), some (.inl (x3)), none, some (.inl (x5))], [.inr (.inr (.inl (some (142))))], 0, 0, ix_mem 276 (ix_u2 I 142 3 ((I 142 3) + ((1 : Int32)))) J T)) rfl ⟨rfl, rfl, rfl, rfl⟩ ?_
    refine ix_go 3 (x' := (85, [some (.inr (.inr (.inl (some (142))))), none, some (.inr (.inr (.inl (some (4))))), some (.inl (x3)), none, some (.inl (x5))], [.inl ((((I 142 3) + ((1 : Int32)))) - ((1 : Int32)))], 0, 0, ix_mem 276 (ix_u2 I 142 3 ((I 142 3) + ((1 : Int32)))) J T)) rfl ⟨rfl, rfl⟩ ?_
    exact ix_sp rfl ⟨Nat.le_refl _, Nat.le_refl _, trivial, hQ _ _ _ _ h8⟩
def wp_X1_add_r4 (a0 : Int32) (a2 : Int32) (a3 : Int32) (I : Nat → Nat → Int32) (J : Nat → Nat → Int64) (T : Option Nat) (P : Int32 → (Nat → Nat → Int32) → (Nat → Nat → Int64) → Option Nat → Prop) : Prop := ix_inb (I 142 3) 30 = true ∧ ix_inb (I 142 3) 30 = true ∧ ix_inb (I 142 3) 30 = true ∧ wl_X1_add_r4_34_c4 (a2) ((0 : Int32)) (ix_u2 (ix_u2 (ix_u2 I 143 (I 142 3).toNatClampNeg (a0)) 144 (I 142 3).toNatClampNeg (a3)) 145 (I 142 3).toNatClampNeg (a2)) J T P
set_option maxRecDepth 20000 in
theorem tp_X1_add_r4 {d : Nat} {a0 : Int32} {a2 : Int32} {a3 : Int32} {I : Nat → Nat → Int32} {J : Nat → Nat → Int64} {T : Option Nat} {P : Int32 → (Nat → Nat → Int32) → (Nat → Nat → Int64) → Option Nat → Prop} {Q : ix_Q} (h : wp_X1_add_r4 a0 a2 a3 I J T P) (hQ : ∀ v I J T, P v I J T → Q (some (.inl v)) (ix_mem 276 I J T)) : ix_C (d + 1) 17 [.inr (.inr (.inl (some (142)))), .inl (a0), .inr (.inr (.inl (some (4)))), .inl (a2), .inl (a3)] (ix_mem 276 I J T) Q := by
  unfold wp_X1_add_r4 at h
  refine ix_enter (ls := [some (.inr (.inr (.inl (some (142))))), some (.inl (a0)), some (.inr (.inr (.inl (some (4))))), some (.inl (a2)), some (.inl (a3)), none]) rfl rfl rfl (Nat.le_of_ble_eq_true rfl) ?_
  obtain ⟨p1, h2⟩ := h
  refine ix_go 7 (x' := (11, [some (.inr (.inr (.inl (some (142))))), some (.inl (a0)), some (.inr (.inr (.inl (some (4))))), some (.inl (a2)), some (.inl (a3)), none], [.inr (.inr (.inl (some (142))))], 0, 0, ix_mem 276 (ix_u2 I 143 (I 142 3).toNatClampNeg (a0)) J T)) rfl ⟨rfl, rfl, rfl, rfl, rfl, rfl, p1⟩ ?_
  obtain ⟨p3, h4⟩ := h2
  refine ix_go 7 (x' := (25, [some (.inr (.inr (.inl (some (142))))), some (.inl (a0)), some (.inr (.inr (.inl (some (4))))), some (.inl (a2)), some (.inl (a3)), none], [.inr (.inr (.inl (some (145))))], 0, 0, ix_mem 276 (ix_u2 (ix_u2 I 143 (I 142 3).toNatClampNeg (a0)) 144 (I 142 3).toNatClampNeg (a3)) J T)) rfl ⟨rfl, rfl, rfl, rfl, rfl, rfl, p3, rfl, rfl⟩ ?_
  obtain ⟨p5, h6⟩ := h4
  refine ix_go 6 (x' := (34, [some (.inr (.inr (.inl (some (142))))), some (.inl (a0)), some (.inr (.inr (.inl (some (4))))), some (.inl (a2)), some (.inl (a3)), some (.inl ((0 : Int32)))], [], 0, 0, ix_mem 276 (ix_u2 (ix_u2 (ix_u2 I 143 (I 142 3).toNatClampNeg (a0)) 144 (I 142 3).toNatClampNeg (a3)) 145 (I 142 3).toNatClampNeg (a2)) J T)) rfl ⟨rfl, rfl, rfl, rfl, p5⟩ ?_
  refine ix_subW ([some (.inr (.inr (.inl (some (142))))), none, some (.inr (.inr (.inl (some (4))))), some (.inl (a2)), none, some (.inl ((0 : Int32)))]) (ix_subS (ix_subN (ix_subS (ix_subS (ix_subN (ix_subS (ix_sub0))))))) ?_
  exact tl_X1_add_r4_34_c4 h6 hQ
def wb_X1_add_r5_34_c5 (x3 : Int32) (x5 : Int32) (I : Nat → Nat → Int32) (J : Nat → Nat → Int64) (T : Option Nat) (V34 : Int32 → Int32 → (Nat → Nat → Int32) → (Nat → Nat → Int64) → Option Nat → Prop) (P : Int32 → (Nat → Nat → Int32) → (Nat → Nat → Int64) → Option Nat → Prop) : Prop := ((x5 < x3 → ((x5 < (5 : Int32) → ix_inb (I 142 3) 30 = true ∧ ix_inb (x5) 60 = true ∧ ix_inb (x5) 5 = true ∧ V34 (x3) (x5 + (1 : Int32)) (ix_u2 I (ix_row 146 (I 142 3)) (x5).toNatClampNeg ((J 5 (x5).toNatClampNeg).toInt32)) J T) ∧ (¬ (x5 < (5 : Int32)) → P ((((I 142 3) + ((1 : Int32)))) - ((1 : Int32))) (ix_u2 I 142 3 ((I 142 3) + ((1 : Int32)))) J T))) ∧ (¬ (x5 < x3) → P ((((I 142 3) + ((1 : Int32)))) - ((1 : Int32))) (ix_u2 I 142 3 ((I 142 3) + ((1 : Int32)))) J T))
def wl_X1_add_r5_34_c5 (x3 : Int32) (x5 : Int32) (I : Nat → Nat → Int32) (J : Nat → Nat → Int64) (T : Option Nat) (P : Int32 → (Nat → Nat → Int32) → (Nat → Nat → Int64) → Option Nat → Prop) : Prop := ∀ V : Int32 → Int32 → (Nat → Nat → Int32) → (Nat → Nat → Int64) → Option Nat → Prop, (∀ (x3 : Int32) (x5 : Int32) (I : Nat → Nat → Int32) (J : Nat → Nat → Int64) (T : Option Nat), wb_X1_add_r5_34_c5 x3 x5 I J T V P → V x3 x5 I J T) → V x3 x5 I J T
set_option maxRecDepth 20000 in
theorem tl_X1_add_r5_34_c5 {d : Nat} {x3 : Int32} {x5 : Int32} {I : Nat → Nat → Int32} {J : Nat → Nat → Int64} {T : Option Nat} {P : Int32 → (Nat → Nat → Int32) → (Nat → Nat → Int64) → Option Nat → Prop} {Q : ix_Q} (h : wl_X1_add_r5_34_c5 x3 x5 I J T P) (hQ : ∀ v I J T, P v I J T → Q (some (.inl v)) (ix_mem 276 I J T)) : ix_W (ix_C d) (1, ix_lk ix_l17, (some .int), 0, 0, Nat.blt 0 0, none) Q (34, [some (.inr (.inr (.inl (some (142))))), none, some (.inr (.inr (.inl (some (5))))), some (.inl (x3)), none, some (.inl (x5))], [], 0, 0, ix_mem 276 I J T) := by
  refine h (fun x3 x5 I J T => ix_W (ix_C d) (1, ix_lk ix_l17, (some .int), 0, 0, Nat.blt 0 0, none) Q (34, [some (.inr (.inr (.inl (some (142))))), none, some (.inr (.inr (.inl (some (5))))), some (.inl (x3)), none, some (.inl (x5))], [], 0, 0, ix_mem 276 I J T)) ?_
  intro x3 x5 I J T hb
  unfold wb_X1_add_r5_34_c5 at hb
  refine ix_go 3 (x' := (if x5 < x3 then 40 else 69, [some (.inr (.inr (.inl (some (142))))), none, some (.inr (.inr (.inl (some (5))))), some (.inl (x3)), none, some (.inl (x5))], [], 0, 0, ix_mem 276 I J T)) rfl trivial ?_
  refine ix_br (fun c7 => ?_) (fun c7 => ?_)
  · have h8 := hb.1 c7
    refine ix_go 3 (x' := (if x5 < (5 : Int32) then 46 else 69, [some (.inr (.inr (.inl (some (142))))), none, some (.inr (.inr (.inl (some (5))))), some (.inl (x3)), none, some (.inl (x5))], [], 0, 0, ix_mem 276 I J T)) rfl trivial ?_
    refine ix_br (fun c9 => ?_) (fun c9 => ?_)
    · have h10 := h8.1 c9
      obtain ⟨p11, h12⟩ := h10
      refine ix_go 7 (x' := (58, [some (.inr (.inr (.inl (some (142))))), none, some (.inr (.inr (.inl (some (5))))), some (.inl (x3)), none, some (.inl (x5))], [.inr (.inr (.inl (some (5)))), .inl (x5), .inr (.inr (.inl (some (ix_row 146 (I 142 3)))))], 0, 0, ix_mem 276 I J T)) rfl ⟨rfl, rfl, rfl, rfl, rfl, rfl, rfl, p11, (rw_146 p11).1⟩ ?_
      obtain ⟨p13, h14⟩ := h12
      obtain ⟨p15, h16⟩ := h14
      refine ix_go 6 (x' := (34, [some (.inr (.inr (.inl (some (142))))), none, some (.inr (.inr (.inl (some (5))))), some (.inl (x3)), none, some (.inl (x5 + (1 : Int32)))], [], 0, 0, ix_mem 276 (ix_u2 I (ix_row 146 (I 142 3)) (x5).toNatClampNeg ((J 5 (x5).toNatClampNeg).toInt32)) J T)) rfl ⟨rfl, rfl, p13, (rw_146 p11).2.1, (rw_146 p11).2.2.1, (ix_inbL (rw_146 p11).2.2.2.1 p15)⟩ ?_
      refine ix_subW ([some (.inr (.inr (.inl (some (142))))), none, some (.inr (.inr (.inl (some (5))))), some (.inl (x3)), none, some (.inl (x5 + (1 : Int32)))]) (ix_subS (ix_subS (ix_subS (ix_subS (ix_subS (ix_subS (ix_sub0))))))) ?_
      exact h16
    · have h10 := h8.2 c9
      refine ix_go 7 (x' := (80, [some (.inr (.inr (.inl (some (142))))), none, some (.inr (.inr (.inl (some (5))))), some (.inl (x3)), none, some (.inl (x5))], [.inr (.inr (.inl (some (142))))], 0, 0, ix_mem 276 (ix_u2 I 142 3 ((I 142 3) + ((1 : Int32)))) J T)) rfl ⟨rfl, rfl, rfl, rfl⟩ ?_
      refine ix_go 3 (x' := (85, [some (.inr (.inr (.inl (some (142))))), none, some (.inr (.inr (.inl (some (5))))), some (.inl (x3)), none, some (.inl (x5))], [.inl ((((I 142 3) + ((1 : Int32)))) - ((1 : Int32)))], 0, 0, ix_mem 276 (ix_u2 I 142 3 ((I 142 3) + ((1 : Int32)))) J T)) rfl ⟨rfl, rfl⟩ ?_
      exact ix_sp rfl ⟨Nat.le_refl _, Nat.le_refl _, trivial, hQ _ _ _ _ h10⟩
  · have h8 := hb.2 c7
    refine ix_go 7 (x' := (80, [some (.inr (.inr (.inl (some (142))))), none, some (.inr (.inr (.inl (some (5))))), some (.inl (x3)), none, some (.inl (x5))], [.inr (.inr (.inl (some (142))))], 0, 0, ix_mem 276 (ix_u2 I 142 3 ((I 142 3) + ((1 : Int32)))) J T)) rfl ⟨rfl, rfl, rfl, rfl⟩ ?_
    refine ix_go 3 (x' := (85, [some (.inr (.inr (.inl (some (142))))), none, some (.inr (.inr (.inl (some (5))))), some (.inl (x3)), none, some (.inl (x5))], [.inl ((((I 142 3) + ((1 : Int32)))) - ((1 : Int32)))], 0, 0, ix_mem 276 (ix_u2 I 142 3 ((I 142 3) + ((1 : Int32)))) J T)) rfl ⟨rfl, rfl⟩ ?_
    exact ix_sp rfl ⟨Nat.le_refl _, Nat.le_refl _, trivial, hQ _ _ _ _ h8⟩
def wp_X1_add_r5 (a0 : Int32) (a2 : Int32) (a3 : Int32) (I : Nat → Nat → Int32) (J : Nat → Nat → Int64) (T : Option Nat) (P : Int32 → (Nat → Nat → Int32) → (Nat → Nat → Int64) → Option Nat → Prop) : Prop := ix_inb (I 142 3) 30 = true ∧ ix_inb (I 142 3) 30 = true ∧ ix_inb (I 142 3) 30 = true ∧ wl_X1_add_r5_34_c5 (a2) ((0 : Int32)) (ix_u2 (ix_u2 (ix_u2 I 143 (I 142 3).toNatClampNeg (a0)) 144 (I 142 3).toNatClampNeg (a3)) 145 (I 142 3).toNatClampNeg (a2)) J T P
set_option maxRecDepth 20000 in
theorem tp_X1_add_r5 {d : Nat} {a0 : Int32} {a2 : Int32} {a3 : Int32} {I : Nat → Nat → Int32} {J : Nat → Nat → Int64} {T : Option Nat} {P : Int32 → (Nat → Nat → Int32) → (Nat → Nat → Int64) → Option Nat → Prop} {Q : ix_Q} (h : wp_X1_add_r5 a0 a2 a3 I J T P) (hQ : ∀ v I J T, P v I J T → Q (some (.inl v)) (ix_mem 276 I J T)) : ix_C (d + 1) 17 [.inr (.inr (.inl (some (142)))), .inl (a0), .inr (.inr (.inl (some (5)))), .inl (a2), .inl (a3)] (ix_mem 276 I J T) Q := by
  unfold wp_X1_add_r5 at h
  refine ix_enter (ls := [some (.inr (.inr (.inl (some (142))))), some (.inl (a0)), some (.inr (.inr (.inl (some (5))))), some (.inl (a2)), some (.inl (a3)), none]) rfl rfl rfl (Nat.le_of_ble_eq_true rfl) ?_
  obtain ⟨p1, h2⟩ := h
  refine ix_go 7 (x' := (11, [some (.inr (.inr (.inl (some (142))))), some (.inl (a0)), some (.inr (.inr (.inl (some (5))))), some (.inl (a2)), some (.inl (a3)), none], [.inr (.inr (.inl (some (142))))], 0, 0, ix_mem 276 (ix_u2 I 143 (I 142 3).toNatClampNeg (a0)) J T)) rfl ⟨rfl, rfl, rfl, rfl, rfl, rfl, p1⟩ ?_
  obtain ⟨p3, h4⟩ := h2
  refine ix_go 7 (x' := (25, [some (.inr (.inr (.inl (some (142))))), some (.inl (a0)), some (.inr (.inr (.inl (some (5))))), some (.inl (a2)), some (.inl (a3)), none], [.inr (.inr (.inl (some (145))))], 0, 0, ix_mem 276 (ix_u2 (ix_u2 I 143 (I 142 3).toNatClampNeg (a0)) 144 (I 142 3).toNatClampNeg (a3)) J T)) rfl ⟨rfl, rfl, rfl, rfl, rfl, rfl, p3, rfl, rfl⟩ ?_
  obtain ⟨p5, h6⟩ := h4
  refine ix_go 6 (x' := (34, [some (.inr (.inr (.inl (some (142))))), some (.inl (a0)), some (.inr (.inr (.inl (some (5))))), some (.inl (a2)), some (.inl (a3)), some (.inl ((0 : Int32)))], [], 0, 0, ix_mem 276 (ix_u2 (ix_u2 (ix_u2 I 143 (I 142 3).toNatClampNeg (a0)) 144 (I 142 3).toNatClampNeg (a3)) 145 (I 142 3).toNatClampNeg (a2)) J T)) rfl ⟨rfl, rfl, rfl, rfl, p5⟩ ?_
  refine ix_subW ([some (.inr (.inr (.inl (some (142))))), none, some (.inr (.inr (.inl (some (5))))), some (.inl (a2)), none, some (.inl ((0 : Int32)))]) (ix_subS (ix_subN (ix_subS (ix_subS (ix_subN (ix_subS (ix_sub0))))))) ?_
  exact tl_X1_add_r5_34_c5 h6 hQ
