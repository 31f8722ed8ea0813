def wp_X11_gain (a0 : Int32) (a1 : Int32) (a2 : Int32) (a3 : Int32) (a4 : Int32) (a5 : Int32) (I : Nat → Nat → Int32) (J : Nat → Nat → Int64) (T : Option Nat) (P : Int64 → (Nat → Nat → Int32) → (Nat → Nat → Int64) → Option Nat → Prop) : Prop := wp_X11_isMail (a0) (a1) (a2) (a3) (a4) (a5) I J T (fun v1 I1 J1 T1 => ((v1 = 0 → wp_X11_refuse ((1 : Int32)) I1 J1 T1 (fun v4 I4 J4 T4 => P ((v4).toInt64) I4 J4 T4)) ∧ (¬ (v1 = 0) → wp_X6_become (a0) (a1) (a2) (a3) (a4) (a5) I1 J1 T1 (fun I5 J5 T5 => wp_X10_findBest I5 J5 T5 (fun v6 I6 J6 T6 => ((v6 = 0 → wp_X11_refuse ((6 : Int32)) I6 J6 T6 (fun v9 I9 J9 T9 => P ((v9).toInt64) I9 J9 T9)) ∧ (¬ (v6 = 0) → wp_X10_bestPrice I6 J6 T6 (fun v10 I10 J10 T10 => wp_X10_findRemailer I10 J10 T10 (fun v11 I11 J11 T11 => ((v11 = (-1 : Int32) → wp_X11_refuse ((6 : Int32)) I11 J11 T11 (fun v14 I14 J14 T14 => P ((v14).toInt64) I14 J14 T14)) ∧ (¬ (v11 = (-1 : Int32)) → wp_X10_remailPrice (ix_u2 I11 0 0 ((0 : Int32))) J11 T11 (fun v15 I15 J15 T15 => P ((v10) - (v15)) I15 J15 T15))))))))))))
set_option maxRecDepth 20000 in
theorem tp_X11_gain {d : Nat} {a0 : Int32} {a1 : Int32} {a2 : Int32} {a3 : Int32} {a4 : Int32} {a5 : Int32} {I : Nat → Nat → Int32} {J : Nat → Nat → Int64} {T : Option Nat} {P : Int64 → (Nat → Nat → Int32) → (Nat → Nat → Int64) → Option Nat → Prop} {Q : ix_Q} (h : wp_X11_gain a0 a1 a2 a3 a4 a5 I J T P) (hQ : ∀ v I J T, P v I J T → Q (some (.inr (.inl v))) (ix_mem 276 I J T)) : ix_C (d + 11) 194 [.inr (.inr (.inl (some (0)))), .inl (a0), .inl (a1), .inl (a2), .inl (a3), .inl (a4), .inl (a5)] (ix_mem 276 I J T) Q := by
  unfold wp_X11_gain at h
  refine ix_enter (ls := [some (.inr (.inr (.inl (some (0))))), some (.inl (a0)), some (.inl (a1)), some (.inl (a2)), some (.inl (a3)), some (.inl (a4)), some (.inl (a5)), none, none]) rfl rfl rfl (Nat.le_of_ble_eq_true rfl) ?_
  refine ix_go 7 (x' := (10, [some (.inr (.inr (.inl (some (0))))), some (.inl (a0)), some (.inl (a1)), some (.inl (a2)), some (.inl (a3)), some (.inl (a4)), some (.inl (a5)), none, none], [.inl (a5), .inl (a4), .inl (a3), .inl (a2), .inl (a1), .inl (a0), .inr (.inr (.inl (some (0))))], 0, 0, ix_mem 276 I J T)) rfl trivial ?_
  refine ix_sp rfl ⟨rfl, ⟨ix_lt rfl, ix_eq rfl, ix_lt rfl⟩, ix_le rfl, Nat.le_refl _, Nat.le_refl _, tp_X11_isMail h (fun v1 I1 J1 T1 h1 => ?_)⟩
  change ix_W _ _ _ (13, [some (.inr (.inr (.inl (some (0))))), some (.inl (a0)), some (.inl (a1)), some (.inl (a2)), some (.inl (a3)), some (.inl (a4)), some (.inl (a5)), none, none], [.inl (v1)], 0, 0, ix_mem 276 I1 J1 T1)
  refine ix_go 1 (x' := (if v1 = 0 then 16 else 23, [some (.inr (.inr (.inl (some (0))))), some (.inl (a0)), some (.inl (a1)), some (.inl (a2)), some (.inl (a3)), some (.inl (a4)), some (.inl (a5)), none, none], [], 0, 0, ix_mem 276 I1 J1 T1)) rfl trivial ?_
  refine ix_br (fun c2 => ?_) (fun c2 => ?_)
  · have h3 := h1.1 c2
    refine ix_go 2 (x' := (18, [some (.inr (.inr (.inl (some (0))))), some (.inl (a0)), some (.inl (a1)), some (.inl (a2)), some (.inl (a3)), some (.inl (a4)), some (.inl (a5)), none, none], [.inl ((1 : Int32)), .inr (.inr (.inl (some (0))))], 0, 0, ix_mem 276 I1 J1 T1)) rfl trivial ?_
    refine ix_sp rfl ⟨rfl, ⟨ix_lt rfl, ix_eq rfl, ix_lt rfl⟩, ix_le rfl, Nat.le_refl _, Nat.le_refl _, tp_X11_refuse h3 (fun v4 I4 J4 T4 h4 => ?_)⟩
    change ix_W _ _ _ (21, [some (.inr (.inr (.inl (some (0))))), some (.inl (a0)), some (.inl (a1)), some (.inl (a2)), some (.inl (a3)), some (.inl (a4)), some (.inl (a5)), none, none], [.inl (v4)], 0, 0, ix_mem 276 I4 J4 T4)
    refine ix_go 1 (x' := (22, [some (.inr (.inr (.inl (some (0))))), some (.inl (a0)), some (.inl (a1)), some (.inl (a2)), some (.inl (a3)), some (.inl (a4)), some (.inl (a5)), none, none], [.inr (.inl ((v4).toInt64))], 0, 0, ix_mem 276 I4 J4 T4)) rfl trivial ?_
    exact ix_sp rfl ⟨Nat.le_refl _, Nat.le_refl _, rfl, hQ _ _ _ _ h4⟩
  · have h3 := h1.2 c2
    refine ix_go 7 (x' := (34, [some (.inr (.inr (.inl (some (0))))), some (.inl (a0)), some (.inl (a1)), some (.inl (a2)), some (.inl (a3)), some (.inl (a4)), some (.inl (a5)), none, none], [.inl (a4), .inl (a3), .inl (a2), .inl (a1), .inl (a0), .inr (.inr (.inl (some (95))))], 0, 0, ix_mem 276 I1 J1 T1)) rfl ⟨rfl, rfl⟩ ?_
    refine ix_go 1 (x' := (36, [some (.inr (.inr (.inl (some (0))))), some (.inl (a0)), some (.inl (a1)), some (.inl (a2)), some (.inl (a3)), some (.inl (a4)), some (.inl (a5)), none, none], [.inl (a5), .inl (a4), .inl (a3), .inl (a2), .inl (a1), .inl (a0), .inr (.inr (.inl (some (95))))], 0, 0, ix_mem 276 I1 J1 T1)) rfl trivial ?_
    refine ix_sp rfl ⟨rfl, ⟨ix_lt rfl, ix_eq rfl, ix_lt rfl⟩, ix_le rfl, Nat.le_refl _, Nat.le_refl _, tp_X6_become h3 (fun I5 J5 T5 h5 => ?_)⟩
    change ix_W _ _ _ (39, [some (.inr (.inr (.inl (some (0))))), some (.inl (a0)), some (.inl (a1)), some (.inl (a2)), some (.inl (a3)), some (.inl (a4)), some (.inl (a5)), none, none], [], 0, 0, ix_mem 276 I5 J5 T5)
    refine ix_go 4 (x' := (47, [some (.inr (.inr (.inl (some (0))))), some (.inl (a0)), some (.inl (a1)), some (.inl (a2)), some (.inl (a3)), some (.inl (a4)), some (.inl (a5)), none, none], [.inr (.inr (.inl (some (95)))), .inr (.inr (.inl (some (97))))], 0, 0, ix_mem 276 I5 J5 T5)) rfl ⟨rfl, rfl, rfl, rfl⟩ ?_
    refine ix_sp rfl ⟨rfl, ⟨ix_lt rfl, ix_eq rfl, ix_lt rfl⟩, ix_le rfl, Nat.le_refl _, Nat.le_refl _, tp_X10_findBest h5 (fun v6 I6 J6 T6 h6 => ?_)⟩
    change ix_W _ _ _ (50, [some (.inr (.inr (.inl (some (0))))), some (.inl (a0)), some (.inl (a1)), some (.inl (a2)), some (.inl (a3)), some (.inl (a4)), some (.inl (a5)), none, none], [.inl (v6)], 0, 0, ix_mem 276 I6 J6 T6)
    refine ix_go 1 (x' := (if v6 = 0 then 53 else 61, [some (.inr (.inr (.inl (some (0))))), some (.inl (a0)), some (.inl (a1)), some (.inl (a2)), some (.inl (a3)), some (.inl (a4)), some (.inl (a5)), none, none], [], 0, 0, ix_mem 276 I6 J6 T6)) rfl trivial ?_
    refine ix_br (fun c7 => ?_) (fun c7 => ?_)
    · have h8 := h6.1 c7
      refine ix_go 2 (x' := (56, [some (.inr (.inr (.inl (some (0))))), some (.inl (a0)), some (.inl (a1)), some (.inl (a2)), some (.inl (a3)), some (.inl (a4)), some (.inl (a5)), none, none], [.inl ((6 : Int32)), .inr (.inr (.inl (some (0))))], 0, 0, ix_mem 276 I6 J6 T6)) rfl trivial ?_
      refine ix_sp rfl ⟨rfl, ⟨ix_lt rfl, ix_eq rfl, ix_lt rfl⟩, ix_le rfl, Nat.le_refl _, Nat.le_refl _, tp_X11_refuse h8 (fun v9 I9 J9 T9 h9 => ?_)⟩
      change ix_W _ _ _ (59, [some (.inr (.inr (.inl (some (0))))), some (.inl (a0)), some (.inl (a1)), some (.inl (a2)), some (.inl (a3)), some (.inl (a4)), some (.inl (a5)), none, none], [.inl (v9)], 0, 0, ix_mem 276 I9 J9 T9)
      refine ix_go 1 (x' := (60, [some (.inr (.inr (.inl (some (0))))), some (.inl (a0)), some (.inl (a1)), some (.inl (a2)), some (.inl (a3)), some (.inl (a4)), some (.inl (a5)), none, none], [.inr (.inl ((v9).toInt64))], 0, 0, ix_mem 276 I9 J9 T9)) rfl trivial ?_
      exact ix_sp rfl ⟨Nat.le_refl _, Nat.le_refl _, rfl, hQ _ _ _ _ h9⟩
    · have h8 := h6.2 c7
      refine ix_go 2 (x' := (65, [some (.inr (.inr (.inl (some (0))))), some (.inl (a0)), some (.inl (a1)), some (.inl (a2)), some (.inl (a3)), some (.inl (a4)), some (.inl (a5)), none, none], [.inr (.inr (.inl (some (97))))], 0, 0, ix_mem 276 I6 J6 T6)) rfl ⟨rfl, rfl⟩ ?_
      refine ix_sp rfl ⟨rfl, ⟨ix_lt rfl, ix_eq rfl, ix_lt rfl⟩, ix_le rfl, Nat.le_refl _, Nat.le_refl _, tp_X10_bestPrice h8 (fun v10 I10 J10 T10 h10 => ?_)⟩
      change ix_W _ _ _ (68, [some (.inr (.inr (.inl (some (0))))), some (.inl (a0)), some (.inl (a1)), some (.inl (a2)), some (.inl (a3)), some (.inl (a4)), some (.inl (a5)), none, none], [.inr (.inl (v10))], 0, 0, ix_mem 276 I10 J10 T10)
      refine ix_go 5 (x' := (78, [some (.inr (.inr (.inl (some (0))))), some (.inl (a0)), some (.inl (a1)), some (.inl (a2)), some (.inl (a3)), some (.inl (a4)), some (.inl (a5)), some (.inr (.inl (v10))), none], [.inr (.inr (.inl (some (95)))), .inr (.inr (.inl (some (97))))], 0, 0, ix_mem 276 I10 J10 T10)) rfl ⟨rfl, rfl, rfl, rfl⟩ ?_
      refine ix_sp rfl ⟨rfl, ⟨ix_lt rfl, ix_eq rfl, ix_lt rfl⟩, ix_le rfl, Nat.le_refl _, Nat.le_refl _, tp_X10_findRemailer h10 (fun v11 I11 J11 T11 h11 => ?_)⟩
      change ix_W _ _ _ (81, [some (.inr (.inr (.inl (some (0))))), some (.inl (a0)), some (.inl (a1)), some (.inl (a2)), some (.inl (a3)), some (.inl (a4)), some (.inl (a5)), some (.inr (.inl (v10))), none], [.inl (v11)], 0, 0, ix_mem 276 I11 J11 T11)
      refine ix_go 2 (x' := (if v11 = (-1 : Int32) then 85 else 93, [some (.inr (.inr (.inl (some (0))))), some (.inl (a0)), some (.inl (a1)), some (.inl (a2)), some (.inl (a3)), some (.inl (a4)), some (.inl (a5)), some (.inr (.inl (v10))), none], [], 0, 0, ix_mem 276 I11 J11 T11)) rfl trivial ?_
      refine ix_br (fun c12 => ?_) (fun c12 => ?_)
      · have h13 := h11.1 c12
        refine ix_go 2 (x' := (88, [some (.inr (.inr (.inl (some (0))))), some (.inl (a0)), some (.inl (a1)), some (.inl (a2)), some (.inl (a3)), some (.inl (a4)), some (.inl (a5)), some (.inr (.inl (v10))), none], [.inl ((6 : Int32)), .inr (.inr (.inl (some (0))))], 0, 0, ix_mem 276 I11 J11 T11)) rfl trivial ?_
        refine ix_sp rfl ⟨rfl, ⟨ix_lt rfl, ix_eq rfl, ix_lt rfl⟩, ix_le rfl, Nat.le_refl _, Nat.le_refl _, tp_X11_refuse h13 (fun v14 I14 J14 T14 h14 => ?_)⟩
        change ix_W _ _ _ (91, [some (.inr (.inr (.inl (some (0))))), some (.inl (a0)), some (.inl (a1)), some (.inl (a2)), some (.inl (a3)), some (.inl (a4)), some (.inl (a5)), some (.inr (.inl (v10))), none], [.inl (v14)], 0, 0, ix_mem 276 I14 J14 T14)
        refine ix_go 1 (x' := (92, [some (.inr (.inr (.inl (some (0))))), some (.inl (a0)), some (.inl (a1)), some (.inl (a2)), some (.inl (a3)), some (.inl (a4)), some (.inl (a5)), some (.inr (.inl (v10))), none], [.inr (.inl ((v14).toInt64))], 0, 0, ix_mem 276 I14 J14 T14)) rfl trivial ?_
        exact ix_sp rfl ⟨Nat.le_refl _, Nat.le_refl _, rfl, hQ _ _ _ _ h14⟩
      · have h13 := h11.2 c12
        refine ix_go 6 (x' := (104, [some (.inr (.inr (.inl (some (0))))), some (.inl (a0)), some (.inl (a1)), some (.inl (a2)), some (.inl (a3)), some (.inl (a4)), some (.inl (a5)), some (.inr (.inl (v10))), none], [.inr (.inr (.inl (some (97)))), .inr (.inl (v10))], 0, 0, ix_mem 276 (ix_u2 I11 0 0 ((0 : Int32))) J11 T11)) rfl ⟨rfl, rfl, rfl, rfl⟩ ?_
        refine ix_sp rfl ⟨rfl, ⟨ix_lt rfl, ix_eq rfl, ix_lt rfl⟩, ix_le rfl, Nat.le_refl _, Nat.le_refl _, tp_X10_remailPrice h13 (fun v15 I15 J15 T15 h15 => ?_)⟩
        change ix_W _ _ _ (107, [some (.inr (.inr (.inl (some (0))))), some (.inl (a0)), some (.inl (a1)), some (.inl (a2)), some (.inl (a3)), some (.inl (a4)), some (.inl (a5)), some (.inr (.inl (v10))), none], [.inr (.inl (v15)), .inr (.inl (v10))], 0, 0, ix_mem 276 I15 J15 T15)
        refine ix_go 1 (x' := (108, [some (.inr (.inr (.inl (some (0))))), some (.inl (a0)), some (.inl (a1)), some (.inl (a2)), some (.inl (a3)), some (.inl (a4)), some (.inl (a5)), some (.inr (.inl (v10))), none], [.inr (.inl ((v10) - (v15)))], 0, 0, ix_mem 276 I15 J15 T15)) rfl trivial ?_
        exact ix_sp rfl ⟨Nat.le_refl _, Nat.le_refl _, rfl, hQ _ _ _ _ h15⟩
def wp_X11_rate (a0 : Int32) (a1 : Int32) (a2 : Int32) (I : Nat → Nat → Int32) (J : Nat → Nat → Int64) (T : Option Nat) (P : Int32 → (Nat → Nat → Int32) → (Nat → Nat → Int64) → Option Nat → Prop) : Prop := wp_X11_isPair (a0) (a1) I J T (fun v1 I1 J1 T1 => ((v1 = 0 → wp_X11_refused ((1 : Int32)) I1 J1 T1 (fun v4 I4 J4 T4 => ix_01 (v4) = true ∧ P (v4) I4 J4 T4)) ∧ (¬ (v1 = 0) → wp_X11_outside ((a2).toInt64) ((0 : Int64)) ((1000000000 : Int64)) I1 J1 T1 (fun v5 I5 J5 T5 => ((v5 = 0 → wp_X5_setRate (a0) (a1) (a2) I5 J5 T5 (fun I8 J8 T8 => wp_X11_accepted I8 J8 T8 (fun v9 I9 J9 T9 => ix_01 (v9) = true ∧ P (v9) I9 J9 T9))) ∧ (¬ (v5 = 0) → wp_X11_refused ((1 : Int32)) I5 J5 T5 (fun v10 I10 J10 T10 => ix_01 (v10) = true ∧ P (v10) I10 J10 T10)))))))
set_option maxRecDepth 20000 in
theorem tp_X11_rate {d : Nat} {a0 : Int32} {a1 : Int32} {a2 : Int32} {I : Nat → Nat → Int32} {J : Nat → Nat → Int64} {T : Option Nat} {P : Int32 → (Nat → Nat → Int32) → (Nat → Nat → Int64) → Option Nat → Prop} {Q : ix_Q} (h : wp_X11_rate a0 a1 a2 I J T P) (hQ : ∀ v I J T, P v I J T → Q (some (.inl v)) (ix_mem 276 I J T)) : ix_C (d + 4) 195 [.inr (.inr (.inl (some (0)))), .inl (a0), .inl (a1), .inl (a2)] (ix_mem 276 I J T) Q := by
  unfold wp_X11_rate at h
  refine ix_enter (ls := [some (.inr (.inr (.inl (some (0))))), some (.inl (a0)), some (.inl (a1)), some (.inl (a2))]) rfl rfl rfl (Nat.le_of_ble_eq_true rfl) ?_
  refine ix_go 3 (x' := (3, [some (.inr (.inr (.inl (some (0))))), some (.inl (a0)), some (.inl (a1)), some (.inl (a2))], [.inl (a1), .inl (a0), .inr (.inr (.inl (some (0))))], 0, 0, ix_mem 276 I J T)) rfl trivial ?_
  refine ix_sp rfl ⟨rfl, ⟨ix_lt rfl, ix_eq rfl, ix_lt rfl⟩, ix_le rfl, Nat.le_refl _, Nat.le_refl _, tp_X11_isPair h (fun v1 I1 J1 T1 h1 => ?_)⟩
  change ix_W _ _ _ (6, [some (.inr (.inr (.inl (some (0))))), some (.inl (a0)), some (.inl (a1)), some (.inl (a2))], [.inl (v1)], 0, 0, ix_mem 276 I1 J1 T1)
  refine ix_go 1 (x' := (if v1 = 0 then 21 else 9, [some (.inr (.inr (.inl (some (0))))), some (.inl (a0)), some (.inl (a1)), some (.inl (a2))], [], 0, 0, ix_mem 276 I1 J1 T1)) rfl trivial ?_
  refine ix_br (fun c2 => ?_) (fun c2 => ?_)
  · have h3 := h1.1 c2
    refine ix_go 2 (x' := (23, [some (.inr (.inr (.inl (some (0))))), some (.inl (a0)), some (.inl (a1)), some (.inl (a2))], [.inl ((1 : Int32)), .inr (.inr (.inl (some (0))))], 0, 0, ix_mem 276 I1 J1 T1)) rfl trivial ?_
    refine ix_sp rfl ⟨rfl, ⟨ix_lt rfl, ix_eq rfl, ix_lt rfl⟩, ix_le rfl, Nat.le_refl _, Nat.le_refl _, tp_X11_refused h3 (fun v4 I4 J4 T4 h4 => ?_)⟩
    change ix_W _ _ _ (26, [some (.inr (.inr (.inl (some (0))))), some (.inl (a0)), some (.inl (a1)), some (.inl (a2))], [.inl (v4)], 0, 0, ix_mem 276 I4 J4 T4)
    exact ix_sp rfl ⟨Nat.le_refl _, Nat.le_refl _, ix_01_ok h4.1, hQ _ _ _ _ h4.2⟩
  · have h3 := h1.2 c2
    refine ix_go 4 (x' := (15, [some (.inr (.inr (.inl (some (0))))), some (.inl (a0)), some (.inl (a1)), some (.inl (a2))], [.inr (.inl ((1000000000 : Int64))), .inr (.inl ((0 : Int64))), .inr (.inl ((a2).toInt64))], 0, 0, ix_mem 276 I1 J1 T1)) rfl trivial ?_
    refine ix_sp rfl ⟨rfl, trivial, ix_le rfl, Nat.le_refl _, Nat.le_refl _, tp_X11_outside h3 (fun v5 I5 J5 T5 h5 => ?_)⟩
    change ix_W _ _ _ (18, [some (.inr (.inr (.inl (some (0))))), some (.inl (a0)), some (.inl (a1)), some (.inl (a2))], [.inl (v5)], 0, 0, ix_mem 276 I5 J5 T5)
    refine ix_go 1 (x' := (if v5 = 0 then 27 else 21, [some (.inr (.inr (.inl (some (0))))), some (.inl (a0)), some (.inl (a1)), some (.inl (a2))], [], 0, 0, ix_mem 276 I5 J5 T5)) rfl trivial ?_
    refine ix_br (fun c6 => ?_) (fun c6 => ?_)
    · have h7 := h5.1 c6
      refine ix_go 5 (x' := (34, [some (.inr (.inr (.inl (some (0))))), some (.inl (a0)), some (.inl (a1)), some (.inl (a2))], [.inl (a2), .inl (a1), .inl (a0), .inr (.inr (.inl (some (8))))], 0, 0, ix_mem 276 I5 J5 T5)) rfl ⟨rfl, rfl⟩ ?_
      refine ix_sp rfl ⟨rfl, ⟨ix_lt rfl, ix_eq rfl, ix_lt rfl⟩, ix_le rfl, Nat.le_refl _, Nat.le_refl _, tp_X5_setRate h7 (fun I8 J8 T8 h8 => ?_)⟩
      change ix_W _ _ _ (37, [some (.inr (.inr (.inl (some (0))))), some (.inl (a0)), some (.inl (a1)), some (.inl (a2))], [], 0, 0, ix_mem 276 I8 J8 T8)
      refine ix_go 1 (x' := (38, [some (.inr (.inr (.inl (some (0))))), some (.inl (a0)), some (.inl (a1)), some (.inl (a2))], [.inr (.inr (.inl (some (0))))], 0, 0, ix_mem 276 I8 J8 T8)) rfl trivial ?_
      refine ix_sp rfl ⟨rfl, ⟨ix_lt rfl, ix_eq rfl, ix_lt rfl⟩, ix_le rfl, Nat.le_refl _, Nat.le_refl _, tp_X11_accepted h8 (fun v9 I9 J9 T9 h9 => ?_)⟩
      change ix_W _ _ _ (41, [some (.inr (.inr (.inl (some (0))))), some (.inl (a0)), some (.inl (a1)), some (.inl (a2))], [.inl (v9)], 0, 0, ix_mem 276 I9 J9 T9)
      exact ix_sp rfl ⟨Nat.le_refl _, Nat.le_refl _, ix_01_ok h9.1, hQ _ _ _ _ h9.2⟩
    · have h7 := h5.2 c6
      refine ix_go 2 (x' := (23, [some (.inr (.inr (.inl (some (0))))), some (.inl (a0)), some (.inl (a1)), some (.inl (a2))], [.inl ((1 : Int32)), .inr (.inr (.inl (some (0))))], 0, 0, ix_mem 276 I5 J5 T5)) rfl trivial ?_
      refine ix_sp rfl ⟨rfl, ⟨ix_lt rfl, ix_eq rfl, ix_lt rfl⟩, ix_le rfl, Nat.le_refl _, Nat.le_refl _, tp_X11_refused h7 (fun v10 I10 J10 T10 h10 => ?_)⟩
      change ix_W _ _ _ (26, [some (.inr (.inr (.inl (some (0))))), some (.inl (a0)), some (.inl (a1)), some (.inl (a2))], [.inl (v10)], 0, 0, ix_mem 276 I10 J10 T10)
      exact ix_sp rfl ⟨Nat.le_refl _, Nat.le_refl _, ix_01_ok h10.1, hQ _ _ _ _ h10.2⟩
def wp_X11_even (a0 : Int32) (a1 : Int32) (I : Nat → Nat → Int32) (J : Nat → Nat → Int64) (T : Option Nat) (P : Int32 → (Nat → Nat → Int32) → (Nat → Nat → Int64) → Option Nat → Prop) : Prop := wp_X11_isPair (a0) (a1) I J T (fun v1 I1 J1 T1 => ((v1 = 0 → wp_X11_refuse ((1 : Int32)) I1 J1 T1 (fun v4 I4 J4 T4 => P (v4) I4 J4 T4)) ∧ (¬ (v1 = 0) → wp_X5_evenRate (a0) (a1) (ix_u2 I1 0 0 ((0 : Int32))) J1 T1 (fun v5 I5 J5 T5 => P (v5) I5 J5 T5))))
set_option maxRecDepth 20000 in
theorem tp_X11_even {d : Nat} {a0 : Int32} {a1 : Int32} {I : Nat → Nat → Int32} {J : Nat → Nat → Int64} {T : Option Nat} {P : Int32 → (Nat → Nat → Int32) → (Nat → Nat → Int64) → Option Nat → Prop} {Q : ix_Q} (h : wp_X11_even a0 a1 I J T P) (hQ : ∀ v I J T, P v I J T → Q (some (.inl v)) (ix_mem 276 I J T)) : ix_C (d + 4) 196 [.inr (.inr (.inl (some (0)))), .inl (a0), .inl (a1)] (ix_mem 276 I J T) Q := by
  unfold wp_X11_even at h
  refine ix_enter (ls := [some (.inr (.inr (.inl (some (0))))), some (.inl (a0)), some (.inl (a1))]) rfl rfl rfl (Nat.le_of_ble_eq_true rfl) ?_
  refine ix_go 3 (x' := (3, [some (.inr (.inr (.inl (some (0))))), some (.inl (a0)), some (.inl (a1))], [.inl (a1), .inl (a0), .inr (.inr (.inl (some (0))))], 0, 0, ix_mem 276 I J T)) rfl trivial ?_
  refine ix_sp rfl ⟨rfl, ⟨ix_lt rfl, ix_eq rfl, ix_lt rfl⟩, ix_le rfl, Nat.le_refl _, Nat.le_refl _, tp_X11_isPair h (fun v1 I1 J1 T1 h1 => ?_)⟩
  change ix_W _ _ _ (6, [some (.inr (.inr (.inl (some (0))))), some (.inl (a0)), some (.inl (a1))], [.inl (v1)], 0, 0, ix_mem 276 I1 J1 T1)
  refine ix_go 1 (x' := (if v1 = 0 then 9 else 15, [some (.inr (.inr (.inl (some (0))))), some (.inl (a0)), some (.inl (a1))], [], 0, 0, ix_mem 276 I1 J1 T1)) rfl trivial ?_
  refine ix_br (fun c2 => ?_) (fun c2 => ?_)
  · have h3 := h1.1 c2
    refine ix_go 2 (x' := (11, [some (.inr (.inr (.inl (some (0))))), some (.inl (a0)), some (.inl (a1))], [.inl ((1 : Int32)), .inr (.inr (.inl (some (0))))], 0, 0, ix_mem 276 I1 J1 T1)) rfl trivial ?_
    refine ix_sp rfl ⟨rfl, ⟨ix_lt rfl, ix_eq rfl, ix_lt rfl⟩, ix_le rfl, Nat.le_refl _, Nat.le_refl _, tp_X11_refuse h3 (fun v4 I4 J4 T4 h4 => ?_)⟩
    change ix_W _ _ _ (14, [some (.inr (.inr (.inl (some (0))))), some (.inl (a0)), some (.inl (a1))], [.inl (v4)], 0, 0, ix_mem 276 I4 J4 T4)
    exact ix_sp rfl ⟨Nat.le_refl _, Nat.le_refl _, trivial, hQ _ _ _ _ h4⟩
  · have h3 := h1.2 c2
    refine ix_go 7 (x' := (26, [some (.inr (.inr (.inl (some (0))))), some (.inl (a0)), some (.inl (a1))], [.inl (a1), .inl (a0), .inr (.inr (.inl (some (8))))], 0, 0, ix_mem 276 (ix_u2 I1 0 0 ((0 : Int32))) J1 T1)) rfl ⟨rfl, rfl, rfl, rfl⟩ ?_
    refine ix_sp rfl ⟨rfl, ⟨ix_lt rfl, ix_eq rfl, ix_lt rfl⟩, ix_le rfl, Nat.le_refl _, Nat.le_refl _, tp_X5_evenRate h3 (fun v5 I5 J5 T5 h5 => ?_)⟩
    change ix_W _ _ _ (29, [some (.inr (.inr (.inl (some (0))))), some (.inl (a0)), some (.inl (a1))], [.inl (v5)], 0, 0, ix_mem 276 I5 J5 T5)
    exact ix_sp rfl ⟨Nat.le_refl _, Nat.le_refl _, trivial, hQ _ _ _ _ h5⟩
def wp_X11_uneven (I : Nat → Nat → Int32) (J : Nat → Nat → Int64) (T : Option Nat) (P : Int32 → (Nat → Nat → Int32) → (Nat → Nat → Int64) → Option Nat → Prop) : Prop := wp_X5_countUneven (ix_u2 I 0 0 ((0 : Int32))) J T (fun v1 I1 J1 T1 => P (v1) I1 J1 T1)
set_option maxRecDepth 20000 in
theorem tp_X11_uneven {d : Nat} {I : Nat → Nat → Int32} {J : Nat → Nat → Int64} {T : Option Nat} {P : Int32 → (Nat → Nat → Int32) → (Nat → Nat → Int64) → Option Nat → Prop} {Q : ix_Q} (h : wp_X11_uneven I J T P) (hQ : ∀ v I J T, P v I J T → Q (some (.inl v)) (ix_mem 276 I J T)) : ix_C (d + 4) 197 [.inr (.inr (.inl (some (0))))] (ix_mem 276 I J T) Q := by
  unfold wp_X11_uneven at h
  refine ix_enter (ls := [some (.inr (.inr (.inl (some (0)))))]) rfl rfl rfl (Nat.le_of_ble_eq_true rfl) ?_
  refine ix_go 5 (x' := (9, [some (.inr (.inr (.inl (some (0)))))], [.inr (.inr (.inl (some (8))))], 0, 0, ix_mem 276 (ix_u2 I 0 0 ((0 : Int32))) J T)) rfl ⟨rfl, rfl, rfl, rfl⟩ ?_
  refine ix_sp rfl ⟨rfl, ⟨ix_lt rfl, ix_eq rfl, ix_lt rfl⟩, ix_le rfl, Nat.le_refl _, Nat.le_refl _, tp_X5_countUneven h (fun v1 I1 J1 T1 h1 => ?_)⟩
  change ix_W _ _ _ (12, [some (.inr (.inr (.inl (some (0)))))], [.inl (v1)], 0, 0, ix_mem 276 I1 J1 T1)
  exact ix_sp rfl ⟨Nat.le_refl _, Nat.le_refl _, trivial, hQ _ _ _ _ h1⟩
def wb_X11_hasOnly_3 (x1 : Int32) (x2 : Int32) (x3 : Int32) (x4 : Int32) (I : Nat → Nat → Int32) (J : Nat → Nat → Int64) (T : Option Nat) (V3 : Int32 → Int32 → Int32 → Int32 → (Nat → Nat → Int32) → (Nat → Nat → Int64) → Option Nat → Prop) (P : Int32 → (Nat → Nat → Int32) → (Nat → Nat → Int64) → Option Nat → Prop) : Prop := ((x4 < x2 → ix_inb (x1) 4 = true ∧ ix_inb (x4) 60 = true ∧ wp_X11_outside (J (ix_row 1 (x1)) (x4).toNatClampNeg) ((0 : Int64)) ((x3).toInt64) I J T (fun v7 I7 J7 T7 => ((v7 = 0 → V3 (x1) (x2) (x3) (x4 + (1 : Int32)) I7 J7 T7) ∧ (¬ (v7 = 0) → P ((0 : Int32)) I7 J7 T7)))) ∧ (¬ (x4 < x2) → P ((1 : Int32)) I J T))
def wl_X11_hasOnly_3 (x1 : Int32) (x2 : Int32) (x3 : Int32) (x4 : Int32) (I : Nat → Nat → Int32) (J : Nat → Nat → Int64) (T : Option Nat) (P : Int32 → (Nat → Nat → Int32) → (Nat → Nat → Int64) → Option Nat → Prop) : Prop := ∀ V : Int32 → Int32 → Int32 → Int32 → (Nat → Nat → Int32) → (Nat → Nat → Int64) → Option Nat → Prop, (∀ (x1 : Int32) (x2 : Int32) (x3 : Int32) (x4 : Int32) (I : Nat → Nat → Int32) (J : Nat → Nat → Int64) (T : Option Nat), wb_X11_hasOnly_3 x1 x2 x3 x4 I J T V P → V x1 x2 x3 x4 I J T) → V x1 x2 x3 x4 I J T
set_option maxRecDepth 20000 in
theorem tl_X11_hasOnly_3 {d : Nat} {x1 : Int32} {x2 : Int32} {x3 : Int32} {x4 : Int32} {I : Nat → Nat → Int32} {J : Nat → Nat → Int64} {T : Option Nat} {P : Int32 → (Nat → Nat → Int32) → (Nat → Nat → Int64) → Option Nat → Prop} {Q : ix_Q} (h : wl_X11_hasOnly_3 x1 x2 x3 x4 I J T P) (hQ : ∀ v I J T, P v I J T → Q (some (.inl v)) (ix_mem 276 I J T)) : ix_W (ix_C (d + 1)) (11, ix_lk ix_l198, (some .boolean), 0, 0, Nat.blt 0 0, none) Q (3, [some (.inr (.inr (.inl (some (0))))), some (.inl (x1)), some (.inl (x2)), some (.inl (x3)), some (.inl (x4))], [], 0, 0, ix_mem 276 I J T) := by
  refine h (fun x1 x2 x3 x4 I J T => ix_W (ix_C (d + 1)) (11, ix_lk ix_l198, (some .boolean), 0, 0, Nat.blt 0 0, none) Q (3, [some (.inr (.inr (.inl (some (0))))), some (.inl (x1)), some (.inl (x2)), some (.inl (x3)), some (.inl (x4))], [], 0, 0, ix_mem 276 I J T)) ?_
  intro x1 x2 x3 x4 I J T hb
  unfold wb_X11_hasOnly_3 at hb
  refine ix_go 3 (x' := (if x4 < x2 then 9 else 35, [some (.inr (.inr (.inl (some (0))))), some (.inl (x1)), some (.inl (x2)), some (.inl (x3)), some (.inl (x4))], [], 0, 0, ix_mem 276 I J T)) rfl trivial ?_
  refine ix_br (fun c1 => ?_) (fun c1 => ?_)
  · have h2 := hb.1 c1
    obtain ⟨p3, h4⟩ := h2
    obtain ⟨p5, h6⟩ := h4
    refine ix_go 7 (x' := (19, [some (.inr (.inr (.inl (some (0))))), some (.inl (x1)), some (.inl (x2)), some (.inl (x3)), some (.inl (x4))], [.inr (.inl ((0 : Int64))), .inr (.inl (J (ix_row 1 (x1)) (x4).toNatClampNeg))], 0, 0, ix_mem 276 I J T)) rfl ⟨rfl, rfl, rfl, rfl, rfl, p3, (rw_1 p3).1, (rw_1 p3).2.1, (rw_1 p3).2.2.1, (ix_inbL (rw_1 p3).2.2.2.1 p5)⟩ ?_
    refine ix_go 2 (x' := (21, [some (.inr (.inr (.inl (some (0))))), some (.inl (x1)), some (.inl (x2)), some (.inl (x3)), some (.inl (x4))], [.inr (.inl ((x3).toInt64)), .inr (.inl ((0 : Int64))), .inr (.inl (J (ix_row 1 (x1)) (x4).toNatClampNeg))], 0, 0, ix_mem 276 I J T)) rfl trivial ?_
    refine ix_sp rfl ⟨rfl, trivial, ix_le rfl, Nat.le_refl _, Nat.le_refl _, tp_X11_outside h6 (fun v7 I7 J7 T7 h7 => ?_)⟩
    change ix_W _ _ _ (24, [some (.inr (.inr (.inl (some (0))))), some (.inl (x1)), some (.inl (x2)), some (.inl (x3)), some (.inl (x4))], [.inl (v7)], 0, 0, ix_mem 276 I7 J7 T7)
    refine ix_go 1 (x' := (if v7 = 0 then 29 else 27, [some (.inr (.inr (.inl (some (0))))), some (.inl (x1)), some (.inl (x2)), some (.inl (x3)), some (.inl (x4))], [], 0, 0, ix_mem 276 I7 J7 T7)) rfl trivial ?_
    refine ix_br (fun c8 => ?_) (fun c8 => ?_)
    · have h9 := h7.1 c8
      refine ix_go 2 (x' := (3, [some (.inr (.inr (.inl (some (0))))), some (.inl (x1)), some (.inl (x2)), some (.inl (x3)), some (.inl (x4 + (1 : Int32)))], [], 0, 0, ix_mem 276 I7 J7 T7)) rfl trivial ?_
      refine ix_subW ([some (.inr (.inr (.inl (some (0))))), some (.inl (x1)), some (.inl (x2)), some (.inl (x3)), some (.inl (x4 + (1 : Int32)))]) (ix_subS (ix_subS (ix_subS (ix_subS (ix_subS (ix_sub0)))))) ?_
      exact h9
    · have h9 := h7.2 c8
      refine ix_go 1 (x' := (28, [some (.inr (.inr (.inl (some (0))))), some (.inl (x1)), some (.inl (x2)), some (.inl (x3)), some (.inl (x4))], [.inl ((0 : Int32))], 0, 0, ix_mem 276 I7 J7 T7)) rfl trivial ?_
      exact ix_sp rfl ⟨Nat.le_refl _, Nat.le_refl _, ix_01_ok rfl, hQ _ _ _ _ h9⟩
  · have h2 := hb.2 c1
    refine ix_go 1 (x' := (36, [some (.inr (.inr (.inl (some (0))))), some (.inl (x1)), some (.inl (x2)), some (.inl (x3)), some (.inl (x4))], [.inl ((1 : Int32))], 0, 0, ix_mem 276 I J T)) rfl trivial ?_
    exact ix_sp rfl ⟨Nat.le_refl _, Nat.le_refl _, ix_01_ok rfl, hQ _ _ _ _ h2⟩
def wp_X11_hasOnly (a0 : Int32) (a1 : Int32) (a2 : Int32) (I : Nat → Nat → Int32) (J : Nat → Nat → Int64) (T : Option Nat) (P : Int32 → (Nat → Nat → Int32) → (Nat → Nat → Int64) → Option Nat → Prop) : Prop := wl_X11_hasOnly_3 (a0) (a1) (a2) ((0 : Int32)) I J T P
set_option maxRecDepth 20000 in
theorem tp_X11_hasOnly {d : Nat} {a0 : Int32} {a1 : Int32} {a2 : Int32} {I : Nat → Nat → Int32} {J : Nat → Nat → Int64} {T : Option Nat} {P : Int32 → (Nat → Nat → Int32) → (Nat → Nat → Int64) → Option Nat → Prop} {Q : ix_Q} (h : wp_X11_hasOnly a0 a1 a2 I J T P) (hQ : ∀ v I J T, P v I J T → Q (some (.inl v)) (ix_mem 276 I J T)) : ix_C (d + 2) 198 [.inr (.inr (.inl (some (0)))), .inl (a0), .inl (a1), .inl (a2)] (ix_mem 276 I J T) Q := by
  unfold wp_X11_hasOnly at h
  refine ix_enter (ls := [some (.inr (.inr (.inl (some (0))))), some (.inl (a0)), some (.inl (a1)), some (.inl (a2)), none]) rfl rfl rfl (Nat.le_of_ble_eq_true rfl) ?_
  refine ix_go 2 (x' := (3, [some (.inr (.inr (.inl (some (0))))), some (.inl (a0)), some (.inl (a1)), some (.inl (a2)), some (.inl ((0 : Int32)))], [], 0, 0, ix_mem 276 I J T)) rfl trivial ?_
  refine ix_subW ([some (.inr (.inr (.inl (some (0))))), some (.inl (a0)), some (.inl (a1)), some (.inl (a2)), some (.inl ((0 : Int32)))]) (ix_subS (ix_subS (ix_subS (ix_subS (ix_subS (ix_sub0)))))) ?_
  exact tl_X11_hasOnly_3 h hQ
def wb_X4_add_r2_47_c2 (x6 : Int32) (x7 : Int32) (I : Nat → Nat → Int32) (J : Nat → Nat → Int64) (T : Option Nat) (V47 : Int32 → Int32 → (Nat → Nat → Int32) → (Nat → Nat → Int64) → Option Nat → Prop) (P : Int32 → (Nat → Nat → Int32) → (Nat → Nat → Int64) → Option Nat → Prop) : Prop := ((x7 < (52 : Int32) → ((x7 < (60 : Int32) → ix_inb (I 106 0) 8 = true ∧ ix_inb (x7) 60 = true ∧ ix_inb (x7) 52 = true ∧ ix_inb (I 106 0) 8 = true ∧ ix_inb (x7) 52 = true ∧ V47 ((x6) + ((J 2 (x7).toNatClampNeg).toInt32)) (x7 + (1 : Int32)) (ix_u2 I (ix_row 112 (I 106 0)) (x7).toNatClampNeg ((J 2 (x7).toNatClampNeg).toInt32)) J T) ∧ (¬ (x7 < (60 : Int32)) → ix_inb (I 106 0) 8 = true ∧ P ((((I 106 0) + ((1 : Int32)))) - ((1 : Int32))) (ix_u2 (ix_u2 I 111 (I 106 0).toNatClampNeg (x6)) 106 0 ((I 106 0) + ((1 : Int32)))) J T))) ∧ (¬ (x7 < (52 : Int32)) → ix_inb (I 106 0) 8 = true ∧ P ((((I 106 0) + ((1 : Int32)))) - ((1 : Int32))) (ix_u2 (ix_u2 I 111 (I 106 0).toNatClampNeg (x6)) 106 0 ((I 106 0) + ((1 : Int32)))) J T))
def wl_X4_add_r2_47_c2 (x6 : Int32) (x7 : Int32) (I : Nat → Nat → Int32) (J : Nat → Nat → Int64) (T : Option Nat) (P : Int32 → (Nat → Nat → Int32) → (Nat → Nat → Int64) → Option Nat → Prop) : Prop := ∀ V : Int32 → Int32 → (Nat → Nat → Int32) → (Nat → Nat → Int64) → Option Nat → Prop, (∀ (x6 : Int32) (x7 : Int32) (I : Nat → Nat → Int32) (J : Nat → Nat → Int64) (T : Option Nat), wb_X4_add_r2_47_c2 x6 x7 I J T V P → V x6 x7 I J T) → V x6 x7 I J T
set_option maxRecDepth 20000 in
theorem tl_X4_add_r2_47_c2 {d : Nat} {x6 : Int32} {x7 : Int32} {I : Nat → Nat → Int32} {J : Nat → Nat → Int64} {T : Option Nat} {P : Int32 → (Nat → Nat → Int32) → (Nat → Nat → Int64) → Option Nat → Prop} {Q : ix_Q} (h : wl_X4_add_r2_47_c2 x6 x7 I J T P) (hQ : ∀ v I J T, P v I J T → Q (some (.inl v)) (ix_mem 276 I J T)) : ix_W (ix_C d) (4, ix_lk ix_l53, (some .int), 0, 0, Nat.blt 0 0, none) Q (47, [some (.inr (.inr (.inl (some (106))))), none, none, none, none, some (.inr (.inr (.inl (some (2))))), some (.inl (x6)), some (.inl (x7))], [], 0, 0, ix_mem 276 I J T) := by
  refine h (fun x6 x7 I J T => ix_W (ix_C d) (4, ix_lk ix_l53, (some .int), 0, 0, Nat.blt 0 0, none) Q (47, [some (.inr (.inr (.inl (some (106))))), none, none, none, none, some (.inr (.inr (.inl (some (2))))), some (.inl (x6)), some (.inl (x7))], [], 0, 0, ix_mem 276 I J T)) ?_
  intro x6 x7 I J T hb
  unfold wb_X4_add_r2_47_c2 at hb
  refine ix_go 3 (x' := (if x7 < (52 : Int32) then 54 else 103, [some (.inr (.inr (.inl (some (106))))), none, none, none, none, some (.inr (.inr (.inl (some (2))))), some (.inl (x6)), some (.inl (x7))], [], 0, 0, ix_mem 276 I J T)) rfl trivial ?_
  refine ix_br (fun c9 => ?_) (fun c9 => ?_)
  · have h10 := hb.1 c9
    refine ix_go 4 (x' := (if x7 < (60 : Int32) then 62 else 103, [some (.inr (.inr (.inl (some (106))))), none, none, none, none, some (.inr (.inr (.inl (some (2))))), some (.inl (x6)), some (.inl (x7))], [], 0, 0, ix_mem 276 I J T)) rfl ⟨rfl, rfl, rfl⟩ ?_
    refine ix_br (fun c11 => ?_) (fun c11 => ?_)
    · have h12 := h10.1 c11
      obtain ⟨p13, h14⟩ := h12
      refine ix_go 7 (x' := (75, [some (.inr (.inr (.inl (some (106))))), none, none, none, none, some (.inr (.inr (.inl (some (2))))), some (.inl (x6)), some (.inl (x7))], [.inr (.inr (.inl (some (2)))), .inl (x7), .inr (.inr (.inl (some (ix_row 112 (I 106 0)))))], 0, 0, ix_mem 276 I J T)) rfl ⟨rfl, rfl, rfl, rfl, rfl, rfl, rfl, p13, (rw_112 p13).1⟩ ?_
      obtain ⟨p15, h16⟩ := h14
      obtain ⟨p17, h18⟩ := h16
      refine ix_go 7 (x' := (86, [some (.inr (.inr (.inl (some (106))))), none, none, none, none, some (.inr (.inr (.inl (some (2))))), some (.inl (x6)), some (.inl (x7))], [.inr (.inr (.inl (some (112)))), .inl (x6)], 0, 0, ix_mem 276 (ix_u2 I (ix_row 112 (I 106 0)) (x7).toNatClampNeg ((J 2 (x7).toNatClampNeg).toInt32)) J T)) rfl ⟨rfl, rfl, p15, (rw_112 p13).2.1, (rw_112 p13).2.2.1, (ix_inbL (rw_112 p13).2.2.2.1 p17), rfl, rfl⟩ ?_
      refine ix_go 2 (x' := (90, [some (.inr (.inr (.inl (some (106))))), none, none, none, none, some (.inr (.inr (.inl (some (2))))), some (.inl (x6)), some (.inl (x7))], [.inl ((ix_u2 I (ix_row 112 (I 106 0)) (x7).toNatClampNeg ((J 2 (x7).toNatClampNeg).toInt32)) 106 0), .inr (.inr (.inl (some (112)))), .inl (x6)], 0, 0, ix_mem 276 (ix_u2 I (ix_row 112 (I 106 0)) (x7).toNatClampNeg ((J 2 (x7).toNatClampNeg).toInt32)) J T)) rfl ⟨rfl, rfl⟩ ?_
      rw [show (ix_u2 I (ix_row 112 (I 106 0)) (x7).toNatClampNeg ((J 2 (x7).toNatClampNeg).toInt32)) 106 0 = I 106 0 from by rw [ro_112 p13 rfl]]
      obtain ⟨p19, h20⟩ := h18
      obtain ⟨p21, h22⟩ := h20
      refine ix_go 3 (x' := (94, [some (.inr (.inr (.inl (some (106))))), none, none, none, none, some (.inr (.inr (.inl (some (2))))), some (.inl (x6)), some (.inl (x7))], [.inl ((ix_u2 I (ix_row 112 (I 106 0)) (x7).toNatClampNeg ((J 2 (x7).toNatClampNeg).toInt32)) (ix_row 112 (I 106 0)) (x7).toNatClampNeg), .inl (x6)], 0, 0, ix_mem 276 (ix_u2 I (ix_row 112 (I 106 0)) (x7).toNatClampNeg ((J 2 (x7).toNatClampNeg).toInt32)) J T)) rfl ⟨rfl, rfl, rfl, p19, (rw_112 p19).1, (rw_112 p19).2.1, (rw_112 p19).2.2.1, (ix_inbL (rw_112 p19).2.2.2.1 p21)⟩ ?_
      rw [show (ix_u2 I (ix_row 112 (I 106 0)) (x7).toNatClampNeg ((J 2 (x7).toNatClampNeg).toInt32)) (ix_row 112 (I 106 0)) (x7).toNatClampNeg = (J 2 (x7).toNatClampNeg).toInt32 from by rw [u2_s]]
      refine ix_go 4 (x' := (47, [some (.inr (.inr (.inl (some (106))))), none, none, none, none, some (.inr (.inr (.inl (some (2))))), some (.inl ((x6) + ((J 2 (x7).toNatClampNeg).toInt32))), some (.inl (x7 + (1 : Int32)))], [], 0, 0, ix_mem 276 (ix_u2 I (ix_row 112 (I 106 0)) (x7).toNatClampNeg ((J 2 (x7).toNatClampNeg).toInt32)) J T)) rfl trivial ?_
      refine ix_subW ([some (.inr (.inr (.inl (some (106))))), none, none, none, none, some (.inr (.inr (.inl (some (2))))), some (.inl ((x6) + ((J 2 (x7).toNatClampNeg).toInt32))), some (.inl (x7 + (1 : Int32)))]) (ix_subS (ix_subS (ix_subS (ix_subS (ix_subS (ix_subS (ix_subS (ix_subS (ix_sub0))))))))) ?_
      exact h22
    · have h12 := h10.2 c11
      obtain ⟨p23, h24⟩ := h12
      refine ix_go 7 (x' := (115, [some (.inr (.inr (.inl (some (106))))), none, none, none, none, some (.inr (.inr (.inl (some (2))))), some (.inl (x6)), some (.inl (x7))], [.inr (.inr (.inl (some (106))))], 0, 0, ix_mem 276 (ix_u2 I 111 (I 106 0).toNatClampNeg (x6)) J T)) rfl ⟨rfl, rfl, rfl, rfl, rfl, rfl, p23⟩ ?_
      refine ix_go 7 (x' := (128, [some (.inr (.inr (.inl (some (106))))), none, none, none, none, some (.inr (.inr (.inl (some (2))))), some (.inl (x6)), some (.inl (x7))], [.inl (((I 106 0) + ((1 : Int32))))], 0, 0, ix_mem 276 (ix_u2 (ix_u2 I 111 (I 106 0).toNatClampNeg (x6)) 106 0 ((I 106 0) + ((1 : Int32)))) J T)) rfl ⟨rfl, rfl, rfl, rfl, rfl, rfl⟩ ?_
      refine ix_go 2 (x' := (130, [some (.inr (.inr (.inl (some (106))))), none, none, none, none, some (.inr (.inr (.inl (some (2))))), some (.inl (x6)), some (.inl (x7))], [.inl ((((I 106 0) + ((1 : Int32)))) - ((1 : Int32)))], 0, 0, ix_mem 276 (ix_u2 (ix_u2 I 111 (I 106 0).toNatClampNeg (x6)) 106 0 ((I 106 0) + ((1 : Int32)))) J T)) rfl trivial ?_
      exact ix_sp rfl ⟨Nat.le_refl _, Nat.le_refl _, trivial, hQ _ _ _ _ h24⟩
  · have h10 := hb.2 c9
    obtain ⟨p25, h26⟩ := h10
    refine ix_go 7 (x' := (115, [some (.inr (.inr (.inl (some (106))))), none, none, none, none, some (.inr (.inr (.inl (some (2))))), some (.inl (x6)), some (.inl (x7))], [.inr (.inr (.inl (some (106))))], 0, 0, ix_mem 276 (ix_u2 I 111 (I 106 0).toNatClampNeg (x6)) J T)) rfl ⟨rfl, rfl, rfl, rfl, rfl, rfl, p25⟩ ?_
    refine ix_go 7 (x' := (128, [some (.inr (.inr (.inl (some (106))))), none, none, none, none, some (.inr (.inr (.inl (some (2))))), some (.inl (x6)), some (.inl (x7))], [.inl (((I 106 0) + ((1 : Int32))))], 0, 0, ix_mem 276 (ix_u2 (ix_u2 I 111 (I 106 0).toNatClampNeg (x6)) 106 0 ((I 106 0) + ((1 : Int32)))) J T)) rfl ⟨rfl, rfl, rfl, rfl, rfl, rfl⟩ ?_
    refine ix_go 2 (x' := (130, [some (.inr (.inr (.inl (some (106))))), none, none, none, none, some (.inr (.inr (.inl (some (2))))), some (.inl (x6)), some (.inl (x7))], [.inl ((((I 106 0) + ((1 : Int32)))) - ((1 : Int32)))], 0, 0, ix_mem 276 (ix_u2 (ix_u2 I 111 (I 106 0).toNatClampNeg (x6)) 106 0 ((I 106 0) + ((1 : Int32)))) J T)) rfl trivial ?_
    exact ix_sp rfl ⟨Nat.le_refl _, Nat.le_refl _, trivial, hQ _ _ _ _ h26⟩
def wp_X4_add_r2 (a0 : Int32) (a1 : Int32) (a2 : Int32) (a3 : Int32) (I : Nat → Nat → Int32) (J : Nat → Nat → Int64) (T : Option Nat) (P : Int32 → (Nat → Nat → Int32) → (Nat → Nat → Int64) → Option Nat → Prop) : Prop := ix_inb (I 106 0) 8 = true ∧ ix_inb (I 106 0) 8 = true ∧ ix_inb (I 106 0) 8 = true ∧ ix_inb (I 106 0) 8 = true ∧ wl_X4_add_r2_47_c2 ((0 : Int32)) ((0 : Int32)) (ix_u2 (ix_u2 (ix_u2 (ix_u2 I 107 (I 106 0).toNatClampNeg (a0)) 108 (I 106 0).toNatClampNeg (a1)) 109 (I 106 0).toNatClampNeg (a2)) 110 (I 106 0).toNatClampNeg (a3)) J T P
set_option maxRecDepth 20000 in
theorem tp_X4_add_r2 {d : Nat} {a0 : Int32} {a1 : Int32} {a2 : Int32} {a3 : Int32} {I : Nat → Nat → Int32} {J : Nat → Nat → Int64} {T : Option Nat} {P : Int32 → (Nat → Nat → Int32) → (Nat → Nat → Int64) → Option Nat → Prop} {Q : ix_Q} (h : wp_X4_add_r2 a0 a1 a2 a3 I J T P) (hQ : ∀ v I J T, P v I J T → Q (some (.inl v)) (ix_mem 276 I J T)) : ix_C (d + 1) 53 [.inr (.inr (.inl (some (106)))), .inl (a0), .inl (a1), .inl (a2), .inl (a3), .inr (.inr (.inl (some (2))))] (ix_mem 276 I J T) Q := by
  unfold wp_X4_add_r2 at h
  refine ix_enter (ls := [some (.inr (.inr (.inl (some (106))))), some (.inl (a0)), some (.inl (a1)), some (.inl (a2)), some (.inl (a3)), some (.inr (.inr (.inl (some (2))))), none, none]) rfl rfl rfl (Nat.le_of_ble_eq_true rfl) ?_
  obtain ⟨p1, h2⟩ := h
  refine ix_go 7 (x' := (11, [some (.inr (.inr (.inl (some (106))))), some (.inl (a0)), some (.inl (a1)), some (.inl (a2)), some (.inl (a3)), some (.inr (.inr (.inl (some (2))))), none, none], [.inr (.inr (.inl (some (106))))], 0, 0, ix_mem 276 (ix_u2 I 107 (I 106 0).toNatClampNeg (a0)) J T)) rfl ⟨rfl, rfl, rfl, rfl, rfl, rfl, p1⟩ ?_
  obtain ⟨p3, h4⟩ := h2
  refine ix_go 7 (x' := (24, [some (.inr (.inr (.inl (some (106))))), some (.inl (a0)), some (.inl (a1)), some (.inl (a2)), some (.inl (a3)), some (.inr (.inr (.inl (some (2))))), none, none], [.inr (.inr (.inl (some (109))))], 0, 0, ix_mem 276 (ix_u2 (ix_u2 I 107 (I 106 0).toNatClampNeg (a0)) 108 (I 106 0).toNatClampNeg (a1)) J T)) rfl ⟨rfl, rfl, rfl, rfl, rfl, rfl, p3, rfl, rfl⟩ ?_
  obtain ⟨p5, h6⟩ := h4
  refine ix_go 7 (x' := (35, [some (.inr (.inr (.inl (some (106))))), some (.inl (a0)), some (.inl (a1)), some (.inl (a2)), some (.inl (a3)), some (.inr (.inr (.inl (some (2))))), none, none], [.inr (.inr (.inl (some (106)))), .inr (.inr (.inl (some (110))))], 0, 0, ix_mem 276 (ix_u2 (ix_u2 (ix_u2 I 107 (I 106 0).toNatClampNeg (a0)) 108 (I 106 0).toNatClampNeg (a1)) 109 (I 106 0).toNatClampNeg (a2)) J T)) rfl ⟨rfl, rfl, rfl, rfl, p5, rfl, rfl⟩ ?_
  obtain ⟨p7, h8⟩ := h6
  refine ix_go 7 (x' := (47, [some (.inr (.inr (.inl (some (106))))), some (.inl (a0)), some (.inl (a1)), some (.inl (a2)), some (.inl (a3)), some (.inr (.inr (.inl (some (2))))), some (.inl ((0 : Int32))), some (.inl ((0 : Int32)))], [], 0, 0, ix_mem 276 (ix_u2 (ix_u2 (ix_u2 (ix_u2 I 107 (I 106 0).toNatClampNeg (a0)) 108 (I 106 0).toNatClampNeg (a1)) 109 (I 106 0).toNatClampNeg (a2)) 110 (I 106 0).toNatClampNeg (a3)) J T)) rfl ⟨rfl, rfl, rfl, rfl, p7⟩ ?_
  refine ix_subW ([some (.inr (.inr (.inl (some (106))))), none, none, none, none, some (.inr (.inr (.inl (some (2))))), some (.inl ((0 : Int32))), some (.inl ((0 : Int32)))]) (ix_subS (ix_subN (ix_subN (ix_subN (ix_subN (ix_subS (ix_subS (ix_subS (ix_sub0))))))))) ?_
  exact tl_X4_add_r2_47_c2 h8 hQ
def wb_X4_add_r3_47_c3 (x6 : Int32) (x7 : Int32) (I : Nat → Nat → Int32) (J : Nat → Nat → Int64) (T : Option Nat) (V47 : Int32 → Int32 → (Nat → Nat → Int32) → (Nat → Nat → Int64) → Option Nat → Prop) (P : Int32 → (Nat → Nat → Int32) → (Nat → Nat → Int64) → Option Nat → Prop) : Prop := ((x7 < (52 : Int32) → ((x7 < (60 : Int32) → ix_inb (I 106 0) 8 = true ∧ ix_inb (x7) 60 = true ∧ ix_inb (x7) 52 = true ∧ ix_inb (I 106 0) 8 = true ∧ ix_inb (x7) 52 = true ∧ V47 ((x6) + ((J 3 (x7).toNatClampNeg).toInt32)) (x7 + (1 : Int32)) (ix_u2 I (ix_row 112 (I 106 0)) (x7).toNatClampNeg ((J 3 (x7).toNatClampNeg).toInt32)) J T) ∧ (¬ (x7 < (60 : Int32)) → ix_inb (I 106 0) 8 = true ∧ P ((((I 106 0) + ((1 : Int32)))) - ((1 : Int32))) (ix_u2 (ix_u2 I 111 (I 106 0).toNatClampNeg (x6)) 106 0 ((I 106 0) + ((1 : Int32)))) J T))) ∧ (¬ (x7 < (52 : Int32)) → ix_inb (I 106 0) 8 = true ∧ P ((((I 106 0) + ((1 : Int32)))) - ((1 : Int32))) (ix_u2 (ix_u2 I 111 (I 106 0).toNatClampNeg (x6)) 106 0 ((I 106 0) + ((1 : Int32)))) J T))
def wl_X4_add_r3_47_c3 (x6 : Int32) (x7 : Int32) (I : Nat → Nat → Int32) (J : Nat → Nat → Int64) (T : Option Nat) (P : Int32 → (Nat → Nat → Int32) → (Nat → Nat → Int64) → Option Nat → Prop) : Prop := ∀ V : Int32 → Int32 → (Nat → Nat → Int32) → (Nat → Nat → Int64) → Option Nat → Prop, (∀ (x6 : Int32) (x7 : Int32) (I : Nat → Nat → Int32) (J : Nat → Nat → Int64) (T : Option Nat), wb_X4_add_r3_47_c3 x6 x7 I J T V P → V x6 x7 I J T) → V x6 x7 I J T
set_option maxRecDepth 20000 in
theorem tl_X4_add_r3_47_c3 {d : Nat} {x6 : Int32} {x7 : Int32} {I : Nat → Nat → Int32} {J : Nat → Nat → Int64} {T : Option Nat} {P : Int32 → (Nat → Nat → Int32) → (Nat → Nat → Int64) → Option Nat → Prop} {Q : ix_Q} (h : wl_X4_add_r3_47_c3 x6 x7 I J T P) (hQ : ∀ v I J T, P v I J T → Q (some (.inl v)) (ix_mem 276 I J T)) : ix_W (ix_C d) (4, ix_lk ix_l53, (some .int), 0, 0, Nat.blt 0 0, none) Q (47, [some (.inr (.inr (.inl (some (106))))), none, none, none, none, some (.inr (.inr (.inl (some (3))))), some (.inl (x6)), some (.inl (x7))], [], 0, 0, ix_mem 276 I J T) := by
  refine h (fun x6 x7 I J T => ix_W (ix_C d) (4, ix_lk ix_l53, (some .int), 0, 0, Nat.blt 0 0, none) Q (47, [some (.inr (.inr (.inl (some (106))))), none, none, none, none, some (.inr (.inr (.inl (some (3))))), some (.inl (x6)), some (.inl (x7))], [], 0, 0, ix_mem 276 I J T)) ?_
  intro x6 x7 I J T hb
  unfold wb_X4_add_r3_47_c3 at hb
  refine ix_go 3 (x' := (if x7 < (52 : Int32) then 54 else 103, [some (.inr (.inr (.inl (some (106))))), none, none, none, none, some (.inr (.inr (.inl (some (3))))), some (.inl (x6)), some (.inl (x7))], [], 0, 0, ix_mem 276 I J T)) rfl trivial ?_
  refine ix_br (fun c9 => ?_) (fun c9 => ?_)
  · have h10 := hb.1 c9
    refine ix_go 4 (x' := (if x7 < (60 : Int32) then 62 else 103, [some (.inr (.inr (.inl (some (106))))), none, none, none, none, some (.inr (.inr (.inl (some (3))))), some (.inl (x6)), some (.inl (x7))], [], 0, 0, ix_mem 276 I J T)) rfl ⟨rfl, rfl, rfl⟩ ?_
    refine ix_br (fun c11 => ?_) (fun c11 => ?_)
    · have h12 := h10.1 c11
      obtain ⟨p13, h14⟩ := h12
      refine ix_go 7 (x' := (75, [some (.inr (.inr (.inl (some (106))))), none, none, none, none, some (.inr (.inr (.inl (some (3))))), some (.inl (x6)), some (.inl (x7))], [.inr (.inr (.inl (some (3)))), .inl (x7), .inr (.inr (.inl (some (ix_row 112 (I 106 0)))))], 0, 0, ix_mem 276 I J T)) rfl ⟨rfl, rfl, rfl, rfl, rfl, rfl, rfl, p13, (rw_112 p13).1⟩ ?_
      obtain ⟨p15, h16⟩ := h14
      obtain ⟨p17, h18⟩ := h16
      refine ix_go 7 (x' := (86, [some (.inr (.inr (.inl (some (106))))), none, none, none, none, some (.inr (.inr (.inl (some (3))))), some (.inl (x6)), some (.inl (x7))], [.inr (.inr (.inl (some (112)))), .inl (x6)], 0, 0, ix_mem 276 (ix_u2 I (ix_row 112 (I 106 0)) (x7).toNatClampNeg ((J 3 (x7).toNatClampNeg).toInt32)) J T)) rfl ⟨rfl, rfl, p15, (rw_112 p13).2.1, (rw_112 p13).2.2.1, (ix_inbL (rw_112 p13).2.2.2.1 p17), rfl, rfl⟩ ?_
      refine ix_go 2 (x' := (90, [some (.inr (.inr (.inl (some (106))))), none, none, none, none, some (.inr (.inr (.inl (some (3))))), some (.inl (x6)), some (.inl (x7))], [.inl ((ix_u2 I (ix_row 112 (I 106 0)) (x7).toNatClampNeg ((J 3 (x7).toNatClampNeg).toInt32)) 106 0), .inr (.inr (.inl (some (112)))), .inl (x6)], 0, 0, ix_mem 276 (ix_u2 I (ix_row 112 (I 106 0)) (x7).toNatClampNeg ((J 3 (x7).toNatClampNeg).toInt32)) J T)) rfl ⟨rfl, rfl⟩ ?_
      rw [show (ix_u2 I (ix_row 112 (I 106 0)) (x7).toNatClampNeg ((J 3 (x7).toNatClampNeg).toInt32)) 106 0 = I 106 0 from by rw [ro_112 p13 rfl]]
      obtain ⟨p19, h20⟩ := h18
      obtain ⟨p21, h22⟩ := h20
      refine ix_go 3 (x' := (94, [some (.inr (.inr (.inl (some (106))))), none, none, none, none, some (.inr (.inr (.inl (some (3))))), some (.inl (x6)), some (.inl (x7))], [.inl ((ix_u2 I (ix_row 112 (I 106 0)) (x7).toNatClampNeg ((J 3 (x7).toNatClampNeg).toInt32)) (ix_row 112 (I 106 0)) (x7).toNatClampNeg), .inl (x6)], 0, 0, ix_mem 276 (ix_u2 I (ix_row 112 (I 106 0)) (x7).toNatClampNeg ((J 3 (x7).toNatClampNeg).toInt32)) J T)) rfl ⟨rfl, rfl, rfl, p19, (rw_112 p19).1, (rw_112 p19).2.1, (rw_112 p19).2.2.1, (ix_inbL (rw_112 p19).2.2.2.1 p21)⟩ ?_
      rw [show (ix_u2 I (ix_row 112 (I 106 0)) (x7).toNatClampNeg ((J 3 (x7).toNatClampNeg).toInt32)) (ix_row 112 (I 106 0)) (x7).toNatClampNeg = (J 3 (x7).toNatClampNeg).toInt32 from by rw [u2_s]]
      refine ix_go 4 (x' := (47, [some (.inr (.inr (.inl (some (106))))), none, none, none, none, some (.inr (.inr (.inl (some (3))))), some (.inl ((x6) + ((J 3 (x7).toNatClampNeg).toInt32))), some (.inl (x7 + (1 : Int32)))], [], 0, 0, ix_mem 276 (ix_u2 I (ix_row 112 (I 106 0)) (x7).toNatClampNeg ((J 3 (x7).toNatClampNeg).toInt32)) J T)) rfl trivial ?_
      refine ix_subW ([some (.inr (.inr (.inl (some (106))))), none, none, none, none, some (.inr (.inr (.inl (some (3))))), some (.inl ((x6) + ((J 3 (x7).toNatClampNeg).toInt32))), some (.inl (x7 + (1 : Int32)))]) (ix_subS (ix_subS (ix_subS (ix_subS (ix_subS (ix_subS (ix_subS (ix_subS (ix_sub0))))))))) ?_
      exact h22
    · have h12 := h10.2 c11
      obtain ⟨p23, h24⟩ := h12
      refine ix_go 7 (x' := (115, [some (.inr (.inr (.inl (some (106))))), none, none, none, none, some (.inr (.inr (.inl (some (3))))), some (.inl (x6)), some (.inl (x7))], [.inr (.inr (.inl (some (106))))], 0, 0, ix_mem 276 (ix_u2 I 111 (I 106 0).toNatClampNeg (x6)) J T)) rfl ⟨rfl, rfl, rfl, rfl, rfl, rfl, p23⟩ ?_
      refine ix_go 7 (x' := (128, [some (.inr (.inr (.inl (some (106))))), none, none, none, none, some (.inr (.inr (.inl (some (3))))), some (.inl (x6)), some (.inl (x7))], [.inl (((I 106 0) + ((1 : Int32))))], 0, 0, ix_mem 276 (ix_u2 (ix_u2 I 111 (I 106 0).toNatClampNeg (x6)) 106 0 ((I 106 0) + ((1 : Int32)))) J T)) rfl ⟨rfl, rfl, rfl, rfl, rfl, rfl⟩ ?_
      refine ix_go 2 (x' := (130, [some (.inr (.inr (.inl (some (106))))), none, none, none, none, some (.inr (.inr (.inl (some (3))))), some (.inl (x6)), some (.inl (x7))], [.inl ((((I 106 0) + ((1 : Int32)))) - ((1 : Int32)))], 0, 0, ix_mem 276 (ix_u2 (ix_u2 I 111 (I 106 0).toNatClampNeg (x6)) 106 0 ((I 106 0) + ((1 : Int32)))) J T)) rfl trivial ?_
      exact ix_sp rfl ⟨Nat.le_refl _, Nat.le_refl _, trivial, hQ _ _ _ _ h24⟩
  · have h10 := hb.2 c9
    obtain ⟨p25, h26⟩ := h10
    refine ix_go 7 (x' := (115, [some (.inr (.inr (.inl (some (106))))), none, none, none, none, some (.inr (.inr (.inl (some (3))))), some (.inl (x6)), some (.inl (x7))], [.inr (.inr (.inl (some (106))))], 0, 0, ix_mem 276 (ix_u2 I 111 (I 106 0).toNatClampNeg (x6)) J T)) rfl ⟨rfl, rfl, rfl, rfl, rfl, rfl, p25⟩ ?_
    refine ix_go 7 (x' := (128, [some (.inr (.inr (.inl (some (106))))), none, none, none, none, some (.inr (.inr (.inl (some (3))))), some (.inl (x6)), some (.inl (x7))], [.inl (((I 106 0) + ((1 : Int32))))], 0, 0, ix_mem 276 (ix_u2 (ix_u2 I 111 (I 106 0).toNatClampNeg (x6)) 106 0 ((I 106 0) + ((1 : Int32)))) J T)) rfl ⟨rfl, rfl, rfl, rfl, rfl, rfl⟩ ?_
    refine ix_go 2 (x' := (130, [some (.inr (.inr (.inl (some (106))))), none, none, none, none, some (.inr (.inr (.inl (some (3))))), some (.inl (x6)), some (.inl (x7))], [.inl ((((I 106 0) + ((1 : Int32)))) - ((1 : Int32)))], 0, 0, ix_mem 276 (ix_u2 (ix_u2 I 111 (I 106 0).toNatClampNeg (x6)) 106 0 ((I 106 0) + ((1 : Int32)))) J T)) rfl trivial ?_
    exact ix_sp rfl ⟨Nat.le_refl _, Nat.le_refl _, trivial, hQ _ _ _ _ h26⟩
def wp_X4_add_r3 (a0 : Int32) (a1 : Int32) (a2 : Int32) (a3 : Int32) (I : Nat → Nat → Int32) (J : Nat → Nat → Int64) (T : Option Nat) (P : Int32 → (Nat → Nat → Int32) → (Nat → Nat → Int64) → Option Nat → Prop) : Prop := ix_inb (I 106 0) 8 = true ∧ ix_inb (I 106 0) 8 = true ∧ ix_inb (I 106 0) 8 = true ∧ ix_inb (I 106 0) 8 = true ∧ wl_X4_add_r3_47_c3 ((0 : Int32)) ((0 : Int32)) (ix_u2 (ix_u2 (ix_u2 (ix_u2 I 107 (I 106 0).toNatClampNeg (a0)) 108 (I 106 0).toNatClampNeg (a1)) 109 (I 106 0).toNatClampNeg (a2)) 110 (I 106 0).toNatClampNeg (a3)) J T P
set_option maxRecDepth 20000 in
theorem tp_X4_add_r3 {d : Nat} {a0 : Int32} {a1 : Int32} {a2 : Int32} {a3 : Int32} {I : Nat → Nat → Int32} {J : Nat → Nat → Int64} {T : Option Nat} {P : Int32 → (Nat → Nat → Int32) → (Nat → Nat → Int64) → Option Nat → Prop} {Q : ix_Q} (h : wp_X4_add_r3 a0 a1 a2 a3 I J T P) (hQ : ∀ v I J T, P v I J T → Q (some (.inl v)) (ix_mem 276 I J T)) : ix_C (d + 1) 53 [.inr (.inr (.inl (some (106)))), .inl (a0), .inl (a1), .inl (a2), .inl (a3), .inr (.inr (.inl (some (3))))] (ix_mem 276 I J T) Q := by
  unfold wp_X4_add_r3 at h
  refine ix_enter (ls := [some (.inr (.inr (.inl (some (106))))), some (.inl (a0)), some (.inl (a1)), some (.inl (a2)), some (.inl (a3)), some (.inr (.inr (.inl (some (3))))), none, none]) rfl rfl rfl (Nat.le_of_ble_eq_true rfl) ?_
  obtain ⟨p1, h2⟩ := h
  refine ix_go 7 (x' := (11, [some (.inr (.inr (.inl (some (106))))), some (.inl (a0)), some (.inl (a1)), some (.inl (a2)), some (.inl (a3)), some (.inr (.inr (.inl (some (3))))), none, none], [.inr (.inr (.inl (some (106))))], 0, 0, ix_mem 276 (ix_u2 I 107 (I 106 0).toNatClampNeg (a0)) J T)) rfl ⟨rfl, rfl, rfl, rfl, rfl, rfl, p1⟩ ?_
  obtain ⟨p3, h4⟩ := h2
  refine ix_go 7 (x' := (24, [some (.inr (.inr (.inl (some (106))))), some (.inl (a0)), some (.inl (a1)), some (.inl (a2)), some (.inl (a3)), some (.inr (.inr (.inl (some (3))))), none, none], [.inr (.inr (.inl (some (109))))], 0, 0, ix_mem 276 (ix_u2 (ix_u2 I 107 (I 106 0).toNatClampNeg (a0)) 108 (I 106 0).toNatClampNeg (a1)) J T)) rfl ⟨rfl, rfl, rfl, rfl, rfl, rfl, p3, rfl, rfl⟩ ?_
  obtain ⟨p5, h6⟩ := h4
  refine ix_go 7 (x' := (35, [some (.inr (.inr (.inl (some (106))))), some (.inl (a0)), some (.inl (a1)), some (.inl (a2)), some (.inl (a3)), some (.inr (.inr (.inl (some (3))))), none, none], [.inr (.inr (.inl (some (106)))), .inr (.inr (.inl (some (110))))], 0, 0, ix_mem 276 (ix_u2 (ix_u2 (ix_u2 I 107 (I 106 0).toNatClampNeg (a0)) 108 (I 106 0).toNatClampNeg (a1)) 109 (I 106 0).toNatClampNeg (a2)) J T)) rfl ⟨rfl, rfl, rfl, rfl, p5, rfl, rfl⟩ ?_
  obtain ⟨p7, h8⟩ := h6
  refine ix_go 7 (x' := (47, [some (.inr (.inr (.inl (some (106))))), some (.inl (a0)), some (.inl (a1)), some (.inl (a2)), some (.inl (a3)), some (.inr (.inr (.inl (some (3))))), some (.inl ((0 : Int32))), some (.inl ((0 : Int32)))], [], 0, 0, ix_mem 276 (ix_u2 (ix_u2 (ix_u2 (ix_u2 I 107 (I 106 0).toNatClampNeg (a0)) 108 (I 106 0).toNatClampNeg (a1)) 109 (I 106 0).toNatClampNeg (a2)) 110 (I 106 0).toNatClampNeg (a3)) J T)) rfl ⟨rfl, rfl, rfl, rfl, p7⟩ ?_
  refine ix_subW ([some (.inr (.inr (.inl (some (106))))), none, none, none, none, some (.inr (.inr (.inl (some (3))))), some (.inl ((0 : Int32))), some (.inl ((0 : Int32)))]) (ix_subS (ix_subN (ix_subN (ix_subN (ix_subN (ix_subS (ix_subS (ix_subS (ix_sub0))))))))) ?_
  exact tl_X4_add_r3_47_c3 h8 hQ
def wb_X4_add_r4_47_c4 (x6 : Int32) (x7 : Int32) (I : Nat → Nat → Int32) (J : Nat → Nat → Int64) (T : Option Nat) (V47 : Int32 → Int32 → (Nat → Nat → Int32) → (Nat → Nat → Int64) → Option Nat → Prop) (P : Int32 → (Nat → Nat → Int32) → (Nat → Nat → Int64) → Option Nat → Prop) : Prop := ((x7 < (52 : Int32) → ((x7 < (60 : Int32) → ix_inb (I 106 0) 8 = true ∧ ix_inb (x7) 60 = true ∧ ix_inb (x7) 52 = true ∧ ix_inb (I 106 0) 8 = true ∧ ix_inb (x7) 52 = true ∧ V47 ((x6) + ((J 4 (x7).toNatClampNeg).toInt32)) (x7 + (1 : Int32)) (ix_u2 I (ix_row 112 (I 106 0)) (x7).toNatClampNeg ((J 4 (x7).toNatClampNeg).toInt32)) J T) ∧ (¬ (x7 < (60 : Int32)) → ix_inb (I 106 0) 8 = true ∧ P ((((I 106 0) + ((1 : Int32)))) - ((1 : Int32))) (ix_u2 (ix_u2 I 111 (I 106 0).toNatClampNeg (x6)) 106 0 ((I 106 0) + ((1 : Int32)))) J T))) ∧ (¬ (x7 < (52 : Int32)) → ix_inb (I 106 0) 8 = true ∧ P ((((I 106 0) + ((1 : Int32)))) - ((1 : Int32))) (ix_u2 (ix_u2 I 111 (I 106 0).toNatClampNeg (x6)) 106 0 ((I 106 0) + ((1 : Int32)))) J T))
def wl_X4_add_r4_47_c4 (x6 : Int32) (x7 : Int32) (I : Nat → Nat → Int32) (J : Nat → Nat → Int64) (T : Option Nat) (P : Int32 → (Nat → Nat → Int32) → (Nat → Nat → Int64) → Option Nat → Prop) : Prop := ∀ V : Int32 → Int32 → (Nat → Nat → Int32) → (Nat → Nat → Int64) → Option Nat → Prop, (∀ (x6 : Int32) (x7 : Int32) (I : Nat → Nat → Int32) (J : Nat → Nat → Int64) (T : Option Nat), wb_X4_add_r4_47_c4 x6 x7 I J T V P → V x6 x7 I J T) → V x6 x7 I J T
set_option maxRecDepth 20000 in
theorem tl_X4_add_r4_47_c4 {d : Nat} {x6 : Int32} {x7 : Int32} {I : Nat → Nat → Int32} {J : Nat → Nat → Int64} {T : Option Nat} {P : Int32 → (Nat → Nat → Int32) → (Nat → Nat → Int64) → Option Nat → Prop} {Q : ix_Q} (h : wl_X4_add_r4_47_c4 x6 x7 I J T P) (hQ : ∀ v I J T, P v I J T → Q (some (.inl v)) (ix_mem 276 I J T)) : ix_W (ix_C d) (4, ix_lk ix_l53, (some .int), 0, 0, Nat.blt 0 0, none) Q (47, [some (.inr (.inr (.inl (some (106))))), none, none, none, none, some (.inr (.inr (.inl (some (4))))), some (.inl (x6)), some (.inl (x7))], [], 0, 0, ix_mem 276 I J T) := by
  refine h (fun x6 x7 I J T => ix_W (ix_C d) (4, ix_lk ix_l53, (some .int), 0, 0, Nat.blt 0 0, none) Q (47, [some (.inr (.inr (.inl (some (106))))), none, none, none, none, some (.inr (.inr (.inl (some (4))))), some (.inl (x6)), some (.inl (x7))], [], 0, 0, ix_mem 276 I J T)) ?_
  intro x6 x7 I J T hb
  unfold wb_X4_add_r4_47_c4 at hb
  refine ix_go 3 (x' := (if x7 < (52 : Int32) then 54 else 103, [some (.inr (.inr (.inl (some (106))))), none, none, none, none, some (.inr (.inr (.inl (some (4))))), some (.inl (x6)), some (.inl (x7))], [], 0, 0, ix_mem 276 I J T)) rfl trivial ?_
  refine ix_br (fun c9 => ?_) (fun c9 => ?_)
  · have h10 := hb.1 c9
    refine ix_go 4 (x' := (if x7 < (60 : Int32) then 62 else 103, [some (.inr (.inr (.inl (some (106))))), none, none, none, none, some (.inr (.inr (.inl (some (4))))), some (.inl (x6)), some (.inl (x7))], [], 0, 0, ix_mem 276 I J T)) rfl ⟨rfl, rfl, rfl⟩ ?_
    refine ix_br (fun c11 => ?_) (fun c11 => ?_)
    · have h12 := h10.1 c11
      obtain ⟨p13, h14⟩ := h12
      refine ix_go 7 (x' := (75, [some (.inr (.inr (.inl (some (106))))), none, none, none, none, some (.inr (.inr (.inl (some (4))))), some (.inl (x6)), some (.inl (x7))], [.inr (.inr (.inl (some (4)))), .inl (x7), .inr (.inr (.inl (some (ix_row 112 (I 106 0)))))], 0, 0, ix_mem 276 I J T)) rfl ⟨rfl, rfl, rfl, rfl, rfl, rfl, rfl, p13, (rw_112 p13).1⟩ ?_
      obtain ⟨p15, h16⟩ := h14
      obtain ⟨p17, h18⟩ := h16
      refine ix_go 7 (x' := (86, [some (.inr (.inr (.inl (some (106))))), none, none, none, none, some (.inr (.inr (.inl (some (4))))), some (.inl (x6)), some (.inl (x7))], [.inr (.inr (.inl (some (112)))), .inl (x6)], 0, 0, ix_mem 276 (ix_u2 I (ix_row 112 (I 106 0)) (x7).toNatClampNeg ((J 4 (x7).toNatClampNeg).toInt32)) J T)) rfl ⟨rfl, rfl, p15, (rw_112 p13).2.1, (rw_112 p13).2.2.1, (ix_inbL (rw_112 p13).2.2.2.1 p17), rfl, rfl⟩ ?_
      refine ix_go 2 (x' := (90, [some (.inr (.inr (.inl (some (106))))), none, none, none, none, some (.inr (.inr (.inl (some (4))))), some (.inl (x6)), some (.inl (x7))], [.inl ((ix_u2 I (ix_row 112 (I 106 0)) (x7).toNatClampNeg ((J 4 (x7).toNatClampNeg).toInt32)) 106 0), .inr (.inr (.inl (some (112)))), .inl (x6)], 0, 0, ix_mem 276 (ix_u2 I (ix_row 112 (I 106 0)) (x7).toNatClampNeg ((J 4 (x7).toNatClampNeg).toInt32)) J T)) rfl ⟨rfl, rfl⟩ ?_
      rw [show (ix_u2 I (ix_row 112 (I 106 0)) (x7).toNatClampNeg ((J 4 (x7).toNatClampNeg).toInt32)) 106 0 = I 106 0 from by rw [ro_112 p13 rfl]]
      obtain ⟨p19, h20⟩ := h18
      obtain ⟨p21, h22⟩ := h20
      refine ix_go 3 (x' := (94, [some (.inr (.inr (.inl (some (106))))), none, none, none, none, some (.inr (.inr (.inl (some (4))))), some (.inl (x6)), some (.inl (x7))], [.inl ((ix_u2 I (ix_row 112 (I 106 0)) (x7).toNatClampNeg ((J 4 (x7).toNatClampNeg).toInt32)) (ix_row 112 (I 106 0)) (x7).toNatClampNeg), .inl (x6)], 0, 0, ix_mem 276 (ix_u2 I (ix_row 112 (I 106 0)) (x7).toNatClampNeg ((J 4 (x7).toNatClampNeg).toInt32)) J T)) rfl ⟨rfl, rfl, rfl, p19, (rw_112 p19).1, (rw_112 p19).2.1, (rw_112 p19).2.2.1, (ix_inbL (rw_112 p19).2.2.2.1 p21)⟩ ?_
      rw [show (ix_u2 I (ix_row 112 (I 106 0)) (x7).toNatClampNeg ((J 4 (x7).toNatClampNeg).toInt32)) (ix_row 112 (I 106 0)) (x7).toNatClampNeg = (J 4 (x7).toNatClampNeg).toInt32 from by rw [u2_s]]
      refine ix_go 4 (x' := (47, [some (.inr (.inr (.inl (some (106))))), none, none, none, none, some (.inr (.inr (.inl (some (4))))), some (.inl ((x6) + ((J 4 (x7).toNatClampNeg).toInt32))), some (.inl (x7 + (1 : Int32)))], [], 0, 0, ix_mem 276 (ix_u2 I (ix_row 112 (I 106 0)) (x7).toNatClampNeg ((J 4 (x7).toNatClampNeg).toInt32)) J T)) rfl trivial ?_
      refine ix_subW ([some (.inr (.inr (.inl (some (106))))), none, none, none, none, some (.inr (.inr (.inl (some (4))))), some (.inl ((x6) + ((J 4 (x7).toNatClampNeg).toInt32))), some (.inl (x7 + (1 : Int32)))]) (ix_subS (ix_subS (ix_subS (ix_subS (ix_subS (ix_subS (ix_subS (ix_subS (ix_sub0))))))))) ?_
      exact h22
    · have h12 := h10.2 c11
      obtain ⟨p23, h24⟩ := h12
      refine ix_go 7 (x' := (115, [some (.inr (.inr (.inl (some (106))))), none, none, none, none, some (.inr (.inr (.inl (some (4))))), some (.inl (x6)), some (.inl (x7))], [.inr (.inr (.inl (some (106))))], 0, 0, ix_mem 276 (ix_u2 I 111 (I 106 0).toNatClampNeg (x6)) J T)) rfl ⟨rfl, rfl, rfl, rfl, rfl, rfl, p23⟩ ?_
      refine ix_go 7 (x' := (128, [some (.inr (.inr (.inl (some (106))))), none, none, none, none, some (.inr (.inr (.inl (some (4))))), some (.inl (x6)), some (.inl (x7))], [.inl (((I 106 0) + ((1 : Int32))))], 0, 0, ix_mem 276 (ix_u2 (ix_u2 I 111 (I 106 0).toNatClampNeg (x6)) 106 0 ((I 106 0) + ((1 : Int32)))) J T)) rfl ⟨rfl, rfl, rfl, rfl, rfl, rfl⟩ ?_
      refine ix_go 2 (x' := (130, [some (.inr (.inr (.inl (some (106))))), none, none, none, none, some (.inr (.inr (.inl (some (4))))), some (.inl (x6)), some (.inl (x7))], [.inl ((((I 106 0) + ((1 : Int32)))) - ((1 : Int32)))], 0, 0, ix_mem 276 (ix_u2 (ix_u2 I 111 (I 106 0).toNatClampNeg (x6)) 106 0 ((I 106 0) + ((1 : Int32)))) J T)) rfl trivial ?_
      exact ix_sp rfl ⟨Nat.le_refl _, Nat.le_refl _, trivial, hQ _ _ _ _ h24⟩
  · have h10 := hb.2 c9
    obtain ⟨p25, h26⟩ := h10
    refine ix_go 7 (x' := (115, [some (.inr (.inr (.inl (some (106))))), none, none, none, none, some (.inr (.inr (.inl (some (4))))), some (.inl (x6)), some (.inl (x7))], [.inr (.inr (.inl (some (106))))], 0, 0, ix_mem 276 (ix_u2 I 111 (I 106 0).toNatClampNeg (x6)) J T)) rfl ⟨rfl, rfl, rfl, rfl, rfl, rfl, p25⟩ ?_
    refine ix_go 7 (x' := (128, [some (.inr (.inr (.inl (some (106))))), none, none, none, none, some (.inr (.inr (.inl (some (4))))), some (.inl (x6)), some (.inl (x7))], [.inl (((I 106 0) + ((1 : Int32))))], 0, 0, ix_mem 276 (ix_u2 (ix_u2 I 111 (I 106 0).toNatClampNeg (x6)) 106 0 ((I 106 0) + ((1 : Int32)))) J T)) rfl ⟨rfl, rfl, rfl, rfl, rfl, rfl⟩ ?_
    refine ix_go 2 (x' := (130, [some (.inr (.inr (.inl (some (106))))), none, none, none, none, some (.inr (.inr (.inl (some (4))))), some (.inl (x6)), some (.inl (x7))], [.inl ((((I 106 0) + ((1 : Int32)))) - ((1 : Int32)))], 0, 0, ix_mem 276 (ix_u2 (ix_u2 I 111 (I 106 0).toNatClampNeg (x6)) 106 0 ((I 106 0) + ((1 : Int32)))) J T)) rfl trivial ?_
    exact ix_sp rfl ⟨Nat.le_refl _, Nat.le_refl _, trivial, hQ _ _ _ _ h26⟩
def wp_X4_add_r4 (a0 : Int32) (a1 : Int32) (a2 : Int32) (a3 : Int32) (I : Nat → Nat → Int32) (J : Nat → Nat → Int64) (T : Option Nat) (P : Int32 → (Nat → Nat → Int32) → (Nat → Nat → Int64) → Option Nat → Prop) : Prop := ix_inb (I 106 0) 8 = true ∧ ix_inb (I 106 0) 8 = true ∧ ix_inb (I 106 0) 8 = true ∧ ix_inb (I 106 0) 8 = true ∧ wl_X4_add_r4_47_c4 ((0 : Int32)) ((0 : Int32)) (ix_u2 (ix_u2 (ix_u2 (ix_u2 I 107 (I 106 0).toNatClampNeg (a0)) 108 (I 106 0).toNatClampNeg (a1)) 109 (I 106 0).toNatClampNeg (a2)) 110 (I 106 0).toNatClampNeg (a3)) J T P
set_option maxRecDepth 20000 in
theorem tp_X4_add_r4 {d : Nat} {a0 : Int32} {a1 : Int32} {a2 : Int32} {a3 : Int32} {I : Nat → Nat → Int32} {J : Nat → Nat → Int64} {T : Option Nat} {P : Int32 → (Nat → Nat → Int32) → (Nat → Nat → Int64) → Option Nat → Prop} {Q : ix_Q} (h : wp_X4_add_r4 a0 a1 a2 a3 I J T P) (hQ : ∀ v I J T, P v I J T → Q (some (.inl v)) (ix_mem 276 I J T)) : ix_C (d + 1) 53 [.inr (.inr (.inl (some (106)))), .inl (a0), .inl (a1), .inl (a2), .inl (a3), .inr (.inr (.inl (some (4))))] (ix_mem 276 I J T) Q := by
  unfold wp_X4_add_r4 at h
  refine ix_enter (ls := [some (.inr (.inr (.inl (some (106))))), some (.inl (a0)), some (.inl (a1)), some (.inl (a2)), some (.inl (a3)), some (.inr (.inr (.inl (some (4))))), none, none]) rfl rfl rfl (Nat.le_of_ble_eq_true rfl) ?_
  obtain ⟨p1, h2⟩ := h
  refine ix_go 7 (x' := (11, [some (.inr (.inr (.inl (some (106))))), some (.inl (a0)), some (.inl (a1)), some (.inl (a2)), some (.inl (a3)), some (.inr (.inr (.inl (some (4))))), none, none], [.inr (.inr (.inl (some (106))))], 0, 0, ix_mem 276 (ix_u2 I 107 (I 106 0).toNatClampNeg (a0)) J T)) rfl ⟨rfl, rfl, rfl, rfl, rfl, rfl, p1⟩ ?_
  obtain ⟨p3, h4⟩ := h2
  refine ix_go 7 (x' := (24, [some (.inr (.inr (.inl (some (106))))), some (.inl (a0)), some (.inl (a1)), some (.inl (a2)), some (.inl (a3)), some (.inr (.inr (.inl (some (4))))), none, none], [.inr (.inr (.inl (some (109))))], 0, 0, ix_mem 276 (ix_u2 (ix_u2 I 107 (I 106 0).toNatClampNeg (a0)) 108 (I 106 0).toNatClampNeg (a1)) J T)) rfl ⟨rfl, rfl, rfl, rfl, rfl, rfl, p3, rfl, rfl⟩ ?_
  obtain ⟨p5, h6⟩ := h4
  refine ix_go 7 (x' := (35, [some (.inr (.inr (.inl (some (106))))), some (.inl (a0)), some (.inl (a1)), some (.inl (a2)), some (.inl (a3)), some (.inr (.inr (.inl (some (4))))), none, none], [.inr (.inr (.inl (some (106)))), .inr (.inr (.inl (some (110))))], 0, 0, ix_mem 276 (ix_u2 (ix_u2 (ix_u2 I 107 (I 106 0).toNatClampNeg (a0)) 108 (I 106 0).toNatClampNeg (a1)) 109 (I 106 0).toNatClampNeg (a2)) J T)) rfl ⟨rfl, rfl, rfl, rfl, p5, rfl, rfl⟩ ?_
  obtain ⟨p7, h8⟩ := h6
  refine ix_go 7 (x' := (47, [some (.inr (.inr (.inl (some (106))))), some (.inl (a0)), some (.inl (a1)), some (.inl (a2)), some (.inl (a3)), some (.inr (.inr (.inl (some (4))))), some (.inl ((0 : Int32))), some (.inl ((0 : Int32)))], [], 0, 0, ix_mem 276 (ix_u2 (ix_u2 (ix_u2 (ix_u2 I 107 (I 106 0).toNatClampNeg (a0)) 108 (I 106 0).toNatClampNeg (a1)) 109 (I 106 0).toNatClampNeg (a2)) 110 (I 106 0).toNatClampNeg (a3)) J T)) rfl ⟨rfl, rfl, rfl, rfl, p7⟩ ?_
  refine ix_subW ([some (.inr (.inr (.inl (some (106))))), none, none, none, none, some (.inr (.inr (.inl (some (4))))), some (.inl ((0 : Int32))), some (.inl ((0 : Int32)))]) (ix_subS (ix_subN (ix_subN (ix_subN (ix_subN (ix_subS (ix_subS (ix_subS (ix_sub0))))))))) ?_
  exact tl_X4_add_r4_47_c4 h8 hQ
