def wp_J_indexOf2_s2 (a0 : Int32) (a1 : Int32) (I : Nat → Nat → Int32) (J : Nat → Nat → Int64) (T : Option Nat) (P : Int32 → (Nat → Nat → Int32) → (Nat → Nat → Int64) → Option Nat → Prop) : Prop := wp_J_isLatin1_s2 I J T (fun v1 I1 J1 T1 => ((v1 = 0 → wp_J_length_s2 I1 J1 T1 (fun v4 I4 J4 T4 => False)) ∧ (¬ (v1 = 0) → wp_J_length_s2 I1 J1 T1 (fun v5 I5 J5 T5 => wp_J_lindexOf_rs6 (a0) (a1) (v5) I5 J5 T5 (fun v6 I6 J6 T6 => P (v6) I6 J6 T6)))))
set_option maxRecDepth 20000 in
theorem tp_J_indexOf2_s2 {d : Nat} {a0 : Int32} {a1 : Int32} {I : Nat → Nat → Int32} {J : Nat → Nat → Int64} {T : Option Nat} {P : Int32 → (Nat → Nat → Int32) → (Nat → Nat → Int64) → Option Nat → Prop} {Q : ix_Q} (h : wp_J_indexOf2_s2 a0 a1 I J T P) (hQ : ∀ v I J T, P v I J T → Q (some (.inl v)) (ix_mem 276 I J T)) : ix_C (d + 3) 350 [.inr (.inr (.inr 2)), .inl (a0), .inl (a1)] (ix_mem 276 I J T) Q := by
  unfold wp_J_indexOf2_s2 at h
  refine ix_enter (ls := [some (.inr (.inr (.inr 2))), some (.inl (a0)), some (.inl (a1))]) rfl rfl rfl (Nat.le_of_ble_eq_true rfl) ?_
  refine ix_go 1 (x' := (1, [some (.inr (.inr (.inr 2))), some (.inl (a0)), some (.inl (a1))], [.inr (.inr (.inr 2))], 0, 0, ix_mem 276 I J T)) rfl trivial ?_
  refine ix_sp rfl ⟨rfl, ⟨ix_le rfl, ix_le rfl, rfl⟩, ix_le rfl, Nat.le_refl _, Nat.le_refl _, tp_J_isLatin1_s2 h (fun v1 I1 J1 T1 h1 => ?_)⟩
  change ix_W _ _ _ (4, [some (.inr (.inr (.inr 2))), some (.inl (a0)), some (.inl (a1))], [.inl (v1)], 0, 0, ix_mem 276 I1 J1 T1)
  refine ix_go 1 (x' := (if v1 = 0 then 23 else 7, [some (.inr (.inr (.inr 2))), some (.inl (a0)), some (.inl (a1))], [], 0, 0, ix_mem 276 I1 J1 T1)) rfl trivial ?_
  refine ix_br (fun c2 => ?_) (fun c2 => ?_)
  · have h3 := h1.1 c2
    refine ix_go 5 (x' := (30, [some (.inr (.inr (.inr 2))), some (.inl (a0)), some (.inl (a1))], [.inr (.inr (.inr 2)), .inl (a1), .inl (a0), .inr (.inr (.inr 6))], 0, 0, ix_mem 276 I1 J1 T1)) rfl ⟨rfl, rfl⟩ ?_
    refine ix_sp rfl ⟨rfl, ⟨ix_le rfl, ix_le rfl, rfl⟩, ix_le rfl, Nat.le_refl _, Nat.le_refl _, tp_J_length_s2 h3 (fun v4 I4 J4 T4 h4 => ?_)⟩
    change ix_W _ _ _ (33, [some (.inr (.inr (.inr 2))), some (.inl (a0)), some (.inl (a1))], [.inl (v4), .inl (a1), .inl (a0), .inr (.inr (.inr 6))], 0, 0, ix_mem 276 I4 J4 T4)
    exact h4.elim
  · have h3 := h1.2 c2
    refine ix_go 5 (x' := (14, [some (.inr (.inr (.inr 2))), some (.inl (a0)), some (.inl (a1))], [.inr (.inr (.inr 2)), .inl (a1), .inl (a0), .inr (.inr (.inr 6))], 0, 0, ix_mem 276 I1 J1 T1)) rfl ⟨rfl, rfl⟩ ?_
    refine ix_sp rfl ⟨rfl, ⟨ix_le rfl, ix_le rfl, rfl⟩, ix_le rfl, Nat.le_refl _, Nat.le_refl _, tp_J_length_s2 h3 (fun v5 I5 J5 T5 h5 => ?_)⟩
    change ix_W _ _ _ (17, [some (.inr (.inr (.inr 2))), some (.inl (a0)), some (.inl (a1))], [.inl (v5), .inl (a1), .inl (a0), .inr (.inr (.inr 6))], 0, 0, ix_mem 276 I5 J5 T5)
    refine ix_sp rfl ⟨rfl, trivial, ix_le rfl, Nat.le_refl _, Nat.le_refl _, tp_J_lindexOf_rs6 h5 (fun v6 I6 J6 T6 h6 => ?_)⟩
    change ix_W _ _ _ (20, [some (.inr (.inr (.inr 2))), some (.inl (a0)), some (.inl (a1))], [.inl (v6)], 0, 0, ix_mem 276 I6 J6 T6)
    refine ix_go 1 (x' := (36, [some (.inr (.inr (.inr 2))), some (.inl (a0)), some (.inl (a1))], [.inl (v6)], 0, 0, ix_mem 276 I6 J6 T6)) rfl trivial ?_
    exact ix_sp rfl ⟨Nat.le_refl _, Nat.le_refl _, trivial, hQ _ _ _ _ h6⟩
def wp_J_indexOf1_s2 (a0 : Int32) (I : Nat → Nat → Int32) (J : Nat → Nat → Int64) (T : Option Nat) (P : Int32 → (Nat → Nat → Int32) → (Nat → Nat → Int64) → Option Nat → Prop) : Prop := wp_J_indexOf2_s2 (a0) ((0 : Int32)) I J T (fun v1 I1 J1 T1 => P (v1) I1 J1 T1)
set_option maxRecDepth 20000 in
theorem tp_J_indexOf1_s2 {d : Nat} {a0 : Int32} {I : Nat → Nat → Int32} {J : Nat → Nat → Int64} {T : Option Nat} {P : Int32 → (Nat → Nat → Int32) → (Nat → Nat → Int64) → Option Nat → Prop} {Q : ix_Q} (h : wp_J_indexOf1_s2 a0 I J T P) (hQ : ∀ v I J T, P v I J T → Q (some (.inl v)) (ix_mem 276 I J T)) : ix_C (d + 4) 349 [.inr (.inr (.inr 2)), .inl (a0)] (ix_mem 276 I J T) Q := by
  unfold wp_J_indexOf1_s2 at h
  refine ix_enter (ls := [some (.inr (.inr (.inr 2))), some (.inl (a0))]) rfl rfl rfl (Nat.le_of_ble_eq_true rfl) ?_
  refine ix_go 3 (x' := (3, [some (.inr (.inr (.inr 2))), some (.inl (a0))], [.inl ((0 : Int32)), .inl (a0), .inr (.inr (.inr 2))], 0, 0, ix_mem 276 I J T)) rfl trivial ?_
  refine ix_sp rfl ⟨rfl, ⟨ix_le rfl, ix_le rfl, rfl⟩, ix_le rfl, Nat.le_refl _, Nat.le_refl _, tp_J_indexOf2_s2 h (fun v1 I1 J1 T1 h1 => ?_)⟩
  change ix_W _ _ _ (6, [some (.inr (.inr (.inr 2))), some (.inl (a0))], [.inl (v1)], 0, 0, ix_mem 276 I1 J1 T1)
  exact ix_sp rfl ⟨Nat.le_refl _, Nat.le_refl _, trivial, hQ _ _ _ _ h1⟩
def wp_X7_tellToken (a0 : Int32) (I : Nat → Nat → Int32) (J : Nat → Nat → Int64) (T : Option Nat) (P : Int32 → (Nat → Nat → Int32) → (Nat → Nat → Int64) → Option Nat → Prop) : Prop := ((I 44 3 < I 44 2 → ix_inb (I 44 3) 600 = true ∧ wp_X7_isLetter (I 45 (I 44 3).toNatClampNeg) I J T (fun v5 I5 J5 T5 => ((v5 = 0 → wp_X7_isDigit (I 45 (I 44 3).toNatClampNeg) I5 J5 T5 (fun v8 I8 J8 T8 => ((v8 = 0 → wp_J_indexOf1_s2 ((((I 45 (I 44 3).toNatClampNeg) &&& ((255 : Int32))).toUInt32 % 65536).toInt32) (ix_u2 I8 44 3 ((I8 44 3) + ((1 : Int32)))) J8 T8 (fun v11 I11 J11 T11 => ((v11 < 0 → P ((22 : Int32)) I11 J11 T11) ∧ (¬ (v11 < 0) → P (I 45 (I 44 3).toNatClampNeg) I11 J11 T11)))) ∧ (¬ (v8 = 0) → wp_X7_tellNumber (a0) I8 J8 T8 (fun v14 I14 J14 T14 => P (v14) I14 J14 T14))))) ∧ (¬ (v5 = 0) → wp_X7_tellWord (a0) I5 J5 T5 (fun v15 I15 J15 T15 => P (v15) I15 J15 T15))))) ∧ (¬ (I 44 3 < I 44 2) → P ((21 : Int32)) I J T))
set_option maxRecDepth 20000 in
theorem tp_X7_tellToken {d : Nat} {a0 : Int32} {I : Nat → Nat → Int32} {J : Nat → Nat → Int64} {T : Option Nat} {P : Int32 → (Nat → Nat → Int32) → (Nat → Nat → Int64) → Option Nat → Prop} {Q : ix_Q} (h : wp_X7_tellToken a0 I J T P) (hQ : ∀ v I J T, P v I J T → Q (some (.inl v)) (ix_mem 276 I J T)) : ix_C (d + 5) 105 [.inr (.inr (.inl (some (44)))), .inl (a0)] (ix_mem 276 I J T) Q := by
  unfold wp_X7_tellToken at h
  refine ix_enter (ls := [some (.inr (.inr (.inl (some (44))))), some (.inl (a0)), none]) rfl rfl rfl (Nat.le_of_ble_eq_true rfl) ?_
  refine ix_go 5 (x' := (if I 44 3 < I 44 2 then 14 else 11, [some (.inr (.inr (.inl (some (44))))), some (.inl (a0)), none], [], 0, 0, ix_mem 276 I J T)) rfl ⟨rfl, rfl, rfl, rfl⟩ ?_
  refine ix_br (fun c1 => ?_) (fun c1 => ?_)
  · have h2 := h.1 c1
    obtain ⟨p3, h4⟩ := h2
    refine ix_go 7 (x' := (25, [some (.inr (.inr (.inl (some (44))))), some (.inl (a0)), some (.inl (I 45 (I 44 3).toNatClampNeg))], [.inl (I 45 (I 44 3).toNatClampNeg)], 0, 0, ix_mem 276 I J T)) rfl ⟨rfl, rfl, rfl, rfl, rfl, rfl, p3⟩ ?_
    refine ix_sp rfl ⟨rfl, trivial, ix_le rfl, Nat.le_refl _, Nat.le_refl _, tp_X7_isLetter h4 (fun v5 I5 J5 T5 h5 => ?_)⟩
    change ix_W _ _ _ (28, [some (.inr (.inr (.inl (some (44))))), some (.inl (a0)), some (.inl (I 45 (I 44 3).toNatClampNeg))], [.inl (v5)], 0, 0, ix_mem 276 I5 J5 T5)
    refine ix_go 1 (x' := (if v5 = 0 then 37 else 31, [some (.inr (.inr (.inl (some (44))))), some (.inl (a0)), some (.inl (I 45 (I 44 3).toNatClampNeg))], [], 0, 0, ix_mem 276 I5 J5 T5)) rfl trivial ?_
    refine ix_br (fun c6 => ?_) (fun c6 => ?_)
    · have h7 := h5.1 c6
      refine ix_go 1 (x' := (38, [some (.inr (.inr (.inl (some (44))))), some (.inl (a0)), some (.inl (I 45 (I 44 3).toNatClampNeg))], [.inl (I 45 (I 44 3).toNatClampNeg)], 0, 0, ix_mem 276 I5 J5 T5)) rfl trivial ?_
      refine ix_sp rfl ⟨rfl, trivial, ix_le rfl, Nat.le_refl _, Nat.le_refl _, tp_X7_isDigit h7 (fun v8 I8 J8 T8 h8 => ?_)⟩
      change ix_W _ _ _ (41, [some (.inr (.inr (.inl (some (44))))), some (.inl (a0)), some (.inl (I 45 (I 44 3).toNatClampNeg))], [.inl (v8)], 0, 0, ix_mem 276 I8 J8 T8)
      refine ix_go 1 (x' := (if v8 = 0 then 50 else 44, [some (.inr (.inr (.inl (some (44))))), some (.inl (a0)), some (.inl (I 45 (I 44 3).toNatClampNeg))], [], 0, 0, ix_mem 276 I8 J8 T8)) rfl trivial ?_
      refine ix_br (fun c9 => ?_) (fun c9 => ?_)
      · have h10 := h8.1 c9
        refine ix_go 7 (x' := (62, [some (.inr (.inr (.inl (some (44))))), some (.inl (a0)), some (.inl (I 45 (I 44 3).toNatClampNeg))], [.inr (.inr (.inr 2))], 0, 0, ix_mem 276 (ix_u2 I8 44 3 ((I8 44 3) + ((1 : Int32)))) J8 T8)) rfl ⟨rfl, rfl, rfl, rfl⟩ ?_
        refine ix_go 4 (x' := (68, [some (.inr (.inr (.inl (some (44))))), some (.inl (a0)), some (.inl (I 45 (I 44 3).toNatClampNeg))], [.inl ((((I 45 (I 44 3).toNatClampNeg) &&& ((255 : Int32))).toUInt32 % 65536).toInt32), .inr (.inr (.inr 2))], 0, 0, ix_mem 276 (ix_u2 I8 44 3 ((I8 44 3) + ((1 : Int32)))) J8 T8)) rfl trivial ?_
        refine ix_sp rfl ⟨rfl, ⟨ix_le rfl, ix_le rfl, rfl⟩, ix_le rfl, Nat.le_refl _, Nat.le_refl _, tp_J_indexOf1_s2 h10 (fun v11 I11 J11 T11 h11 => ?_)⟩
        change ix_W _ _ _ (71, [some (.inr (.inr (.inl (some (44))))), some (.inl (a0)), some (.inl (I 45 (I 44 3).toNatClampNeg))], [.inl (v11)], 0, 0, ix_mem 276 I11 J11 T11)
        refine ix_go 1 (x' := (if v11 < 0 then 78 else 74, [some (.inr (.inr (.inl (some (44))))), some (.inl (a0)), some (.inl (I 45 (I 44 3).toNatClampNeg))], [], 0, 0, ix_mem 276 I11 J11 T11)) rfl trivial ?_
        refine ix_br (fun c12 => ?_) (fun c12 => ?_)
        · have h13 := h11.1 c12
          refine ix_go 1 (x' := (80, [some (.inr (.inr (.inl (some (44))))), some (.inl (a0)), some (.inl (I 45 (I 44 3).toNatClampNeg))], [.inl ((22 : Int32))], 0, 0, ix_mem 276 I11 J11 T11)) rfl trivial ?_
          exact ix_sp rfl ⟨Nat.le_refl _, Nat.le_refl _, trivial, hQ _ _ _ _ h13⟩
        · have h13 := h11.2 c12
          refine ix_go 2 (x' := (80, [some (.inr (.inr (.inl (some (44))))), some (.inl (a0)), some (.inl (I 45 (I 44 3).toNatClampNeg))], [.inl (I 45 (I 44 3).toNatClampNeg)], 0, 0, ix_mem 276 I11 J11 T11)) rfl trivial ?_
          exact ix_sp rfl ⟨Nat.le_refl _, Nat.le_refl _, trivial, hQ _ _ _ _ h13⟩
      · have h10 := h8.2 c9
        refine ix_go 2 (x' := (46, [some (.inr (.inr (.inl (some (44))))), some (.inl (a0)), some (.inl (I 45 (I 44 3).toNatClampNeg))], [.inl (a0), .inr (.inr (.inl (some (44))))], 0, 0, ix_mem 276 I8 J8 T8)) rfl trivial ?_
        refine ix_sp rfl ⟨rfl, ⟨ix_lt rfl, ix_eq rfl, ix_lt rfl⟩, ix_le rfl, Nat.le_refl _, Nat.le_refl _, tp_X7_tellNumber h10 (fun v14 I14 J14 T14 h14 => ?_)⟩
        change ix_W _ _ _ (49, [some (.inr (.inr (.inl (some (44))))), some (.inl (a0)), some (.inl (I 45 (I 44 3).toNatClampNeg))], [.inl (v14)], 0, 0, ix_mem 276 I14 J14 T14)
        exact ix_sp rfl ⟨Nat.le_refl _, Nat.le_refl _, trivial, hQ _ _ _ _ h14⟩
    · have h7 := h5.2 c6
      refine ix_go 2 (x' := (33, [some (.inr (.inr (.inl (some (44))))), some (.inl (a0)), some (.inl (I 45 (I 44 3).toNatClampNeg))], [.inl (a0), .inr (.inr (.inl (some (44))))], 0, 0, ix_mem 276 I5 J5 T5)) rfl trivial ?_
      refine ix_sp rfl ⟨rfl, ⟨ix_lt rfl, ix_eq rfl, ix_lt rfl⟩, ix_le rfl, Nat.le_refl _, Nat.le_refl _, tp_X7_tellWord h7 (fun v15 I15 J15 T15 h15 => ?_)⟩
      change ix_W _ _ _ (36, [some (.inr (.inr (.inl (some (44))))), some (.inl (a0)), some (.inl (I 45 (I 44 3).toNatClampNeg))], [.inl (v15)], 0, 0, ix_mem 276 I15 J15 T15)
      exact ix_sp rfl ⟨Nat.le_refl _, Nat.le_refl _, trivial, hQ _ _ _ _ h15⟩
  · have h2 := h.2 c1
    refine ix_go 1 (x' := (13, [some (.inr (.inr (.inl (some (44))))), some (.inl (a0)), none], [.inl ((21 : Int32))], 0, 0, ix_mem 276 I J T)) rfl trivial ?_
    exact ix_sp rfl ⟨Nat.le_refl _, Nat.le_refl _, trivial, hQ _ _ _ _ h2⟩
def wb_X7_tellTokens_25_14 (x2 : Int32) (I : Nat → Nat → Int32) (J : Nat → Nat → Int64) (T : Option Nat) (V25 : Int32 → (Nat → Nat → Int32) → (Nat → Nat → Int64) → Option Nat → Prop) (V14 : Int32 → Int32 → (Nat → Nat → Int32) → (Nat → Nat → Int64) → Option Nat → Prop) (P : (Nat → Nat → Int32) → (Nat → Nat → Int64) → Option Nat → Prop) : Prop := ((I 44 3 < I 44 2 → ix_inb (I 44 3) 600 = true ∧ ((I 45 (I 44 3).toNatClampNeg = (32 : Int32) → V25 (x2) (ix_u2 I 44 3 ((I 44 3) + ((1 : Int32)))) J T) ∧ (¬ (I 45 (I 44 3).toNatClampNeg = (32 : Int32)) → ix_inb (I 44 3) 600 = true ∧ ((I 45 (I 44 3).toNatClampNeg = (10 : Int32) → V25 (x2) (ix_u2 I 44 3 ((I 44 3) + ((1 : Int32)))) J T) ∧ (¬ (I 45 (I 44 3).toNatClampNeg = (10 : Int32)) → ix_inb (x2) 601 = true ∧ wp_X7_tellToken (x2) (ix_u2 I 47 (x2).toNatClampNeg (I 44 3)) J T (fun v17 I17 J17 T17 => ix_inb (x2) 601 = true ∧ ix_inb (x2) 601 = true ∧ (((ix_u2 I17 46 (x2).toNatClampNeg (v17)) 46 (x2).toNatClampNeg = (21 : Int32) → V14 ((0 : Int32)) (x2 + (1 : Int32)) (ix_u2 (ix_u2 I17 46 (x2).toNatClampNeg (v17)) 44 7 ((I17 44 7) + ((1 : Int32)))) J17 T17) ∧ (¬ ((ix_u2 I17 46 (x2).toNatClampNeg (v17)) 46 (x2).toNatClampNeg = (21 : Int32)) → ix_inb (x2) 601 = true ∧ (((ix_u2 I17 46 (x2).toNatClampNeg (v17)) 46 (x2).toNatClampNeg = (22 : Int32) → V14 ((0 : Int32)) (x2 + (1 : Int32)) (ix_u2 (ix_u2 I17 46 (x2).toNatClampNeg (v17)) 44 7 ((I17 44 7) + ((1 : Int32)))) J17 T17) ∧ (¬ ((ix_u2 I17 46 (x2).toNatClampNeg (v17)) 46 (x2).toNatClampNeg = (22 : Int32)) → V14 ((1 : Int32)) (x2 + (1 : Int32)) (ix_u2 (ix_u2 I17 46 (x2).toNatClampNeg (v17)) 44 7 ((I17 44 7) + ((1 : Int32)))) J17 T17)))))))))) ∧ (¬ (I 44 3 < I 44 2) → ix_inb (x2) 601 = true ∧ wp_X7_tellToken (x2) (ix_u2 I 47 (x2).toNatClampNeg (I 44 3)) J T (fun v30 I30 J30 T30 => ix_inb (x2) 601 = true ∧ ix_inb (x2) 601 = true ∧ (((ix_u2 I30 46 (x2).toNatClampNeg (v30)) 46 (x2).toNatClampNeg = (21 : Int32) → V14 ((0 : Int32)) (x2 + (1 : Int32)) (ix_u2 (ix_u2 I30 46 (x2).toNatClampNeg (v30)) 44 7 ((I30 44 7) + ((1 : Int32)))) J30 T30) ∧ (¬ ((ix_u2 I30 46 (x2).toNatClampNeg (v30)) 46 (x2).toNatClampNeg = (21 : Int32)) → ix_inb (x2) 601 = true ∧ (((ix_u2 I30 46 (x2).toNatClampNeg (v30)) 46 (x2).toNatClampNeg = (22 : Int32) → V14 ((0 : Int32)) (x2 + (1 : Int32)) (ix_u2 (ix_u2 I30 46 (x2).toNatClampNeg (v30)) 44 7 ((I30 44 7) + ((1 : Int32)))) J30 T30) ∧ (¬ ((ix_u2 I30 46 (x2).toNatClampNeg (v30)) 46 (x2).toNatClampNeg = (22 : Int32)) → V14 ((1 : Int32)) (x2 + (1 : Int32)) (ix_u2 (ix_u2 I30 46 (x2).toNatClampNeg (v30)) 44 7 ((I30 44 7) + ((1 : Int32)))) J30 T30)))))))
def wl_X7_tellTokens_25_14 (x2 : Int32) (I : Nat → Nat → Int32) (J : Nat → Nat → Int64) (T : Option Nat) (V14 : Int32 → Int32 → (Nat → Nat → Int32) → (Nat → Nat → Int64) → Option Nat → Prop) (P : (Nat → Nat → Int32) → (Nat → Nat → Int64) → Option Nat → Prop) : Prop := ∀ V : Int32 → (Nat → Nat → Int32) → (Nat → Nat → Int64) → Option Nat → Prop, (∀ (x2 : Int32) (I : Nat → Nat → Int32) (J : Nat → Nat → Int64) (T : Option Nat), wb_X7_tellTokens_25_14 x2 I J T V V14 P → V x2 I J T) → V x2 I J T
set_option maxRecDepth 20000 in
theorem tl_X7_tellTokens_25_14 {d : Nat} {x2 : Int32} {I : Nat → Nat → Int32} {J : Nat → Nat → Int64} {T : Option Nat} {V14 : Int32 → Int32 → (Nat → Nat → Int32) → (Nat → Nat → Int64) → Option Nat → Prop} {P : (Nat → Nat → Int32) → (Nat → Nat → Int64) → Option Nat → Prop} {Q : ix_Q} (h : wl_X7_tellTokens_25_14 x2 I J T V14 P) (hV14 : ∀ (x1 : Int32) (x2 : Int32) I J T, V14 x1 x2 I J T → ix_W (ix_C (d + 5)) (7, ix_lk ix_l106, none, 0, 0, Nat.blt 0 0, none) Q (14, [some (.inr (.inr (.inl (some (44))))), some (.inl (x1)), some (.inl (x2))], [], 0, 0, ix_mem 276 I J T)) (hQ : ∀ I J T, P I J T → Q none (ix_mem 276 I J T)) : ix_W (ix_C (d + 5)) (7, ix_lk ix_l106, none, 0, 0, Nat.blt 0 0, none) Q (25, [some (.inr (.inr (.inl (some (44))))), none, some (.inl (x2))], [], 0, 0, ix_mem 276 I J T) := by
  refine h (fun x2 I J T => ix_W (ix_C (d + 5)) (7, ix_lk ix_l106, none, 0, 0, Nat.blt 0 0, none) Q (25, [some (.inr (.inr (.inl (some (44))))), none, some (.inl (x2))], [], 0, 0, ix_mem 276 I J T)) ?_
  intro x2 I J T hb
  unfold wb_X7_tellTokens_25_14 at hb
  refine ix_go 5 (x' := (if I 44 3 < I 44 2 then 36 else 77, [some (.inr (.inr (.inl (some (44))))), none, some (.inl (x2))], [], 0, 0, ix_mem 276 I J T)) rfl ⟨rfl, rfl, rfl, rfl⟩ ?_
  refine ix_br (fun c5 => ?_) (fun c5 => ?_)
  · have h6 := hb.1 c5
    obtain ⟨p7, h8⟩ := h6
    refine ix_go 7 (x' := (if I 45 (I 44 3).toNatClampNeg = (32 : Int32) then 64 else 50, [some (.inr (.inr (.inl (some (44))))), none, some (.inl (x2))], [], 0, 0, ix_mem 276 I J T)) rfl ⟨rfl, rfl, rfl, rfl, rfl, rfl, p7⟩ ?_
    refine ix_br (fun c9 => ?_) (fun c9 => ?_)
    · have h10 := h8.1 c9
      refine ix_go 7 (x' := (25, [some (.inr (.inr (.inl (some (44))))), none, some (.inl (x2))], [], 0, 0, ix_mem 276 (ix_u2 I 44 3 ((I 44 3) + ((1 : Int32)))) J T)) rfl ⟨rfl, rfl, rfl, rfl⟩ ?_
      refine ix_subW ([some (.inr (.inr (.inl (some (44))))), none, some (.inl (x2))]) (ix_subS (ix_subS (ix_subS (ix_sub0)))) ?_
      exact h10
    · have h10 := h8.2 c9
      obtain ⟨p11, h12⟩ := h10
      refine ix_go 7 (x' := (if I 45 (I 44 3).toNatClampNeg = (10 : Int32) then 64 else 77, [some (.inr (.inr (.inl (some (44))))), none, some (.inl (x2))], [], 0, 0, ix_mem 276 I J T)) rfl ⟨rfl, rfl, rfl, rfl, rfl, rfl, p11⟩ ?_
      refine ix_br (fun c13 => ?_) (fun c13 => ?_)
      · have h14 := h12.1 c13
        refine ix_go 7 (x' := (25, [some (.inr (.inr (.inl (some (44))))), none, some (.inl (x2))], [], 0, 0, ix_mem 276 (ix_u2 I 44 3 ((I 44 3) + ((1 : Int32)))) J T)) rfl ⟨rfl, rfl, rfl, rfl⟩ ?_
        refine ix_subW ([some (.inr (.inr (.inl (some (44))))), none, some (.inl (x2))]) (ix_subS (ix_subS (ix_subS (ix_sub0)))) ?_
        exact h14
      · have h14 := h12.2 c13
        obtain ⟨p15, h16⟩ := h14
        refine ix_go 7 (x' := (88, [some (.inr (.inr (.inl (some (44))))), none, some (.inl (x2))], [.inr (.inr (.inl (some (44))))], 0, 0, ix_mem 276 (ix_u2 I 47 (x2).toNatClampNeg (I 44 3)) J T)) rfl ⟨rfl, rfl, rfl, rfl, rfl, rfl, p15⟩ ?_
        refine ix_go 4 (x' := (94, [some (.inr (.inr (.inl (some (44))))), none, some (.inl (x2))], [.inl (x2), .inr (.inr (.inl (some (44)))), .inl (x2), .inr (.inr (.inl (some (46))))], 0, 0, ix_mem 276 (ix_u2 I 47 (x2).toNatClampNeg (I 44 3)) J T)) rfl ⟨rfl, rfl⟩ ?_
        refine ix_sp rfl ⟨rfl, ⟨ix_lt rfl, ix_eq rfl, ix_lt rfl⟩, ix_le rfl, Nat.le_refl _, Nat.le_refl _, tp_X7_tellToken h16 (fun v17 I17 J17 T17 h17 => ?_)⟩
        change ix_W _ _ _ (97, [some (.inr (.inr (.inl (some (44))))), none, some (.inl (x2))], [.inl (v17), .inl (x2), .inr (.inr (.inl (some (46))))], 0, 0, ix_mem 276 I17 J17 T17)
        obtain ⟨p18, h19⟩ := h17
        obtain ⟨p20, h21⟩ := h19
        refine ix_go 7 (x' := (if (ix_u2 I17 46 (x2).toNatClampNeg (v17)) 46 (x2).toNatClampNeg = (21 : Int32) then 124 else 109, [some (.inr (.inr (.inl (some (44))))), none, some (.inl (x2))], [], 0, 0, ix_mem 276 (ix_u2 I17 46 (x2).toNatClampNeg (v17)) J17 T17)) rfl ⟨rfl, rfl, p18, rfl, rfl, rfl, rfl, p20⟩ ?_
        refine ix_br (fun c22 => ?_) (fun c22 => ?_)
        · have h23 := h21.1 c22
          refine ix_go 7 (x' := (133, [some (.inr (.inr (.inl (some (44))))), some (.inl ((0 : Int32))), some (.inl (x2))], [.inl ((I17 44 7) + ((1 : Int32))), .inr (.inr (.inl (some (44))))], 0, 0, ix_mem 276 (ix_u2 I17 46 (x2).toNatClampNeg (v17)) J17 T17)) rfl ⟨rfl, rfl⟩ ?_
          refine ix_go 3 (x' := (14, [some (.inr (.inr (.inl (some (44))))), some (.inl ((0 : Int32))), some (.inl (x2 + (1 : Int32)))], [], 0, 0, ix_mem 276 (ix_u2 (ix_u2 I17 46 (x2).toNatClampNeg (v17)) 44 7 ((I17 44 7) + ((1 : Int32)))) J17 T17)) rfl ⟨rfl, rfl⟩ ?_
          refine ix_subW ([some (.inr (.inr (.inl (some (44))))), some (.inl ((0 : Int32))), some (.inl (x2 + (1 : Int32)))]) (ix_subS (ix_subS (ix_subS (ix_sub0)))) ?_
          exact hV14 _ _ _ _ _ h23
        · have h23 := h21.2 c22
          obtain ⟨p24, h25⟩ := h23
          refine ix_go 6 (x' := (if (ix_u2 I17 46 (x2).toNatClampNeg (v17)) 46 (x2).toNatClampNeg = (22 : Int32) then 124 else 120, [some (.inr (.inr (.inl (some (44))))), none, some (.inl (x2))], [], 0, 0, ix_mem 276 (ix_u2 I17 46 (x2).toNatClampNeg (v17)) J17 T17)) rfl ⟨rfl, rfl, rfl, rfl, p24⟩ ?_
          refine ix_br (fun c26 => ?_) (fun c26 => ?_)
          · have h27 := h25.1 c26
            refine ix_go 7 (x' := (133, [some (.inr (.inr (.inl (some (44))))), some (.inl ((0 : Int32))), some (.inl (x2))], [.inl ((I17 44 7) + ((1 : Int32))), .inr (.inr (.inl (some (44))))], 0, 0, ix_mem 276 (ix_u2 I17 46 (x2).toNatClampNeg (v17)) J17 T17)) rfl ⟨rfl, rfl⟩ ?_
            refine ix_go 3 (x' := (14, [some (.inr (.inr (.inl (some (44))))), some (.inl ((0 : Int32))), some (.inl (x2 + (1 : Int32)))], [], 0, 0, ix_mem 276 (ix_u2 (ix_u2 I17 46 (x2).toNatClampNeg (v17)) 44 7 ((I17 44 7) + ((1 : Int32)))) J17 T17)) rfl ⟨rfl, rfl⟩ ?_
            refine ix_subW ([some (.inr (.inr (.inl (some (44))))), some (.inl ((0 : Int32))), some (.inl (x2 + (1 : Int32)))]) (ix_subS (ix_subS (ix_subS (ix_sub0)))) ?_
            exact hV14 _ _ _ _ _ h27
          · have h27 := h25.2 c26
            refine ix_go 7 (x' := (132, [some (.inr (.inr (.inl (some (44))))), some (.inl ((1 : Int32))), some (.inl (x2))], [.inl ((1 : Int32)), .inl (I17 44 7), .inr (.inr (.inl (some (44))))], 0, 0, ix_mem 276 (ix_u2 I17 46 (x2).toNatClampNeg (v17)) J17 T17)) rfl ⟨rfl, rfl⟩ ?_
            refine ix_go 4 (x' := (14, [some (.inr (.inr (.inl (some (44))))), some (.inl ((1 : Int32))), some (.inl (x2 + (1 : Int32)))], [], 0, 0, ix_mem 276 (ix_u2 (ix_u2 I17 46 (x2).toNatClampNeg (v17)) 44 7 ((I17 44 7) + ((1 : Int32)))) J17 T17)) rfl ⟨rfl, rfl⟩ ?_
            refine ix_subW ([some (.inr (.inr (.inl (some (44))))), some (.inl ((1 : Int32))), some (.inl (x2 + (1 : Int32)))]) (ix_subS (ix_subS (ix_subS (ix_sub0)))) ?_
            exact hV14 _ _ _ _ _ h27
  · have h6 := hb.2 c5
    obtain ⟨p28, h29⟩ := h6
    refine ix_go 7 (x' := (88, [some (.inr (.inr (.inl (some (44))))), none, some (.inl (x2))], [.inr (.inr (.inl (some (44))))], 0, 0, ix_mem 276 (ix_u2 I 47 (x2).toNatClampNeg (I 44 3)) J T)) rfl ⟨rfl, rfl, rfl, rfl, rfl, rfl, p28⟩ ?_
    refine ix_go 4 (x' := (94, [some (.inr (.inr (.inl (some (44))))), none, some (.inl (x2))], [.inl (x2), .inr (.inr (.inl (some (44)))), .inl (x2), .inr (.inr (.inl (some (46))))], 0, 0, ix_mem 276 (ix_u2 I 47 (x2).toNatClampNeg (I 44 3)) J T)) rfl ⟨rfl, rfl⟩ ?_
    refine ix_sp rfl ⟨rfl, ⟨ix_lt rfl, ix_eq rfl, ix_lt rfl⟩, ix_le rfl, Nat.le_refl _, Nat.le_refl _, tp_X7_tellToken h29 (fun v30 I30 J30 T30 h30 => ?_)⟩
    change ix_W _ _ _ (97, [some (.inr (.inr (.inl (some (44))))), none, some (.inl (x2))], [.inl (v30), .inl (x2), .inr (.inr (.inl (some (46))))], 0, 0, ix_mem 276 I30 J30 T30)
    obtain ⟨p31, h32⟩ := h30
    obtain ⟨p33, h34⟩ := h32
    refine ix_go 7 (x' := (if (ix_u2 I30 46 (x2).toNatClampNeg (v30)) 46 (x2).toNatClampNeg = (21 : Int32) then 124 else 109, [some (.inr (.inr (.inl (some (44))))), none, some (.inl (x2))], [], 0, 0, ix_mem 276 (ix_u2 I30 46 (x2).toNatClampNeg (v30)) J30 T30)) rfl ⟨rfl, rfl, p31, rfl, rfl, rfl, rfl, p33⟩ ?_
    refine ix_br (fun c35 => ?_) (fun c35 => ?_)
    · have h36 := h34.1 c35
      refine ix_go 7 (x' := (133, [some (.inr (.inr (.inl (some (44))))), some (.inl ((0 : Int32))), some (.inl (x2))], [.inl ((I30 44 7) + ((1 : Int32))), .inr (.inr (.inl (some (44))))], 0, 0, ix_mem 276 (ix_u2 I30 46 (x2).toNatClampNeg (v30)) J30 T30)) rfl ⟨rfl, rfl⟩ ?_
      refine ix_go 3 (x' := (14, [some (.inr (.inr (.inl (some (44))))), some (.inl ((0 : Int32))), some (.inl (x2 + (1 : Int32)))], [], 0, 0, ix_mem 276 (ix_u2 (ix_u2 I30 46 (x2).toNatClampNeg (v30)) 44 7 ((I30 44 7) + ((1 : Int32)))) J30 T30)) rfl ⟨rfl, rfl⟩ ?_
      refine ix_subW ([some (.inr (.inr (.inl (some (44))))), some (.inl ((0 : Int32))), some (.inl (x2 + (1 : Int32)))]) (ix_subS (ix_subS (ix_subS (ix_sub0)))) ?_
      exact hV14 _ _ _ _ _ h36
    · have h36 := h34.2 c35
      obtain ⟨p37, h38⟩ := h36
      refine ix_go 6 (x' := (if (ix_u2 I30 46 (x2).toNatClampNeg (v30)) 46 (x2).toNatClampNeg = (22 : Int32) then 124 else 120, [some (.inr (.inr (.inl (some (44))))), none, some (.inl (x2))], [], 0, 0, ix_mem 276 (ix_u2 I30 46 (x2).toNatClampNeg (v30)) J30 T30)) rfl ⟨rfl, rfl, rfl, rfl, p37⟩ ?_
      refine ix_br (fun c39 => ?_) (fun c39 => ?_)
      · have h40 := h38.1 c39
        refine ix_go 7 (x' := (133, [some (.inr (.inr (.inl (some (44))))), some (.inl ((0 : Int32))), some (.inl (x2))], [.inl ((I30 44 7) + ((1 : Int32))), .inr (.inr (.inl (some (44))))], 0, 0, ix_mem 276 (ix_u2 I30 46 (x2).toNatClampNeg (v30)) J30 T30)) rfl ⟨rfl, rfl⟩ ?_
        refine ix_go 3 (x' := (14, [some (.inr (.inr (.inl (some (44))))), some (.inl ((0 : Int32))), some (.inl (x2 + (1 : Int32)))], [], 0, 0, ix_mem 276 (ix_u2 (ix_u2 I30 46 (x2).toNatClampNeg (v30)) 44 7 ((I30 44 7) + ((1 : Int32)))) J30 T30)) rfl ⟨rfl, rfl⟩ ?_
        refine ix_subW ([some (.inr (.inr (.inl (some (44))))), some (.inl ((0 : Int32))), some (.inl (x2 + (1 : Int32)))]) (ix_subS (ix_subS (ix_subS (ix_sub0)))) ?_
        exact hV14 _ _ _ _ _ h40
      · have h40 := h38.2 c39
        refine ix_go 7 (x' := (132, [some (.inr (.inr (.inl (some (44))))), some (.inl ((1 : Int32))), some (.inl (x2))], [.inl ((1 : Int32)), .inl (I30 44 7), .inr (.inr (.inl (some (44))))], 0, 0, ix_mem 276 (ix_u2 I30 46 (x2).toNatClampNeg (v30)) J30 T30)) rfl ⟨rfl, rfl⟩ ?_
        refine ix_go 4 (x' := (14, [some (.inr (.inr (.inl (some (44))))), some (.inl ((1 : Int32))), some (.inl (x2 + (1 : Int32)))], [], 0, 0, ix_mem 276 (ix_u2 (ix_u2 I30 46 (x2).toNatClampNeg (v30)) 44 7 ((I30 44 7) + ((1 : Int32)))) J30 T30)) rfl ⟨rfl, rfl⟩ ?_
        refine ix_subW ([some (.inr (.inr (.inl (some (44))))), some (.inl ((1 : Int32))), some (.inl (x2 + (1 : Int32)))]) (ix_subS (ix_subS (ix_subS (ix_sub0)))) ?_
        exact hV14 _ _ _ _ _ h40
def wb_X7_tellTokens_14 (x1 : Int32) (x2 : Int32) (I : Nat → Nat → Int32) (J : Nat → Nat → Int64) (T : Option Nat) (V14 : Int32 → Int32 → (Nat → Nat → Int32) → (Nat → Nat → Int64) → Option Nat → Prop) (P : (Nat → Nat → Int32) → (Nat → Nat → Int64) → Option Nat → Prop) : Prop := ((x2 ≤ (600 : Int32) → ((x1 = 0 → P I J T) ∧ (¬ (x1 = 0) → wl_X7_tellTokens_25_14 (x2) I J T V14 P))) ∧ (¬ (x2 ≤ (600 : Int32)) → P I J T))
def wl_X7_tellTokens_14 (x1 : Int32) (x2 : Int32) (I : Nat → Nat → Int32) (J : Nat → Nat → Int64) (T : Option Nat) (P : (Nat → Nat → Int32) → (Nat → Nat → Int64) → Option Nat → Prop) : Prop := ∀ V : Int32 → Int32 → (Nat → Nat → Int32) → (Nat → Nat → Int64) → Option Nat → Prop, (∀ (x1 : Int32) (x2 : Int32) (I : Nat → Nat → Int32) (J : Nat → Nat → Int64) (T : Option Nat), wb_X7_tellTokens_14 x1 x2 I J T V P → V x1 x2 I J T) → V x1 x2 I J T
set_option maxRecDepth 20000 in
theorem tl_X7_tellTokens_14 {d : Nat} {x1 : Int32} {x2 : Int32} {I : Nat → Nat → Int32} {J : Nat → Nat → Int64} {T : Option Nat} {P : (Nat → Nat → Int32) → (Nat → Nat → Int64) → Option Nat → Prop} {Q : ix_Q} (h : wl_X7_tellTokens_14 x1 x2 I J T P) (hQ : ∀ I J T, P I J T → Q none (ix_mem 276 I J T)) : ix_W (ix_C (d + 5)) (7, ix_lk ix_l106, none, 0, 0, Nat.blt 0 0, none) Q (14, [some (.inr (.inr (.inl (some (44))))), some (.inl (x1)), some (.inl (x2))], [], 0, 0, ix_mem 276 I J T) := by
  refine h (fun x1 x2 I J T => ix_W (ix_C (d + 5)) (7, ix_lk ix_l106, none, 0, 0, Nat.blt 0 0, none) Q (14, [some (.inr (.inr (.inl (some (44))))), some (.inl (x1)), some (.inl (x2))], [], 0, 0, ix_mem 276 I J T)) ?_
  intro x1 x2 I J T hb
  unfold wb_X7_tellTokens_14 at hb
  refine ix_go 3 (x' := (if x2 ≤ (600 : Int32) then 21 else 142, [some (.inr (.inr (.inl (some (44))))), some (.inl (x1)), some (.inl (x2))], [], 0, 0, ix_mem 276 I J T)) rfl trivial ?_
  refine ix_br (fun c1 => ?_) (fun c1 => ?_)
  · have h2 := hb.1 c1
    refine ix_go 2 (x' := (if x1 = 0 then 142 else 25, [some (.inr (.inr (.inl (some (44))))), some (.inl (x1)), some (.inl (x2))], [], 0, 0, ix_mem 276 I J T)) rfl trivial ?_
    refine ix_br (fun c3 => ?_) (fun c3 => ?_)
    · have h4 := h2.1 c3
      exact ix_sp rfl ⟨Nat.le_refl _, Nat.le_refl _, rfl, hQ _ _ _ h4⟩
    · have h4 := h2.2 c3
      refine ix_subW ([some (.inr (.inr (.inl (some (44))))), none, some (.inl (x2))]) (ix_subS (ix_subN (ix_subS (ix_sub0)))) ?_
      exact tl_X7_tellTokens_25_14 h4 (fun _ _ I J T hv => hv) hQ
  · have h2 := hb.2 c1
    exact ix_sp rfl ⟨Nat.le_refl _, Nat.le_refl _, rfl, hQ _ _ _ h2⟩
def wp_X7_tellTokens (I : Nat → Nat → Int32) (J : Nat → Nat → Int64) (T : Option Nat) (P : (Nat → Nat → Int32) → (Nat → Nat → Int64) → Option Nat → Prop) : Prop := wl_X7_tellTokens_14 ((1 : Int32)) ((0 : Int32)) (ix_u2 (ix_u2 I 44 3 ((0 : Int32))) 44 7 ((0 : Int32))) J T P
set_option maxRecDepth 20000 in
theorem tp_X7_tellTokens {d : Nat} {I : Nat → Nat → Int32} {J : Nat → Nat → Int64} {T : Option Nat} {P : (Nat → Nat → Int32) → (Nat → Nat → Int64) → Option Nat → Prop} {Q : ix_Q} (h : wp_X7_tellTokens I J T P) (hQ : ∀ I J T, P I J T → Q none (ix_mem 276 I J T)) : ix_C (d + 6) 106 [.inr (.inr (.inl (some (44))))] (ix_mem 276 I J T) Q := by
  unfold wp_X7_tellTokens at h
  refine ix_enter (ls := [some (.inr (.inr (.inl (some (44))))), none, none]) rfl rfl rfl (Nat.le_of_ble_eq_true rfl) ?_
  refine ix_go 7 (x' := (11, [some (.inr (.inr (.inl (some (44))))), none, none], [.inl ((1 : Int32))], 0, 0, ix_mem 276 (ix_u2 (ix_u2 I 44 3 ((0 : Int32))) 44 7 ((0 : Int32))) J T)) rfl ⟨rfl, rfl, rfl, rfl⟩ ?_
  refine ix_go 3 (x' := (14, [some (.inr (.inr (.inl (some (44))))), some (.inl ((1 : Int32))), some (.inl ((0 : Int32)))], [], 0, 0, ix_mem 276 (ix_u2 (ix_u2 I 44 3 ((0 : Int32))) 44 7 ((0 : Int32))) J T)) rfl trivial ?_
  refine ix_subW ([some (.inr (.inr (.inl (some (44))))), some (.inl ((1 : Int32))), some (.inl ((0 : Int32)))]) (ix_subS (ix_subS (ix_subS (ix_sub0)))) ?_
  exact tl_X7_tellTokens_14 h hQ
def wp_X9_count_59 (I : Nat → Nat → Int32) (J : Nat → Nat → Int64) (T : Option Nat) (P : Int32 → (Nat → Nat → Int32) → (Nat → Nat → Int64) → Option Nat → Prop) : Prop := P (I 59 0) I J T
set_option maxRecDepth 20000 in
theorem tp_X9_count_59 {d : Nat} {I : Nat → Nat → Int32} {J : Nat → Nat → Int64} {T : Option Nat} {P : Int32 → (Nat → Nat → Int32) → (Nat → Nat → Int64) → Option Nat → Prop} {Q : ix_Q} (h : wp_X9_count_59 I J T P) (hQ : ∀ v I J T, P v I J T → Q (some (.inl v)) (ix_mem 276 I J T)) : ix_C (d + 1) 107 [.inr (.inr (.inl (some (59))))] (ix_mem 276 I J T) Q := by
  unfold wp_X9_count_59 at h
  refine ix_enter (ls := [some (.inr (.inr (.inl (some (59)))))]) rfl rfl rfl (Nat.le_of_ble_eq_true rfl) ?_
  refine ix_go 2 (x' := (4, [some (.inr (.inr (.inl (some (59)))))], [.inl (I 59 0)], 0, 0, ix_mem 276 I J T)) rfl ⟨rfl, rfl⟩ ?_
  exact ix_sp rfl ⟨Nat.le_refl _, Nat.le_refl _, trivial, hQ _ _ _ _ h⟩
def wp_X9_count_68 (I : Nat → Nat → Int32) (J : Nat → Nat → Int64) (T : Option Nat) (P : Int32 → (Nat → Nat → Int32) → (Nat → Nat → Int64) → Option Nat → Prop) : Prop := P (I 68 0) I J T
set_option maxRecDepth 20000 in
theorem tp_X9_count_68 {d : Nat} {I : Nat → Nat → Int32} {J : Nat → Nat → Int64} {T : Option Nat} {P : Int32 → (Nat → Nat → Int32) → (Nat → Nat → Int64) → Option Nat → Prop} {Q : ix_Q} (h : wp_X9_count_68 I J T P) (hQ : ∀ v I J T, P v I J T → Q (some (.inl v)) (ix_mem 276 I J T)) : ix_C (d + 1) 107 [.inr (.inr (.inl (some (68))))] (ix_mem 276 I J T) Q := by
  unfold wp_X9_count_68 at h
  refine ix_enter (ls := [some (.inr (.inr (.inl (some (68)))))]) rfl rfl rfl (Nat.le_of_ble_eq_true rfl) ?_
  refine ix_go 2 (x' := (4, [some (.inr (.inr (.inl (some (68)))))], [.inl (I 68 0)], 0, 0, ix_mem 276 I J T)) rfl ⟨rfl, rfl⟩ ?_
  exact ix_sp rfl ⟨Nat.le_refl _, Nat.le_refl _, trivial, hQ _ _ _ _ h⟩
def wp_X9_count_77 (I : Nat → Nat → Int32) (J : Nat → Nat → Int64) (T : Option Nat) (P : Int32 → (Nat → Nat → Int32) → (Nat → Nat → Int64) → Option Nat → Prop) : Prop := P (I 77 0) I J T
set_option maxRecDepth 20000 in
theorem tp_X9_count_77 {d : Nat} {I : Nat → Nat → Int32} {J : Nat → Nat → Int64} {T : Option Nat} {P : Int32 → (Nat → Nat → Int32) → (Nat → Nat → Int64) → Option Nat → Prop} {Q : ix_Q} (h : wp_X9_count_77 I J T P) (hQ : ∀ v I J T, P v I J T → Q (some (.inl v)) (ix_mem 276 I J T)) : ix_C (d + 1) 107 [.inr (.inr (.inl (some (77))))] (ix_mem 276 I J T) Q := by
  unfold wp_X9_count_77 at h
  refine ix_enter (ls := [some (.inr (.inr (.inl (some (77)))))]) rfl rfl rfl (Nat.le_of_ble_eq_true rfl) ?_
  refine ix_go 2 (x' := (4, [some (.inr (.inr (.inl (some (77)))))], [.inl (I 77 0)], 0, 0, ix_mem 276 I J T)) rfl ⟨rfl, rfl⟩ ?_
  exact ix_sp rfl ⟨Nat.le_refl _, Nat.le_refl _, trivial, hQ _ _ _ _ h⟩
def wp_X9_count_86 (I : Nat → Nat → Int32) (J : Nat → Nat → Int64) (T : Option Nat) (P : Int32 → (Nat → Nat → Int32) → (Nat → Nat → Int64) → Option Nat → Prop) : Prop := P (I 86 0) I J T
set_option maxRecDepth 20000 in
theorem tp_X9_count_86 {d : Nat} {I : Nat → Nat → Int32} {J : Nat → Nat → Int64} {T : Option Nat} {P : Int32 → (Nat → Nat → Int32) → (Nat → Nat → Int64) → Option Nat → Prop} {Q : ix_Q} (h : wp_X9_count_86 I J T P) (hQ : ∀ v I J T, P v I J T → Q (some (.inl v)) (ix_mem 276 I J T)) : ix_C (d + 1) 107 [.inr (.inr (.inl (some (86))))] (ix_mem 276 I J T) Q := by
  unfold wp_X9_count_86 at h
  refine ix_enter (ls := [some (.inr (.inr (.inl (some (86)))))]) rfl rfl rfl (Nat.le_of_ble_eq_true rfl) ?_
  refine ix_go 2 (x' := (4, [some (.inr (.inr (.inl (some (86)))))], [.inl (I 86 0)], 0, 0, ix_mem 276 I J T)) rfl ⟨rfl, rfl⟩ ?_
  exact ix_sp rfl ⟨Nat.le_refl _, Nat.le_refl _, trivial, hQ _ _ _ _ h⟩
def wp_X7_blame (a0 : Int32) (I : Nat → Nat → Int32) (J : Nat → Nat → Int64) (T : Option Nat) (P : (Nat → Nat → Int32) → (Nat → Nat → Int64) → Option Nat → Prop) : Prop := ((I 44 10 = 0 → ((I 44 9 = (22 : Int32) → ix_inb (I 44 8) 601 = true ∧ P (ix_u2 (ix_u2 I 44 10 ((1 : Int32))) 44 11 (I 47 (I 44 8).toNatClampNeg)) J T) ∧ (¬ (I 44 9 = (22 : Int32)) → ix_inb (I 44 8) 601 = true ∧ P (ix_u2 (ix_u2 I 44 10 (a0)) 44 11 (I 47 (I 44 8).toNatClampNeg)) J T))) ∧ (¬ (I 44 10 = 0) → P I J T))
set_option maxRecDepth 20000 in
theorem tp_X7_blame {d : Nat} {a0 : Int32} {I : Nat → Nat → Int32} {J : Nat → Nat → Int64} {T : Option Nat} {P : (Nat → Nat → Int32) → (Nat → Nat → Int64) → Option Nat → Prop} {Q : ix_Q} (h : wp_X7_blame a0 I J T P) (hQ : ∀ I J T, P I J T → Q none (ix_mem 276 I J T)) : ix_C (d + 1) 108 [.inr (.inr (.inl (some (44)))), .inl (a0)] (ix_mem 276 I J T) Q := by
  unfold wp_X7_blame at h
  refine ix_enter (ls := [some (.inr (.inr (.inl (some (44))))), some (.inl (a0))]) rfl rfl rfl (Nat.le_of_ble_eq_true rfl) ?_
  refine ix_go 3 (x' := (if I 44 10 = 0 then 7 else 38, [some (.inr (.inr (.inl (some (44))))), some (.inl (a0))], [], 0, 0, ix_mem 276 I J T)) rfl ⟨rfl, rfl⟩ ?_
  refine ix_br (fun c1 => ?_) (fun c1 => ?_)
  · have h2 := h.1 c1
    refine ix_go 5 (x' := (if I 44 9 = (22 : Int32) then 17 else 21, [some (.inr (.inr (.inl (some (44))))), some (.inl (a0))], [.inr (.inr (.inl (some (44))))], 0, 0, ix_mem 276 I J T)) rfl ⟨rfl, rfl⟩ ?_
    refine ix_br (fun c3 => ?_) (fun c3 => ?_)
    · have h4 := h2.1 c3
      obtain ⟨p5, h6⟩ := h4
      refine ix_go 10 (x' := (38, [some (.inr (.inr (.inl (some (44))))), some (.inl (a0))], [], 0, 0, ix_mem 276 (ix_u2 (ix_u2 I 44 10 ((1 : Int32))) 44 11 (I 47 (I 44 8).toNatClampNeg)) J T)) rfl ⟨rfl, rfl, rfl, rfl, rfl, rfl, rfl, rfl, p5, rfl, rfl⟩ ?_
      exact ix_sp rfl ⟨Nat.le_refl _, Nat.le_refl _, rfl, hQ _ _ _ h6⟩
    · have h4 := h2.2 c3
      obtain ⟨p7, h8⟩ := h4
      refine ix_go 9 (x' := (38, [some (.inr (.inr (.inl (some (44))))), some (.inl (a0))], [], 0, 0, ix_mem 276 (ix_u2 (ix_u2 I 44 10 (a0)) 44 11 (I 47 (I 44 8).toNatClampNeg)) J T)) rfl ⟨rfl, rfl, rfl, rfl, rfl, rfl, rfl, rfl, p7, rfl, rfl⟩ ?_
      exact ix_sp rfl ⟨Nat.le_refl _, Nat.le_refl _, rfl, hQ _ _ _ h8⟩
  · have h2 := h.2 c1
    exact ix_sp rfl ⟨Nat.le_refl _, Nat.le_refl _, rfl, hQ _ _ _ h2⟩
def wb_X7_isNamed_2 (x1 : Int32) (x2 : Int32) (I : Nat → Nat → Int32) (J : Nat → Nat → Int64) (T : Option Nat) (V2 : Int32 → Int32 → (Nat → Nat → Int32) → (Nat → Nat → Int64) → Option Nat → Prop) (P : Int32 → (Nat → Nat → Int32) → (Nat → Nat → Int64) → Option Nat → Prop) : Prop := ((x2 < x1 → ix_inb (x2) 12 = true ∧ ix_inb (I 44 8) 601 = true ∧ ((lg_cmp (J 49 (x2).toNatClampNeg) (J 48 (I 44 8).toNatClampNeg) = 0 → P ((1 : Int32)) I J T) ∧ (¬ (lg_cmp (J 49 (x2).toNatClampNeg) (J 48 (I 44 8).toNatClampNeg) = 0) → V2 (x1) (x2 + (1 : Int32)) I J T))) ∧ (¬ (x2 < x1) → P ((0 : Int32)) I J T))
def wl_X7_isNamed_2 (x1 : Int32) (x2 : Int32) (I : Nat → Nat → Int32) (J : Nat → Nat → Int64) (T : Option Nat) (P : Int32 → (Nat → Nat → Int32) → (Nat → Nat → Int64) → Option Nat → Prop) : Prop := ∀ V : Int32 → Int32 → (Nat → Nat → Int32) → (Nat → Nat → Int64) → Option Nat → Prop, (∀ (x1 : Int32) (x2 : Int32) (I : Nat → Nat → Int32) (J : Nat → Nat → Int64) (T : Option Nat), wb_X7_isNamed_2 x1 x2 I J T V P → V x1 x2 I J T) → V x1 x2 I J T
set_option maxRecDepth 20000 in
theorem tl_X7_isNamed_2 {d : Nat} {x1 : Int32} {x2 : Int32} {I : Nat → Nat → Int32} {J : Nat → Nat → Int64} {T : Option Nat} {P : Int32 → (Nat → Nat → Int32) → (Nat → Nat → Int64) → Option Nat → Prop} {Q : ix_Q} (h : wl_X7_isNamed_2 x1 x2 I J T P) (hQ : ∀ v I J T, P v I J T → Q (some (.inl v)) (ix_mem 276 I J T)) : ix_W (ix_C d) (7, ix_lk ix_l109, (some .boolean), 0, 0, Nat.blt 0 0, none) Q (2, [some (.inr (.inr (.inl (some (44))))), some (.inl (x1)), some (.inl (x2))], [], 0, 0, ix_mem 276 I J T) := by
  refine h (fun x1 x2 I J T => ix_W (ix_C d) (7, ix_lk ix_l109, (some .boolean), 0, 0, Nat.blt 0 0, none) Q (2, [some (.inr (.inr (.inl (some (44))))), some (.inl (x1)), some (.inl (x2))], [], 0, 0, ix_mem 276 I J T)) ?_
  intro x1 x2 I J T hb
  unfold wb_X7_isNamed_2 at hb
  refine ix_go 3 (x' := (if x2 < x1 then 7 else 34, [some (.inr (.inr (.inl (some (44))))), some (.inl (x1)), some (.inl (x2))], [], 0, 0, ix_mem 276 I J T)) rfl trivial ?_
  refine ix_br (fun c1 => ?_) (fun c1 => ?_)
  · have h2 := hb.1 c1
    obtain ⟨p3, h4⟩ := h2
    obtain ⟨p5, h6⟩ := h4
    refine ix_go 11 (x' := (if lg_cmp (J 49 (x2).toNatClampNeg) (J 48 (I 44 8).toNatClampNeg) = 0 then 26 else 28, [some (.inr (.inr (.inl (some (44))))), some (.inl (x1)), some (.inl (x2))], [], 0, 0, ix_mem 276 I J T)) rfl ⟨rfl, rfl, rfl, rfl, p3, rfl, rfl, rfl, rfl, rfl, rfl, p5⟩ ?_
    refine ix_br (fun c7 => ?_) (fun c7 => ?_)
    · have h8 := h6.1 c7
      refine ix_go 1 (x' := (27, [some (.inr (.inr (.inl (some (44))))), some (.inl (x1)), some (.inl (x2))], [.inl ((1 : Int32))], 0, 0, ix_mem 276 I J T)) rfl trivial ?_
      exact ix_sp rfl ⟨Nat.le_refl _, Nat.le_refl _, ix_01_ok rfl, hQ _ _ _ _ h8⟩
    · have h8 := h6.2 c7
      refine ix_go 2 (x' := (2, [some (.inr (.inr (.inl (some (44))))), some (.inl (x1)), some (.inl (x2 + (1 : Int32)))], [], 0, 0, ix_mem 276 I J T)) rfl trivial ?_
      refine ix_subW ([some (.inr (.inr (.inl (some (44))))), some (.inl (x1)), some (.inl (x2 + (1 : Int32)))]) (ix_subS (ix_subS (ix_subS (ix_sub0)))) ?_
      exact h8
  · have h2 := hb.2 c1
    refine ix_go 1 (x' := (35, [some (.inr (.inr (.inl (some (44))))), some (.inl (x1)), some (.inl (x2))], [.inl ((0 : Int32))], 0, 0, ix_mem 276 I J T)) rfl trivial ?_
    exact ix_sp rfl ⟨Nat.le_refl _, Nat.le_refl _, ix_01_ok rfl, hQ _ _ _ _ h2⟩
def wp_X7_isNamed (a0 : Int32) (I : Nat → Nat → Int32) (J : Nat → Nat → Int64) (T : Option Nat) (P : Int32 → (Nat → Nat → Int32) → (Nat → Nat → Int64) → Option Nat → Prop) : Prop := wl_X7_isNamed_2 (a0) ((0 : Int32)) I J T P
set_option maxRecDepth 20000 in
theorem tp_X7_isNamed {d : Nat} {a0 : Int32} {I : Nat → Nat → Int32} {J : Nat → Nat → Int64} {T : Option Nat} {P : Int32 → (Nat → Nat → Int32) → (Nat → Nat → Int64) → Option Nat → Prop} {Q : ix_Q} (h : wp_X7_isNamed a0 I J T P) (hQ : ∀ v I J T, P v I J T → Q (some (.inl v)) (ix_mem 276 I J T)) : ix_C (d + 1) 109 [.inr (.inr (.inl (some (44)))), .inl (a0)] (ix_mem 276 I J T) Q := by
  unfold wp_X7_isNamed at h
  refine ix_enter (ls := [some (.inr (.inr (.inl (some (44))))), some (.inl (a0)), none]) rfl rfl rfl (Nat.le_of_ble_eq_true rfl) ?_
  refine ix_go 2 (x' := (2, [some (.inr (.inr (.inl (some (44))))), some (.inl (a0)), some (.inl ((0 : Int32)))], [], 0, 0, ix_mem 276 I J T)) rfl trivial ?_
  refine ix_subW ([some (.inr (.inr (.inl (some (44))))), some (.inl (a0)), some (.inl ((0 : Int32)))]) (ix_subS (ix_subS (ix_subS (ix_sub0)))) ?_
  exact tl_X7_isNamed_2 h hQ
def wp_X7_step (I : Nat → Nat → Int32) (J : Nat → Nat → Int64) (T : Option Nat) (P : (Nat → Nat → Int32) → (Nat → Nat → Int64) → Option Nat → Prop) : Prop := ((I 44 8 < (I 44 7) - ((1 : Int32)) → ix_inb (((I 44 8) + ((1 : Int32)))) 601 = true ∧ P (ix_u2 (ix_u2 I 44 8 ((I 44 8) + ((1 : Int32)))) 44 9 (I 46 (((I 44 8) + ((1 : Int32)))).toNatClampNeg)) J T) ∧ (¬ (I 44 8 < (I 44 7) - ((1 : Int32))) → P I J T))
set_option maxRecDepth 20000 in
theorem tp_X7_step {d : Nat} {I : Nat → Nat → Int32} {J : Nat → Nat → Int64} {T : Option Nat} {P : (Nat → Nat → Int32) → (Nat → Nat → Int64) → Option Nat → Prop} {Q : ix_Q} (h : wp_X7_step I J T P) (hQ : ∀ I J T, P I J T → Q none (ix_mem 276 I J T)) : ix_C (d + 1) 110 [.inr (.inr (.inl (some (44))))] (ix_mem 276 I J T) Q := by
  unfold wp_X7_step at h
  refine ix_enter (ls := [some (.inr (.inr (.inl (some (44)))))]) rfl rfl rfl (Nat.le_of_ble_eq_true rfl) ?_
  refine ix_go 7 (x' := (if I 44 8 < (I 44 7) - ((1 : Int32)) then 13 else 36, [some (.inr (.inr (.inl (some (44)))))], [], 0, 0, ix_mem 276 I J T)) rfl ⟨rfl, rfl, rfl, rfl⟩ ?_
  refine ix_br (fun c1 => ?_) (fun c1 => ?_)
  · have h2 := h.1 c1
    obtain ⟨p3, h4⟩ := h2
    refine ix_go 13 (x' := (36, [some (.inr (.inr (.inl (some (44)))))], [], 0, 0, ix_mem 276 (ix_u2 (ix_u2 I 44 8 ((I 44 8) + ((1 : Int32)))) 44 9 (I 46 (((I 44 8) + ((1 : Int32)))).toNatClampNeg)) J T)) rfl ⟨rfl, rfl, rfl, rfl, rfl, rfl, rfl, rfl, rfl, rfl, p3, rfl, rfl⟩ ?_
    exact ix_sp rfl ⟨Nat.le_refl _, Nat.le_refl _, rfl, hQ _ _ _ h4⟩
  · have h2 := h.2 c1
    exact ix_sp rfl ⟨Nat.le_refl _, Nat.le_refl _, rfl, hQ _ _ _ h2⟩
def wp_X7_takeName (I : Nat → Nat → Int32) (J : Nat → Nat → Int64) (T : Option Nat) (P : (Nat → Nat → Int32) → (Nat → Nat → Int64) → Option Nat → Prop) : Prop := ix_tn T ∧ ((T = some 59 → wp_X9_count_59 I J (some 59) (fun v4 I4 J4 T4 => ((I4 44 9 = (18 : Int32) → ((v4 < (12 : Int32) → wp_X7_isNamed (v4) I4 J4 T4 (fun v9 I9 J9 T9 => ((v9 = 0 → ix_inb (I9 44 8) 601 = true ∧ ix_inb (v4) 12 = true ∧ wp_X7_step I9 (ix_u2 J9 49 (v4).toNatClampNeg (J9 48 (I9 44 8).toNatClampNeg)) T9 (fun I16 J16 T16 => P I16 J16 T16)) ∧ (¬ (v9 = 0) → wp_X7_blame ((4 : Int32)) I9 J9 T9 (fun I17 J17 T17 => P I17 J17 T17))))) ∧ (¬ (v4 < (12 : Int32)) → wp_X7_blame ((3 : Int32)) I4 J4 T4 (fun I18 J18 T18 => P I18 J18 T18)))) ∧ (¬ (I4 44 9 = (18 : Int32)) → wp_X7_blame ((2 : Int32)) I4 J4 T4 (fun I19 J19 T19 => P I19 J19 T19))))) ∧ (T = some 68 → wp_X9_count_68 I J (some 68) (fun v20 I20 J20 T20 => ((I20 44 9 = (18 : Int32) → ((v20 < (12 : Int32) → wp_X7_isNamed (v20) I20 J20 T20 (fun v25 I25 J25 T25 => ((v25 = 0 → ix_inb (I25 44 8) 601 = true ∧ ix_inb (v20) 12 = true ∧ wp_X7_step I25 (ix_u2 J25 49 (v20).toNatClampNeg (J25 48 (I25 44 8).toNatClampNeg)) T25 (fun I32 J32 T32 => P I32 J32 T32)) ∧ (¬ (v25 = 0) → wp_X7_blame ((4 : Int32)) I25 J25 T25 (fun I33 J33 T33 => P I33 J33 T33))))) ∧ (¬ (v20 < (12 : Int32)) → wp_X7_blame ((3 : Int32)) I20 J20 T20 (fun I34 J34 T34 => P I34 J34 T34)))) ∧ (¬ (I20 44 9 = (18 : Int32)) → wp_X7_blame ((2 : Int32)) I20 J20 T20 (fun I35 J35 T35 => P I35 J35 T35))))) ∧ (T = some 77 → wp_X9_count_77 I J (some 77) (fun v36 I36 J36 T36 => ((I36 44 9 = (18 : Int32) → ((v36 < (12 : Int32) → wp_X7_isNamed (v36) I36 J36 T36 (fun v41 I41 J41 T41 => ((v41 = 0 → ix_inb (I41 44 8) 601 = true ∧ ix_inb (v36) 12 = true ∧ wp_X7_step I41 (ix_u2 J41 49 (v36).toNatClampNeg (J41 48 (I41 44 8).toNatClampNeg)) T41 (fun I48 J48 T48 => P I48 J48 T48)) ∧ (¬ (v41 = 0) → wp_X7_blame ((4 : Int32)) I41 J41 T41 (fun I49 J49 T49 => P I49 J49 T49))))) ∧ (¬ (v36 < (12 : Int32)) → wp_X7_blame ((3 : Int32)) I36 J36 T36 (fun I50 J50 T50 => P I50 J50 T50)))) ∧ (¬ (I36 44 9 = (18 : Int32)) → wp_X7_blame ((2 : Int32)) I36 J36 T36 (fun I51 J51 T51 => P I51 J51 T51))))) ∧ (T = some 86 → wp_X9_count_86 I J (some 86) (fun v52 I52 J52 T52 => ((I52 44 9 = (18 : Int32) → ((v52 < (12 : Int32) → wp_X7_isNamed (v52) I52 J52 T52 (fun v57 I57 J57 T57 => ((v57 = 0 → ix_inb (I57 44 8) 601 = true ∧ ix_inb (v52) 12 = true ∧ wp_X7_step I57 (ix_u2 J57 49 (v52).toNatClampNeg (J57 48 (I57 44 8).toNatClampNeg)) T57 (fun I64 J64 T64 => P I64 J64 T64)) ∧ (¬ (v57 = 0) → wp_X7_blame ((4 : Int32)) I57 J57 T57 (fun I65 J65 T65 => P I65 J65 T65))))) ∧ (¬ (v52 < (12 : Int32)) → wp_X7_blame ((3 : Int32)) I52 J52 T52 (fun I66 J66 T66 => P I66 J66 T66)))) ∧ (¬ (I52 44 9 = (18 : Int32)) → wp_X7_blame ((2 : Int32)) I52 J52 T52 (fun I67 J67 T67 => P I67 J67 T67))))))
set_option maxRecDepth 20000 in
theorem tp_X7_takeName {d : Nat} {I : Nat → Nat → Int32} {J : Nat → Nat → Int64} {T : Option Nat} {P : (Nat → Nat → Int32) → (Nat → Nat → Int64) → Option Nat → Prop} {Q : ix_Q} (h : wp_X7_takeName I J T P) (hQ : ∀ I J T, P I J T → Q none (ix_mem 276 I J T)) : ix_C (d + 2) 111 [.inr (.inr (.inl (some (44))))] (ix_mem 276 I J T) Q := by
  unfold wp_X7_takeName at h
  refine ix_enter (ls := [some (.inr (.inr (.inl (some (44))))), none]) rfl rfl rfl (Nat.le_of_ble_eq_true rfl) ?_
  refine ix_go 2 (x' := (4, [some (.inr (.inr (.inl (some (44))))), none], [.inr (.inr (.inl (T)))], 0, 0, ix_mem 276 I J T)) rfl ⟨rfl, rfl⟩ ?_
  obtain ⟨q1, h2⟩ := h
  rcases q1 with e | e | e | e
  · subst e
    have h3 := h2.1 rfl
    refine ix_sp rfl ⟨rfl, ⟨ix_lt rfl, ix_eq rfl, ix_lt rfl⟩, ix_le rfl, Nat.le_refl _, Nat.le_refl _, tp_X9_count_59 h3 (fun v4 I4 J4 T4 h4 => ?_)⟩
    change ix_W _ _ _ (7, [some (.inr (.inr (.inl (some (44))))), none], [.inl (v4)], 0, 0, ix_mem 276 I4 J4 T4)
    refine ix_go 5 (x' := (if I4 44 9 = (18 : Int32) then 25 else 17, [some (.inr (.inr (.inl (some (44))))), some (.inl (v4))], [], 0, 0, ix_mem 276 I4 J4 T4)) rfl ⟨rfl, rfl⟩ ?_
    refine ix_br (fun c5 => ?_) (fun c5 => ?_)
    · have h6 := h4.1 c5
      refine ix_go 3 (x' := (if v4 < (12 : Int32) then 39 else 31, [some (.inr (.inr (.inl (some (44))))), some (.inl (v4))], [], 0, 0, ix_mem 276 I4 J4 T4)) rfl trivial ?_
      refine ix_br (fun c7 => ?_) (fun c7 => ?_)
      · have h8 := h6.1 c7
        refine ix_go 2 (x' := (41, [some (.inr (.inr (.inl (some (44))))), some (.inl (v4))], [.inl (v4), .inr (.inr (.inl (some (44))))], 0, 0, ix_mem 276 I4 J4 T4)) rfl trivial ?_
        refine ix_sp rfl ⟨rfl, ⟨ix_lt rfl, ix_eq rfl, ix_lt rfl⟩, ix_le rfl, Nat.le_refl _, Nat.le_refl _, tp_X7_isNamed h8 (fun v9 I9 J9 T9 h9 => ?_)⟩
        change ix_W _ _ _ (44, [some (.inr (.inr (.inl (some (44))))), some (.inl (v4))], [.inl (v9)], 0, 0, ix_mem 276 I9 J9 T9)
        refine ix_go 1 (x' := (if v9 = 0 then 55 else 47, [some (.inr (.inr (.inl (some (44))))), some (.inl (v4))], [], 0, 0, ix_mem 276 I9 J9 T9)) rfl trivial ?_
        refine ix_br (fun c10 => ?_) (fun c10 => ?_)
        · have h11 := h9.1 c10
          obtain ⟨p12, h13⟩ := h11
          obtain ⟨p14, h15⟩ := h13
          refine ix_go 10 (x' := (71, [some (.inr (.inr (.inl (some (44))))), some (.inl (v4))], [.inr (.inr (.inl (some (44))))], 0, 0, ix_mem 276 I9 (ix_u2 J9 49 (v4).toNatClampNeg (J9 48 (I9 44 8).toNatClampNeg)) T9)) rfl ⟨rfl, rfl, rfl, rfl, rfl, rfl, rfl, rfl, p12, rfl, rfl, p14⟩ ?_
          refine ix_sp rfl ⟨rfl, ⟨ix_lt rfl, ix_eq rfl, ix_lt rfl⟩, ix_le rfl, Nat.le_refl _, Nat.le_refl _, tp_X7_step h15 (fun I16 J16 T16 h16 => ?_)⟩
          change ix_W _ _ _ (74, [some (.inr (.inr (.inl (some (44))))), some (.inl (v4))], [], 0, 0, ix_mem 276 I16 J16 T16)
          exact ix_sp rfl ⟨Nat.le_refl _, Nat.le_refl _, rfl, hQ _ _ _ h16⟩
        · have h11 := h9.2 c10
          refine ix_go 2 (x' := (49, [some (.inr (.inr (.inl (some (44))))), some (.inl (v4))], [.inl ((4 : Int32)), .inr (.inr (.inl (some (44))))], 0, 0, ix_mem 276 I9 J9 T9)) rfl trivial ?_
          refine ix_sp rfl ⟨rfl, ⟨ix_lt rfl, ix_eq rfl, ix_lt rfl⟩, ix_le rfl, Nat.le_refl _, Nat.le_refl _, tp_X7_blame h11 (fun I17 J17 T17 h17 => ?_)⟩
          change ix_W _ _ _ (52, [some (.inr (.inr (.inl (some (44))))), some (.inl (v4))], [], 0, 0, ix_mem 276 I17 J17 T17)
          refine ix_go 1 (x' := (74, [some (.inr (.inr (.inl (some (44))))), some (.inl (v4))], [], 0, 0, ix_mem 276 I17 J17 T17)) rfl trivial ?_
          exact ix_sp rfl ⟨Nat.le_refl _, Nat.le_refl _, rfl, hQ _ _ _ h17⟩
      · have h8 := h6.2 c7
        refine ix_go 2 (x' := (33, [some (.inr (.inr (.inl (some (44))))), some (.inl (v4))], [.inl ((3 : Int32)), .inr (.inr (.inl (some (44))))], 0, 0, ix_mem 276 I4 J4 T4)) rfl trivial ?_
        refine ix_sp rfl ⟨rfl, ⟨ix_lt rfl, ix_eq rfl, ix_lt rfl⟩, ix_le rfl, Nat.le_refl _, Nat.le_refl _, tp_X7_blame h8 (fun I18 J18 T18 h18 => ?_)⟩
        change ix_W _ _ _ (36, [some (.inr (.inr (.inl (some (44))))), some (.inl (v4))], [], 0, 0, ix_mem 276 I18 J18 T18)
        refine ix_go 1 (x' := (74, [some (.inr (.inr (.inl (some (44))))), some (.inl (v4))], [], 0, 0, ix_mem 276 I18 J18 T18)) rfl trivial ?_
        exact ix_sp rfl ⟨Nat.le_refl _, Nat.le_refl _, rfl, hQ _ _ _ h18⟩
    · have h6 := h4.2 c5
      refine ix_go 2 (x' := (19, [some (.inr (.inr (.inl (some (44))))), some (.inl (v4))], [.inl ((2 : Int32)), .inr (.inr (.inl (some (44))))], 0, 0, ix_mem 276 I4 J4 T4)) rfl trivial ?_
      refine ix_sp rfl ⟨rfl, ⟨ix_lt rfl, ix_eq rfl, ix_lt rfl⟩, ix_le rfl, Nat.le_refl _, Nat.le_refl _, tp_X7_blame h6 (fun I19 J19 T19 h19 => ?_)⟩
      change ix_W _ _ _ (22, [some (.inr (.inr (.inl (some (44))))), some (.inl (v4))], [], 0, 0, ix_mem 276 I19 J19 T19)
      refine ix_go 1 (x' := (74, [some (.inr (.inr (.inl (some (44))))), some (.inl (v4))], [], 0, 0, ix_mem 276 I19 J19 T19)) rfl trivial ?_
      exact ix_sp rfl ⟨Nat.le_refl _, Nat.le_refl _, rfl, hQ _ _ _ h19⟩
  · subst e
    have h3 := h2.2.1 rfl
    refine ix_sp rfl ⟨rfl, ⟨ix_lt rfl, ix_eq rfl, ix_lt rfl⟩, ix_le rfl, Nat.le_refl _, Nat.le_refl _, tp_X9_count_68 h3 (fun v20 I20 J20 T20 h20 => ?_)⟩
    change ix_W _ _ _ (7, [some (.inr (.inr (.inl (some (44))))), none], [.inl (v20)], 0, 0, ix_mem 276 I20 J20 T20)
    refine ix_go 5 (x' := (if I20 44 9 = (18 : Int32) then 25 else 17, [some (.inr (.inr (.inl (some (44))))), some (.inl (v20))], [], 0, 0, ix_mem 276 I20 J20 T20)) rfl ⟨rfl, rfl⟩ ?_
    refine ix_br (fun c21 => ?_) (fun c21 => ?_)
    · have h22 := h20.1 c21
      refine ix_go 3 (x' := (if v20 < (12 : Int32) then 39 else 31, [some (.inr (.inr (.inl (some (44))))), some (.inl (v20))], [], 0, 0, ix_mem 276 I20 J20 T20)) rfl trivial ?_
      refine ix_br (fun c23 => ?_) (fun c23 => ?_)
      · have h24 := h22.1 c23
        refine ix_go 2 (x' := (41, [some (.inr (.inr (.inl (some (44))))), some (.inl (v20))], [.inl (v20), .inr (.inr (.inl (some (44))))], 0, 0, ix_mem 276 I20 J20 T20)) rfl trivial ?_
        refine ix_sp rfl ⟨rfl, ⟨ix_lt rfl, ix_eq rfl, ix_lt rfl⟩, ix_le rfl, Nat.le_refl _, Nat.le_refl _, tp_X7_isNamed h24 (fun v25 I25 J25 T25 h25 => ?_)⟩
        change ix_W _ _ _ (44, [some (.inr (.inr (.inl (some (44))))), some (.inl (v20))], [.inl (v25)], 0, 0, ix_mem 276 I25 J25 T25)
        refine ix_go 1 (x' := (if v25 = 0 then 55 else 47, [some (.inr (.inr (.inl (some (44))))), some (.inl (v20))], [], 0, 0, ix_mem 276 I25 J25 T25)) rfl trivial ?_
        refine ix_br (fun c26 => ?_) (fun c26 => ?_)
        · have h27 := h25.1 c26
          obtain ⟨p28, h29⟩ := h27
          obtain ⟨p30, h31⟩ := h29
          refine ix_go 10 (x' := (71, [some (.inr (.inr (.inl (some (44))))), some (.inl (v20))], [.inr (.inr (.inl (some (44))))], 0, 0, ix_mem 276 I25 (ix_u2 J25 49 (v20).toNatClampNeg (J25 48 (I25 44 8).toNatClampNeg)) T25)) rfl ⟨rfl, rfl, rfl, rfl, rfl, rfl, rfl, rfl, p28, rfl, rfl, p30⟩ ?_
          refine ix_sp rfl ⟨rfl, ⟨ix_lt rfl, ix_eq rfl, ix_lt rfl⟩, ix_le rfl, Nat.le_refl _, Nat.le_refl _, tp_X7_step h31 (fun I32 J32 T32 h32 => ?_)⟩
          change ix_W _ _ _ (74, [some (.inr (.inr (.inl (some (44))))), some (.inl (v20))], [], 0, 0, ix_mem 276 I32 J32 T32)
          exact ix_sp rfl ⟨Nat.le_refl _, Nat.le_refl _, rfl, hQ _ _ _ h32⟩
        · have h27 := h25.2 c26
          refine ix_go 2 (x' := (49, [some (.inr (.inr (.inl (some (44))))), some (.inl (v20))], [.inl ((4 : Int32)), .inr (.inr (.inl (some (44))))], 0, 0, ix_mem 276 I25 J25 T25)) rfl trivial ?_
          refine ix_sp rfl ⟨rfl, ⟨ix_lt rfl, ix_eq rfl, ix_lt rfl⟩, ix_le rfl, Nat.le_refl _, Nat.le_refl _, tp_X7_blame h27 (fun I33 J33 T33 h33 => ?_)⟩
          change ix_W _ _ _ (52, [some (.inr (.inr (.inl (some (44))))), some (.inl (v20))], [], 0, 0, ix_mem 276 I33 J33 T33)
          refine ix_go 1 (x' := (74, [some (.inr (.inr (.inl (some (44))))), some (.inl (v20))], [], 0, 0, ix_mem 276 I33 J33 T33)) rfl trivial ?_
          exact ix_sp rfl ⟨Nat.le_refl _, Nat.le_refl _, rfl, hQ _ _ _ h33⟩
      · have h24 := h22.2 c23
        refine ix_go 2 (x' := (33, [some (.inr (.inr (.inl (some (44))))), some (.inl (v20))], [.inl ((3 : Int32)), .inr (.inr (.inl (some (44))))], 0, 0, ix_mem 276 I20 J20 T20)) rfl trivial ?_
        refine ix_sp rfl ⟨rfl, ⟨ix_lt rfl, ix_eq rfl, ix_lt rfl⟩, ix_le rfl, Nat.le_refl _, Nat.le_refl _, tp_X7_blame h24 (fun I34 J34 T34 h34 => ?_)⟩
        change ix_W _ _ _ (36, [some (.inr (.inr (.inl (some (44))))), some (.inl (v20))], [], 0, 0, ix_mem 276 I34 J34 T34)
        refine ix_go 1 (x' := (74, [some (.inr (.inr (.inl (some (44))))), some (.inl (v20))], [], 0, 0, ix_mem 276 I34 J34 T34)) rfl trivial ?_
        exact ix_sp rfl ⟨Nat.le_refl _, Nat.le_refl _, rfl, hQ _ _ _ h34⟩
    · have h22 := h20.2 c21
      refine ix_go 2 (x' := (19, [some (.inr (.inr (.inl (some (44))))), some (.inl (v20))], [.inl ((2 : Int32)), .inr (.inr (.inl (some (44))))], 0, 0, ix_mem 276 I20 J20 T20)) rfl trivial ?_
      refine ix_sp rfl ⟨rfl, ⟨ix_lt rfl, ix_eq rfl, ix_lt rfl⟩, ix_le rfl, Nat.le_refl _, Nat.le_refl _, tp_X7_blame h22 (fun I35 J35 T35 h35 => ?_)⟩
      change ix_W _ _ _ (22, [some (.inr (.inr (.inl (some (44))))), some (.inl (v20))], [], 0, 0, ix_mem 276 I35 J35 T35)
      refine ix_go 1 (x' := (74, [some (.inr (.inr (.inl (some (44))))), some (.inl (v20))], [], 0, 0, ix_mem 276 I35 J35 T35)) rfl trivial ?_
      exact ix_sp rfl ⟨Nat.le_refl _, Nat.le_refl _, rfl, hQ _ _ _ h35⟩
  · subst e
    have h3 := h2.2.2.1 rfl
    refine ix_sp rfl ⟨rfl, ⟨ix_lt rfl, ix_eq rfl, ix_lt rfl⟩, ix_le rfl, Nat.le_refl _, Nat.le_refl _, tp_X9_count_77 h3 (fun v36 I36 J36 T36 h36 => ?_)⟩
    change ix_W _ _ _ (7, [some (.inr (.inr (.inl (some (44))))), none], [.inl (v36)], 0, 0, ix_mem 276 I36 J36 T36)
    refine ix_go 5 (x' := (if I36 44 9 = (18 : Int32) then 25 else 17, [some (.inr (.inr (.inl (some (44))))), some (.inl (v36))], [], 0, 0, ix_mem 276 I36 J36 T36)) rfl ⟨rfl, rfl⟩ ?_
    refine ix_br (fun c37 => ?_) (fun c37 => ?_)
    · have h38 := h36.1 c37
      refine ix_go 3 (x' := (if v36 < (12 : Int32) then 39 else 31, [some (.inr (.inr (.inl (some (44))))), some (.inl (v36))], [], 0, 0, ix_mem 276 I36 J36 T36)) rfl trivial ?_
      refine ix_br (fun c39 => ?_) (fun c39 => ?_)
      · have h40 := h38.1 c39
        refine ix_go 2 (x' := (41, [some (.inr (.inr (.inl (some (44))))), some (.inl (v36))], [.inl (v36), .inr (.inr (.inl (some (44))))], 0, 0, ix_mem 276 I36 J36 T36)) rfl trivial ?_
        refine ix_sp rfl ⟨rfl, ⟨ix_lt rfl, ix_eq rfl, ix_lt rfl⟩, ix_le rfl, Nat.le_refl _, Nat.le_refl _, tp_X7_isNamed h40 (fun v41 I41 J41 T41 h41 => ?_)⟩
        change ix_W _ _ _ (44, [some (.inr (.inr (.inl (some (44))))), some (.inl (v36))], [.inl (v41)], 0, 0, ix_mem 276 I41 J41 T41)
        refine ix_go 1 (x' := (if v41 = 0 then 55 else 47, [some (.inr (.inr (.inl (some (44))))), some (.inl (v36))], [], 0, 0, ix_mem 276 I41 J41 T41)) rfl trivial ?_
        refine ix_br (fun c42 => ?_) (fun c42 => ?_)
        · have h43 := h41.1 c42
          obtain ⟨p44, h45⟩ := h43
          obtain ⟨p46, h47⟩ := h45
          refine ix_go 10 (x' := (71, [some (.inr (.inr (.inl (some (44))))), some (.inl (v36))], [.inr (.inr (.inl (some (44))))], 0, 0, ix_mem 276 I41 (ix_u2 J41 49 (v36).toNatClampNeg (J41 48 (I41 44 8).toNatClampNeg)) T41)) rfl ⟨rfl, rfl, rfl, rfl, rfl, rfl, rfl, rfl, p44, rfl, rfl, p46⟩ ?_
          refine ix_sp rfl ⟨rfl, ⟨ix_lt rfl, ix_eq rfl, ix_lt rfl⟩, ix_le rfl, Nat.le_refl _, Nat.le_refl _, tp_X7_step h47 (fun I48 J48 T48 h48 => ?_)⟩
          change ix_W _ _ _ (74, [some (.inr (.inr (.inl (some (44))))), some (.inl (v36))], [], 0, 0, ix_mem 276 I48 J48 T48)
          exact ix_sp rfl ⟨Nat.le_refl _, Nat.le_refl _, rfl, hQ _ _ _ h48⟩
        · have h43 := h41.2 c42
          refine ix_go 2 (x' := (49, [some (.inr (.inr (.inl (some (44))))), some (.inl (v36))], [.inl ((4 : Int32)), .inr (.inr (.inl (some (44))))], 0, 0, ix_mem 276 I41 J41 T41)) rfl trivial ?_
          refine ix_sp rfl ⟨rfl, ⟨ix_lt rfl, ix_eq rfl, ix_lt rfl⟩, ix_le rfl, Nat.le_refl _, Nat.le_refl _, tp_X7_blame h43 (fun I49 J49 T49 h49 => ?_)⟩
          change ix_W _ _ _ (52, [some (.inr (.inr (.inl (some (44))))), some (.inl (v36))], [], 0, 0, ix_mem 276 I49 J49 T49)
          refine ix_go 1 (x' := (74, [some (.inr (.inr (.inl (some (44))))), some (.inl (v36))], [], 0, 0, ix_mem 276 I49 J49 T49)) rfl trivial ?_
          exact ix_sp rfl ⟨Nat.le_refl _, Nat.le_refl _, rfl, hQ _ _ _ h49⟩
      · have h40 := h38.2 c39
        refine ix_go 2 (x' := (33, [some (.inr (.inr (.inl (some (44))))), some (.inl (v36))], [.inl ((3 : Int32)), .inr (.inr (.inl (some (44))))], 0, 0, ix_mem 276 I36 J36 T36)) rfl trivial ?_
        refine ix_sp rfl ⟨rfl, ⟨ix_lt rfl, ix_eq rfl, ix_lt rfl⟩, ix_le rfl, Nat.le_refl _, Nat.le_refl _, tp_X7_blame h40 (fun I50 J50 T50 h50 => ?_)⟩
        change ix_W _ _ _ (36, [some (.inr (.inr (.inl (some (44))))), some (.inl (v36))], [], 0, 0, ix_mem 276 I50 J50 T50)
        refine ix_go 1 (x' := (74, [some (.inr (.inr (.inl (some (44))))), some (.inl (v36))], [], 0, 0, ix_mem 276 I50 J50 T50)) rfl trivial ?_
        exact ix_sp rfl ⟨Nat.le_refl _, Nat.le_refl _, rfl, hQ _ _ _ h50⟩
    · have h38 := h36.2 c37
      refine ix_go 2 (x' := (19, [some (.inr (.inr (.inl (some (44))))), some (.inl (v36))], [.inl ((2 : Int32)), .inr (.inr (.inl (some (44))))], 0, 0, ix_mem 276 I36 J36 T36)) rfl trivial ?_
      refine ix_sp rfl ⟨rfl, ⟨ix_lt rfl, ix_eq rfl, ix_lt rfl⟩, ix_le rfl, Nat.le_refl _, Nat.le_refl _, tp_X7_blame h38 (fun I51 J51 T51 h51 => ?_)⟩
      change ix_W _ _ _ (22, [some (.inr (.inr (.inl (some (44))))), some (.inl (v36))], [], 0, 0, ix_mem 276 I51 J51 T51)
      refine ix_go 1 (x' := (74, [some (.inr (.inr (.inl (some (44))))), some (.inl (v36))], [], 0, 0, ix_mem 276 I51 J51 T51)) rfl trivial ?_
      exact ix_sp rfl ⟨Nat.le_refl _, Nat.le_refl _, rfl, hQ _ _ _ h51⟩
  · subst e
    have h3 := h2.2.2.2 rfl
    refine ix_sp rfl ⟨rfl, ⟨ix_lt rfl, ix_eq rfl, ix_lt rfl⟩, ix_le rfl, Nat.le_refl _, Nat.le_refl _, tp_X9_count_86 h3 (fun v52 I52 J52 T52 h52 => ?_)⟩
    change ix_W _ _ _ (7, [some (.inr (.inr (.inl (some (44))))), none], [.inl (v52)], 0, 0, ix_mem 276 I52 J52 T52)
    refine ix_go 5 (x' := (if I52 44 9 = (18 : Int32) then 25 else 17, [some (.inr (.inr (.inl (some (44))))), some (.inl (v52))], [], 0, 0, ix_mem 276 I52 J52 T52)) rfl ⟨rfl, rfl⟩ ?_
    refine ix_br (fun c53 => ?_) (fun c53 => ?_)
    · have h54 := h52.1 c53
      refine ix_go 3 (x' := (if v52 < (12 : Int32) then 39 else 31, [some (.inr (.inr (.inl (some (44))))), some (.inl (v52))], [], 0, 0, ix_mem 276 I52 J52 T52)) rfl trivial ?_
      refine ix_br (fun c55 => ?_) (fun c55 => ?_)
      · have h56 := h54.1 c55
        refine ix_go 2 (x' := (41, [some (.inr (.inr (.inl (some (44))))), some (.inl (v52))], [.inl (v52), .inr (.inr (.inl (some (44))))], 0, 0, ix_mem 276 I52 J52 T52)) rfl trivial ?_
        refine ix_sp rfl ⟨rfl, ⟨ix_lt rfl, ix_eq rfl, ix_lt rfl⟩, ix_le rfl, Nat.le_refl _, Nat.le_refl _, tp_X7_isNamed h56 (fun v57 I57 J57 T57 h57 => ?_)⟩
        change ix_W _ _ _ (44, [some (.inr (.inr (.inl (some (44))))), some (.inl (v52))], [.inl (v57)], 0, 0, ix_mem 276 I57 J57 T57)
        refine ix_go 1 (x' := (if v57 = 0 then 55 else 47, [some (.inr (.inr (.inl (some (44))))), some (.inl (v52))], [], 0, 0, ix_mem 276 I57 J57 T57)) rfl trivial ?_
        refine ix_br (fun c58 => ?_) (fun c58 => ?_)
        · have h59 := h57.1 c58
          obtain ⟨p60, h61⟩ := h59
          obtain ⟨p62, h63⟩ := h61
          refine ix_go 10 (x' := (71, [some (.inr (.inr (.inl (some (44))))), some (.inl (v52))], [.inr (.inr (.inl (some (44))))], 0, 0, ix_mem 276 I57 (ix_u2 J57 49 (v52).toNatClampNeg (J57 48 (I57 44 8).toNatClampNeg)) T57)) rfl ⟨rfl, rfl, rfl, rfl, rfl, rfl, rfl, rfl, p60, rfl, rfl, p62⟩ ?_
          refine ix_sp rfl ⟨rfl, ⟨ix_lt rfl, ix_eq rfl, ix_lt rfl⟩, ix_le rfl, Nat.le_refl _, Nat.le_refl _, tp_X7_step h63 (fun I64 J64 T64 h64 => ?_)⟩
          change ix_W _ _ _ (74, [some (.inr (.inr (.inl (some (44))))), some (.inl (v52))], [], 0, 0, ix_mem 276 I64 J64 T64)
          exact ix_sp rfl ⟨Nat.le_refl _, Nat.le_refl _, rfl, hQ _ _ _ h64⟩
        · have h59 := h57.2 c58
          refine ix_go 2 (x' := (49, [some (.inr (.inr (.inl (some (44))))), some (.inl (v52))], [.inl ((4 : Int32)), .inr (.inr (.inl (some (44))))], 0, 0, ix_mem 276 I57 J57 T57)) rfl trivial ?_
          refine ix_sp rfl ⟨rfl, ⟨ix_lt rfl, ix_eq rfl, ix_lt rfl⟩, ix_le rfl, Nat.le_refl _, Nat.le_refl _, tp_X7_blame h59 (fun I65 J65 T65 h65 => ?_)⟩
          change ix_W _ _ _ (52, [some (.inr (.inr (.inl (some (44))))), some (.inl (v52))], [], 0, 0, ix_mem 276 I65 J65 T65)
          refine ix_go 1 (x' := (74, [some (.inr (.inr (.inl (some (44))))), some (.inl (v52))], [], 0, 0, ix_mem 276 I65 J65 T65)) rfl trivial ?_
          exact ix_sp rfl ⟨Nat.le_refl _, Nat.le_refl _, rfl, hQ _ _ _ h65⟩
      · have h56 := h54.2 c55
        refine ix_go 2 (x' := (33, [some (.inr (.inr (.inl (some (44))))), some (.inl (v52))], [.inl ((3 : Int32)), .inr (.inr (.inl (some (44))))], 0, 0, ix_mem 276 I52 J52 T52)) rfl trivial ?_
        refine ix_sp rfl ⟨rfl, ⟨ix_lt rfl, ix_eq rfl, ix_lt rfl⟩, ix_le rfl, Nat.le_refl _, Nat.le_refl _, tp_X7_blame h56 (fun I66 J66 T66 h66 => ?_)⟩
        change ix_W _ _ _ (36, [some (.inr (.inr (.inl (some (44))))), some (.inl (v52))], [], 0, 0, ix_mem 276 I66 J66 T66)
        refine ix_go 1 (x' := (74, [some (.inr (.inr (.inl (some (44))))), some (.inl (v52))], [], 0, 0, ix_mem 276 I66 J66 T66)) rfl trivial ?_
        exact ix_sp rfl ⟨Nat.le_refl _, Nat.le_refl _, rfl, hQ _ _ _ h66⟩
    · have h54 := h52.2 c53
      refine ix_go 2 (x' := (19, [some (.inr (.inr (.inl (some (44))))), some (.inl (v52))], [.inl ((2 : Int32)), .inr (.inr (.inl (some (44))))], 0, 0, ix_mem 276 I52 J52 T52)) rfl trivial ?_
      refine ix_sp rfl ⟨rfl, ⟨ix_lt rfl, ix_eq rfl, ix_lt rfl⟩, ix_le rfl, Nat.le_refl _, Nat.le_refl _, tp_X7_blame h54 (fun I67 J67 T67 h67 => ?_)⟩
      change ix_W _ _ _ (22, [some (.inr (.inr (.inl (some (44))))), some (.inl (v52))], [], 0, 0, ix_mem 276 I67 J67 T67)
      refine ix_go 1 (x' := (74, [some (.inr (.inr (.inl (some (44))))), some (.inl (v52))], [], 0, 0, ix_mem 276 I67 J67 T67)) rfl trivial ?_
      exact ix_sp rfl ⟨Nat.le_refl _, Nat.le_refl _, rfl, hQ _ _ _ h67⟩
