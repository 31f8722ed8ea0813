def wp_X12_read (a0 : Int32) (a1 : Int32) (I : Nat → Nat → Int32) (J : Nat → Nat → Int64) (T : Option Nat) (P : Int64 → (Nat → Nat → Int32) → (Nat → Nat → Int64) → Option Nat → Prop) : Prop := wp_X12_wrongPlace (a0) (a1) I J T (fun v1 I1 J1 T1 => (((v1) ≤ 0 → ix_inb ((((60 : Int32)) * (a0)) + (a1)) 240 = true ∧ P (J1 207 ((((60 : Int32)) * (a0)) + (a1)).toNatClampNeg) (ix_u2 I1 204 0 (v1)) J1 T1) ∧ (¬ ((v1) ≤ 0) → P ((-1 : Int64)) (ix_u2 I1 204 0 (v1)) J1 T1)))
set_option maxRecDepth 20000 in
theorem tp_X12_read {d : Nat} {a0 : Int32} {a1 : Int32} {I : Nat → Nat → Int32} {J : Nat → Nat → Int64} {T : Option Nat} {P : Int64 → (Nat → Nat → Int32) → (Nat → Nat → Int64) → Option Nat → Prop} {Q : ix_Q} (h : wp_X12_read a0 a1 I J T P) (hQ : ∀ v I J T, P v I J T → Q (some (.inr (.inl v))) (ix_mem 276 I J T)) : ix_C (d + 3) 240 [.inr (.inr (.inl (some (204)))), .inl (a0), .inl (a1)] (ix_mem 276 I J T) Q := by
  unfold wp_X12_read at h
  refine ix_enter (ls := [some (.inr (.inr (.inl (some (204))))), some (.inl (a0)), some (.inl (a1))]) rfl rfl rfl (Nat.le_of_ble_eq_true rfl) ?_
  refine ix_go 4 (x' := (4, [some (.inr (.inr (.inl (some (204))))), some (.inl (a0)), some (.inl (a1))], [.inl (a1), .inl (a0), .inr (.inr (.inl (some (204)))), .inr (.inr (.inl (some (204))))], 0, 0, ix_mem 276 I J T)) rfl trivial ?_
  refine ix_sp rfl ⟨rfl, ⟨ix_lt rfl, ix_eq rfl, ix_lt rfl⟩, ix_le rfl, Nat.le_refl _, Nat.le_refl _, tp_X12_wrongPlace h (fun v1 I1 J1 T1 h1 => ?_)⟩
  change ix_W _ _ _ (7, [some (.inr (.inr (.inl (some (204))))), some (.inl (a0)), some (.inl (a1))], [.inl (v1), .inr (.inr (.inl (some (204))))], 0, 0, ix_mem 276 I1 J1 T1)
  refine ix_go 4 (x' := (if (v1) ≤ 0 then 23 else 17, [some (.inr (.inr (.inl (some (204))))), some (.inl (a0)), some (.inl (a1))], [], 0, 0, ix_mem 276 (ix_u2 I1 204 0 (v1)) J1 T1)) rfl ⟨rfl, rfl, rfl, rfl⟩ ?_
  refine ix_br (fun c2 => ?_) (fun c2 => ?_)
  · have h3 := h1.1 c2
    refine ix_go 7 (x' := (33, [some (.inr (.inr (.inl (some (204))))), some (.inl (a0)), some (.inl (a1))], [.inl ((((60 : Int32)) * (a0)) + (a1)), .inr (.inr (.inl (some (207))))], 0, 0, ix_mem 276 (ix_u2 I1 204 0 (v1)) J1 T1)) rfl ⟨rfl, rfl⟩ ?_
    obtain ⟨p4, h5⟩ := h3
    refine ix_go 1 (x' := (34, [some (.inr (.inr (.inl (some (204))))), some (.inl (a0)), some (.inl (a1))], [.inr (.inl (J1 207 ((((60 : Int32)) * (a0)) + (a1)).toNatClampNeg))], 0, 0, ix_mem 276 (ix_u2 I1 204 0 (v1)) J1 T1)) rfl ⟨rfl, rfl, p4⟩ ?_
    exact ix_sp rfl ⟨Nat.le_refl _, Nat.le_refl _, rfl, hQ _ _ _ _ h5⟩
  · have h3 := h1.2 c2
    refine ix_go 2 (x' := (34, [some (.inr (.inr (.inl (some (204))))), some (.inl (a0)), some (.inl (a1))], [.inr (.inl ((-1 : Int64)))], 0, 0, ix_mem 276 (ix_u2 I1 204 0 (v1)) J1 T1)) rfl trivial ?_
    exact ix_sp rfl ⟨Nat.le_refl _, Nat.le_refl _, rfl, hQ _ _ _ _ h3⟩
def wb_X12_pour_118 (x1 : Int32) (x2 : Int32) (x3 : Int32) (x4 : Int32) (x5 : Int32) (x6 : Int32) (I : Nat → Nat → Int32) (J : Nat → Nat → Int64) (T : Option Nat) (V118 : Int32 → Int32 → Int32 → Int32 → Int32 → Int32 → (Nat → Nat → Int32) → (Nat → Nat → Int64) → Option Nat → Prop) (P : Int32 → (Nat → Nat → Int32) → (Nat → Nat → Int64) → Option Nat → Prop) : Prop := ((x6 < x5 → ((x2 < x4 → ix_inb (((((60 : Int32)) * (x1)) + (x2)) + (((x5) - ((1 : Int32))) - (x6))) 240 = true ∧ ix_inb (((((60 : Int32)) * (x3)) + (x4)) + (((x5) - ((1 : Int32))) - (x6))) 240 = true ∧ V118 (x1) (x2) (x3) (x4) (x5) (x6 + (1 : Int32)) I (ix_u2 J 207 (((((60 : Int32)) * (x3)) + (x4)) + (((x5) - ((1 : Int32))) - (x6))).toNatClampNeg (J 207 (((((60 : Int32)) * (x1)) + (x2)) + (((x5) - ((1 : Int32))) - (x6))).toNatClampNeg)) T) ∧ (¬ (x2 < x4) → ix_inb (((((60 : Int32)) * (x1)) + (x2)) + (x6)) 240 = true ∧ ix_inb (((((60 : Int32)) * (x3)) + (x4)) + (x6)) 240 = true ∧ V118 (x1) (x2) (x3) (x4) (x5) (x6 + (1 : Int32)) I (ix_u2 J 207 (((((60 : Int32)) * (x3)) + (x4)) + (x6)).toNatClampNeg (J 207 (((((60 : Int32)) * (x1)) + (x2)) + (x6)).toNatClampNeg)) T))) ∧ (¬ (x6 < x5) → wp_X12_is ((0 : Int32)) I J T (fun v54 I54 J54 T54 => ix_01 (v54) = true ∧ P (v54) I54 J54 T54)))
def wl_X12_pour_118 (x1 : Int32) (x2 : Int32) (x3 : Int32) (x4 : Int32) (x5 : Int32) (x6 : Int32) (I : Nat → Nat → Int32) (J : Nat → Nat → Int64) (T : Option Nat) (P : Int32 → (Nat → Nat → Int32) → (Nat → Nat → Int64) → Option Nat → Prop) : Prop := ∀ V : Int32 → Int32 → Int32 → Int32 → Int32 → Int32 → (Nat → Nat → Int32) → (Nat → Nat → Int64) → Option Nat → Prop, (∀ (x1 : Int32) (x2 : Int32) (x3 : Int32) (x4 : Int32) (x5 : Int32) (x6 : Int32) (I : Nat → Nat → Int32) (J : Nat → Nat → Int64) (T : Option Nat), wb_X12_pour_118 x1 x2 x3 x4 x5 x6 I J T V P → V x1 x2 x3 x4 x5 x6 I J T) → V x1 x2 x3 x4 x5 x6 I J T
set_option maxRecDepth 20000 in
theorem tl_X12_pour_118 {d : Nat} {x1 : Int32} {x2 : Int32} {x3 : Int32} {x4 : Int32} {x5 : Int32} {x6 : Int32} {I : Nat → Nat → Int32} {J : Nat → Nat → Int64} {T : Option Nat} {P : Int32 → (Nat → Nat → Int32) → (Nat → Nat → Int64) → Option Nat → Prop} {Q : ix_Q} (h : wl_X12_pour_118 x1 x2 x3 x4 x5 x6 I J T P) (hQ : ∀ v I J T, P v I J T → Q (some (.inl v)) (ix_mem 276 I J T)) : ix_W (ix_C (d + 1)) (12, ix_lk ix_l241, (some .boolean), 0, 0, Nat.blt 0 0, none) Q (118, [some (.inr (.inr (.inl (some (204))))), some (.inl (x1)), some (.inl (x2)), some (.inl (x3)), some (.inl (x4)), some (.inl (x5)), some (.inl (x6)), none], [], 0, 0, ix_mem 276 I J T) := by
  refine h (fun x1 x2 x3 x4 x5 x6 I J T => ix_W (ix_C (d + 1)) (12, ix_lk ix_l241, (some .boolean), 0, 0, Nat.blt 0 0, none) Q (118, [some (.inr (.inr (.inl (some (204))))), some (.inl (x1)), some (.inl (x2)), some (.inl (x3)), some (.inl (x4)), some (.inl (x5)), some (.inl (x6)), none], [], 0, 0, ix_mem 276 I J T)) ?_
  intro x1 x2 x3 x4 x5 x6 I J T hb
  unfold wb_X12_pour_118 at hb
  refine ix_go 3 (x' := (if x6 < x5 then 125 else 180, [some (.inr (.inr (.inl (some (204))))), some (.inl (x1)), some (.inl (x2)), some (.inl (x3)), some (.inl (x4)), some (.inl (x5)), some (.inl (x6)), none], [], 0, 0, ix_mem 276 I J T)) rfl trivial ?_
  refine ix_br (fun c42 => ?_) (fun c42 => ?_)
  · have h43 := hb.1 c42
    refine ix_go 3 (x' := (if x2 < x4 then 131 else 141, [some (.inr (.inr (.inl (some (204))))), some (.inl (x1)), some (.inl (x2)), some (.inl (x3)), some (.inl (x4)), some (.inl (x5)), some (.inl (x6)), none], [], 0, 0, ix_mem 276 I J T)) rfl trivial ?_
    refine ix_br (fun c44 => ?_) (fun c44 => ?_)
    · have h45 := h43.1 c44
      refine ix_go 7 (x' := (145, [some (.inr (.inr (.inl (some (204))))), some (.inl (x1)), some (.inl (x2)), some (.inl (x3)), some (.inl (x4)), some (.inl (x5)), some (.inl (x6)), some (.inl (((x5) - ((1 : Int32))) - (x6)))], [], 0, 0, ix_mem 276 I J T)) rfl trivial ?_
      refine ix_go 7 (x' := (156, [some (.inr (.inr (.inl (some (204))))), some (.inl (x1)), some (.inl (x2)), some (.inl (x3)), some (.inl (x4)), some (.inl (x5)), some (.inl (x6)), some (.inl (((x5) - ((1 : Int32))) - (x6)))], [.inl ((((60 : Int32)) * (x3)) + (x4)), .inr (.inr (.inl (some (207))))], 0, 0, ix_mem 276 I J T)) rfl ⟨rfl, rfl⟩ ?_
      refine ix_go 7 (x' := (167, [some (.inr (.inr (.inl (some (204))))), some (.inl (x1)), some (.inl (x2)), some (.inl (x3)), some (.inl (x4)), some (.inl (x5)), some (.inl (x6)), some (.inl (((x5) - ((1 : Int32))) - (x6)))], [.inl (((60 : Int32)) * (x1)), .inr (.inr (.inl (some (207)))), .inl (((((60 : Int32)) * (x3)) + (x4)) + (((x5) - ((1 : Int32))) - (x6))), .inr (.inr (.inl (some (207))))], 0, 0, ix_mem 276 I J T)) rfl ⟨rfl, rfl⟩ ?_
      obtain ⟨p46, h47⟩ := h45
      obtain ⟨p48, h49⟩ := h47
      refine ix_go 7 (x' := (177, [some (.inr (.inr (.inl (some (204))))), some (.inl (x1)), some (.inl (x2)), some (.inl (x3)), some (.inl (x4)), some (.inl (x5)), some (.inl (x6 + (1 : Int32))), some (.inl (((x5) - ((1 : Int32))) - (x6)))], [], 0, 0, ix_mem 276 I (ix_u2 J 207 (((((60 : Int32)) * (x3)) + (x4)) + (((x5) - ((1 : Int32))) - (x6))).toNatClampNeg (J 207 (((((60 : Int32)) * (x1)) + (x2)) + (((x5) - ((1 : Int32))) - (x6))).toNatClampNeg)) T)) rfl ⟨rfl, rfl, p46, rfl, rfl, p48⟩ ?_
      refine ix_go 1 (x' := (118, [some (.inr (.inr (.inl (some (204))))), some (.inl (x1)), some (.inl (x2)), some (.inl (x3)), some (.inl (x4)), some (.inl (x5)), some (.inl (x6 + (1 : Int32))), some (.inl (((x5) - ((1 : Int32))) - (x6)))], [], 0, 0, ix_mem 276 I (ix_u2 J 207 (((((60 : Int32)) * (x3)) + (x4)) + (((x5) - ((1 : Int32))) - (x6))).toNatClampNeg (J 207 (((((60 : Int32)) * (x1)) + (x2)) + (((x5) - ((1 : Int32))) - (x6))).toNatClampNeg)) T)) rfl trivial ?_
      refine ix_subW ([some (.inr (.inr (.inl (some (204))))), some (.inl (x1)), some (.inl (x2)), some (.inl (x3)), some (.inl (x4)), some (.inl (x5)), some (.inl (x6 + (1 : Int32))), none]) (ix_subS (ix_subS (ix_subS (ix_subS (ix_subS (ix_subS (ix_subS (ix_subN (ix_sub0))))))))) ?_
      exact h49
    · have h45 := h43.2 c44
      refine ix_go 7 (x' := (153, [some (.inr (.inr (.inl (some (204))))), some (.inl (x1)), some (.inl (x2)), some (.inl (x3)), some (.inl (x4)), some (.inl (x5)), some (.inl (x6)), some (.inl (x6))], [.inl (((60 : Int32)) * (x3)), .inr (.inr (.inl (some (207))))], 0, 0, ix_mem 276 I J T)) rfl ⟨rfl, rfl⟩ ?_
      refine ix_go 7 (x' := (165, [some (.inr (.inr (.inl (some (204))))), some (.inl (x1)), some (.inl (x2)), some (.inl (x3)), some (.inl (x4)), some (.inl (x5)), some (.inl (x6)), some (.inl (x6))], [.inl ((60 : Int32)), .inr (.inr (.inl (some (207)))), .inl (((((60 : Int32)) * (x3)) + (x4)) + (x6)), .inr (.inr (.inl (some (207))))], 0, 0, ix_mem 276 I J T)) rfl ⟨rfl, rfl⟩ ?_
      obtain ⟨p50, h51⟩ := h45
      refine ix_go 7 (x' := (173, [some (.inr (.inr (.inl (some (204))))), some (.inl (x1)), some (.inl (x2)), some (.inl (x3)), some (.inl (x4)), some (.inl (x5)), some (.inl (x6)), some (.inl (x6))], [.inr (.inl (J 207 (((((60 : Int32)) * (x1)) + (x2)) + (x6)).toNatClampNeg)), .inl (((((60 : Int32)) * (x3)) + (x4)) + (x6)), .inr (.inr (.inl (some (207))))], 0, 0, ix_mem 276 I J T)) rfl ⟨rfl, rfl, p50⟩ ?_
      obtain ⟨p52, h53⟩ := h51
      refine ix_go 3 (x' := (118, [some (.inr (.inr (.inl (some (204))))), some (.inl (x1)), some (.inl (x2)), some (.inl (x3)), some (.inl (x4)), some (.inl (x5)), some (.inl (x6 + (1 : Int32))), some (.inl (x6))], [], 0, 0, ix_mem 276 I (ix_u2 J 207 (((((60 : Int32)) * (x3)) + (x4)) + (x6)).toNatClampNeg (J 207 (((((60 : Int32)) * (x1)) + (x2)) + (x6)).toNatClampNeg)) T)) rfl ⟨rfl, rfl, p52⟩ ?_
      refine ix_subW ([some (.inr (.inr (.inl (some (204))))), some (.inl (x1)), some (.inl (x2)), some (.inl (x3)), some (.inl (x4)), some (.inl (x5)), some (.inl (x6 + (1 : Int32))), none]) (ix_subS (ix_subS (ix_subS (ix_subS (ix_subS (ix_subS (ix_subS (ix_subN (ix_sub0))))))))) ?_
      exact h53
  · have h43 := hb.2 c42
    refine ix_go 2 (x' := (182, [some (.inr (.inr (.inl (some (204))))), some (.inl (x1)), some (.inl (x2)), some (.inl (x3)), some (.inl (x4)), some (.inl (x5)), some (.inl (x6)), none], [.inl ((0 : Int32)), .inr (.inr (.inl (some (204))))], 0, 0, ix_mem 276 I J T)) rfl trivial ?_
    refine ix_sp rfl ⟨rfl, ⟨ix_lt rfl, ix_eq rfl, ix_lt rfl⟩, ix_le rfl, Nat.le_refl _, Nat.le_refl _, tp_X12_is h43 (fun v54 I54 J54 T54 h54 => ?_)⟩
    change ix_W _ _ _ (185, [some (.inr (.inr (.inl (some (204))))), some (.inl (x1)), some (.inl (x2)), some (.inl (x3)), some (.inl (x4)), some (.inl (x5)), some (.inl (x6)), none], [.inl (v54)], 0, 0, ix_mem 276 I54 J54 T54)
    exact ix_sp rfl ⟨Nat.le_refl _, Nat.le_refl _, ix_01_ok h54.1, hQ _ _ _ _ h54.2⟩
def wp_X12_pour (a0 : Int32) (a1 : Int32) (a2 : Int32) (a3 : Int32) (a4 : Int32) (I : Nat → Nat → Int32) (J : Nat → Nat → Int64) (T : Option Nat) (P : Int32 → (Nat → Nat → Int32) → (Nat → Nat → Int64) → Option Nat → Prop) : Prop := wp_X12_isTray (a0) I J T (fun v1 I1 J1 T1 => ((v1 = 0 → wp_X12_is ((1 : Int32)) I1 J1 T1 (fun v4 I4 J4 T4 => ix_01 (v4) = true ∧ P (v4) I4 J4 T4)) ∧ (¬ (v1 = 0) → wp_X12_isTray (a2) I1 J1 T1 (fun v5 I5 J5 T5 => ((v5 = 0 → wp_X12_is ((1 : Int32)) I5 J5 T5 (fun v8 I8 J8 T8 => ix_01 (v8) = true ∧ P (v8) I8 J8 T8)) ∧ (¬ (v5 = 0) → ((a1 < 0 → wp_X12_is ((1 : Int32)) I5 J5 T5 (fun v11 I11 J11 T11 => ix_01 (v11) = true ∧ P (v11) I11 J11 T11)) ∧ (¬ (a1 < 0) → ((a3 < 0 → wp_X12_is ((1 : Int32)) I5 J5 T5 (fun v14 I14 J14 T14 => ix_01 (v14) = true ∧ P (v14) I14 J14 T14)) ∧ (¬ (a3 < 0) → ((a4 < 0 → wp_X12_is ((1 : Int32)) I5 J5 T5 (fun v17 I17 J17 T17 => ix_01 (v17) = true ∧ P (v17) I17 J17 T17)) ∧ (¬ (a4 < 0) → ix_inb (a0) 4 = true ∧ ((I5 206 (a0).toNatClampNeg = (-1 : Int32) → wp_X12_is ((2 : Int32)) I5 J5 T5 (fun v22 I22 J22 T22 => ix_01 (v22) = true ∧ P (v22) I22 J22 T22)) ∧ (¬ (I5 206 (a0).toNatClampNeg = (-1 : Int32)) → ix_inb (a2) 4 = true ∧ ((I5 206 (a2).toNatClampNeg = (-1 : Int32) → wp_X12_is ((2 : Int32)) I5 J5 T5 (fun v27 I27 J27 T27 => ix_01 (v27) = true ∧ P (v27) I27 J27 T27)) ∧ (¬ (I5 206 (a2).toNatClampNeg = (-1 : Int32)) → ix_inb (a0) 4 = true ∧ ix_inb (a2) 4 = true ∧ ((I5 205 (a0).toNatClampNeg = I5 205 (a2).toNatClampNeg → ix_inb (a0) 4 = true ∧ ((a4 ≤ (I5 206 (a0).toNatClampNeg) - (a1) → ix_inb (a2) 4 = true ∧ ((a4 ≤ (I5 206 (a2).toNatClampNeg) - (a3) → wl_X12_pour_118 (a0) (a1) (a2) (a3) (a4) ((0 : Int32)) I5 J5 T5 P) ∧ (¬ (a4 ≤ (I5 206 (a2).toNatClampNeg) - (a3)) → wp_X12_is ((3 : Int32)) I5 J5 T5 (fun v55 I55 J55 T55 => ix_01 (v55) = true ∧ P (v55) I55 J55 T55)))) ∧ (¬ (a4 ≤ (I5 206 (a0).toNatClampNeg) - (a1)) → wp_X12_is ((3 : Int32)) I5 J5 T5 (fun v56 I56 J56 T56 => ix_01 (v56) = true ∧ P (v56) I56 J56 T56)))) ∧ (¬ (I5 205 (a0).toNatClampNeg = I5 205 (a2).toNatClampNeg) → wp_X12_is ((8 : Int32)) I5 J5 T5 (fun v57 I57 J57 T57 => ix_01 (v57) = true ∧ P (v57) I57 J57 T57)))))))))))))))))))
set_option maxRecDepth 20000 in
theorem tp_X12_pour {d : Nat} {a0 : Int32} {a1 : Int32} {a2 : Int32} {a3 : Int32} {a4 : Int32} {I : Nat → Nat → Int32} {J : Nat → Nat → Int64} {T : Option Nat} {P : Int32 → (Nat → Nat → Int32) → (Nat → Nat → Int64) → Option Nat → Prop} {Q : ix_Q} (h : wp_X12_pour a0 a1 a2 a3 a4 I J T P) (hQ : ∀ v I J T, P v I J T → Q (some (.inl v)) (ix_mem 276 I J T)) : ix_C (d + 2) 241 [.inr (.inr (.inl (some (204)))), .inl (a0), .inl (a1), .inl (a2), .inl (a3), .inl (a4)] (ix_mem 276 I J T) Q := by
  unfold wp_X12_pour at h
  refine ix_enter (ls := [some (.inr (.inr (.inl (some (204))))), some (.inl (a0)), some (.inl (a1)), some (.inl (a2)), some (.inl (a3)), some (.inl (a4)), none, none]) rfl rfl rfl (Nat.le_of_ble_eq_true rfl) ?_
  refine ix_go 1 (x' := (1, [some (.inr (.inr (.inl (some (204))))), some (.inl (a0)), some (.inl (a1)), some (.inl (a2)), some (.inl (a3)), some (.inl (a4)), none, none], [.inl (a0)], 0, 0, ix_mem 276 I J T)) rfl trivial ?_
  refine ix_sp rfl ⟨rfl, trivial, ix_le rfl, Nat.le_refl _, Nat.le_refl _, tp_X12_isTray h (fun v1 I1 J1 T1 h1 => ?_)⟩
  change ix_W _ _ _ (4, [some (.inr (.inr (.inl (some (204))))), some (.inl (a0)), some (.inl (a1)), some (.inl (a2)), some (.inl (a3)), some (.inl (a4)), none, none], [.inl (v1)], 0, 0, ix_mem 276 I1 J1 T1)
  refine ix_go 1 (x' := (if v1 = 0 then 28 else 7, [some (.inr (.inr (.inl (some (204))))), some (.inl (a0)), some (.inl (a1)), some (.inl (a2)), some (.inl (a3)), some (.inl (a4)), none, none], [], 0, 0, ix_mem 276 I1 J1 T1)) rfl trivial ?_
  refine ix_br (fun c2 => ?_) (fun c2 => ?_)
  · have h3 := h1.1 c2
    refine ix_go 2 (x' := (30, [some (.inr (.inr (.inl (some (204))))), some (.inl (a0)), some (.inl (a1)), some (.inl (a2)), some (.inl (a3)), some (.inl (a4)), none, none], [.inl ((1 : Int32)), .inr (.inr (.inl (some (204))))], 0, 0, ix_mem 276 I1 J1 T1)) rfl trivial ?_
    refine ix_sp rfl ⟨rfl, ⟨ix_lt rfl, ix_eq rfl, ix_lt rfl⟩, ix_le rfl, Nat.le_refl _, Nat.le_refl _, tp_X12_is h3 (fun v4 I4 J4 T4 h4 => ?_)⟩
    change ix_W _ _ _ (33, [some (.inr (.inr (.inl (some (204))))), some (.inl (a0)), some (.inl (a1)), some (.inl (a2)), some (.inl (a3)), some (.inl (a4)), none, none], [.inl (v4)], 0, 0, ix_mem 276 I4 J4 T4)
    exact ix_sp rfl ⟨Nat.le_refl _, Nat.le_refl _, ix_01_ok h4.1, hQ _ _ _ _ h4.2⟩
  · have h3 := h1.2 c2
    refine ix_go 1 (x' := (8, [some (.inr (.inr (.inl (some (204))))), some (.inl (a0)), some (.inl (a1)), some (.inl (a2)), some (.inl (a3)), some (.inl (a4)), none, none], [.inl (a2)], 0, 0, ix_mem 276 I1 J1 T1)) rfl trivial ?_
    refine ix_sp rfl ⟨rfl, trivial, ix_le rfl, Nat.le_refl _, Nat.le_refl _, tp_X12_isTray h3 (fun v5 I5 J5 T5 h5 => ?_)⟩
    change ix_W _ _ _ (11, [some (.inr (.inr (.inl (some (204))))), some (.inl (a0)), some (.inl (a1)), some (.inl (a2)), some (.inl (a3)), some (.inl (a4)), none, none], [.inl (v5)], 0, 0, ix_mem 276 I5 J5 T5)
    refine ix_go 1 (x' := (if v5 = 0 then 28 else 14, [some (.inr (.inr (.inl (some (204))))), some (.inl (a0)), some (.inl (a1)), some (.inl (a2)), some (.inl (a3)), some (.inl (a4)), none, none], [], 0, 0, ix_mem 276 I5 J5 T5)) rfl trivial ?_
    refine ix_br (fun c6 => ?_) (fun c6 => ?_)
    · have h7 := h5.1 c6
      refine ix_go 2 (x' := (30, [some (.inr (.inr (.inl (some (204))))), some (.inl (a0)), some (.inl (a1)), some (.inl (a2)), some (.inl (a3)), some (.inl (a4)), none, none], [.inl ((1 : Int32)), .inr (.inr (.inl (some (204))))], 0, 0, ix_mem 276 I5 J5 T5)) rfl trivial ?_
      refine ix_sp rfl ⟨rfl, ⟨ix_lt rfl, ix_eq rfl, ix_lt rfl⟩, ix_le rfl, Nat.le_refl _, Nat.le_refl _, tp_X12_is h7 (fun v8 I8 J8 T8 h8 => ?_)⟩
      change ix_W _ _ _ (33, [some (.inr (.inr (.inl (some (204))))), some (.inl (a0)), some (.inl (a1)), some (.inl (a2)), some (.inl (a3)), some (.inl (a4)), none, none], [.inl (v8)], 0, 0, ix_mem 276 I8 J8 T8)
      exact ix_sp rfl ⟨Nat.le_refl _, Nat.le_refl _, ix_01_ok h8.1, hQ _ _ _ _ h8.2⟩
    · have h7 := h5.2 c6
      refine ix_go 2 (x' := (if a1 < 0 then 28 else 18, [some (.inr (.inr (.inl (some (204))))), some (.inl (a0)), some (.inl (a1)), some (.inl (a2)), some (.inl (a3)), some (.inl (a4)), none, none], [], 0, 0, ix_mem 276 I5 J5 T5)) rfl trivial ?_
      refine ix_br (fun c9 => ?_) (fun c9 => ?_)
      · have h10 := h7.1 c9
        refine ix_go 2 (x' := (30, [some (.inr (.inr (.inl (some (204))))), some (.inl (a0)), some (.inl (a1)), some (.inl (a2)), some (.inl (a3)), some (.inl (a4)), none, none], [.inl ((1 : Int32)), .inr (.inr (.inl (some (204))))], 0, 0, ix_mem 276 I5 J5 T5)) rfl trivial ?_
        refine ix_sp rfl ⟨rfl, ⟨ix_lt rfl, ix_eq rfl, ix_lt rfl⟩, ix_le rfl, Nat.le_refl _, Nat.le_refl _, tp_X12_is h10 (fun v11 I11 J11 T11 h11 => ?_)⟩
        change ix_W _ _ _ (33, [some (.inr (.inr (.inl (some (204))))), some (.inl (a0)), some (.inl (a1)), some (.inl (a2)), some (.inl (a3)), some (.inl (a4)), none, none], [.inl (v11)], 0, 0, ix_mem 276 I11 J11 T11)
        exact ix_sp rfl ⟨Nat.le_refl _, Nat.le_refl _, ix_01_ok h11.1, hQ _ _ _ _ h11.2⟩
      · have h10 := h7.2 c9
        refine ix_go 2 (x' := (if a3 < 0 then 28 else 23, [some (.inr (.inr (.inl (some (204))))), some (.inl (a0)), some (.inl (a1)), some (.inl (a2)), some (.inl (a3)), some (.inl (a4)), none, none], [], 0, 0, ix_mem 276 I5 J5 T5)) rfl trivial ?_
        refine ix_br (fun c12 => ?_) (fun c12 => ?_)
        · have h13 := h10.1 c12
          refine ix_go 2 (x' := (30, [some (.inr (.inr (.inl (some (204))))), some (.inl (a0)), some (.inl (a1)), some (.inl (a2)), some (.inl (a3)), some (.inl (a4)), none, none], [.inl ((1 : Int32)), .inr (.inr (.inl (some (204))))], 0, 0, ix_mem 276 I5 J5 T5)) rfl trivial ?_
          refine ix_sp rfl ⟨rfl, ⟨ix_lt rfl, ix_eq rfl, ix_lt rfl⟩, ix_le rfl, Nat.le_refl _, Nat.le_refl _, tp_X12_is h13 (fun v14 I14 J14 T14 h14 => ?_)⟩
          change ix_W _ _ _ (33, [some (.inr (.inr (.inl (some (204))))), some (.inl (a0)), some (.inl (a1)), some (.inl (a2)), some (.inl (a3)), some (.inl (a4)), none, none], [.inl (v14)], 0, 0, ix_mem 276 I14 J14 T14)
          exact ix_sp rfl ⟨Nat.le_refl _, Nat.le_refl _, ix_01_ok h14.1, hQ _ _ _ _ h14.2⟩
        · have h13 := h10.2 c12
          refine ix_go 2 (x' := (if a4 < 0 then 28 else 34, [some (.inr (.inr (.inl (some (204))))), some (.inl (a0)), some (.inl (a1)), some (.inl (a2)), some (.inl (a3)), some (.inl (a4)), none, none], [], 0, 0, ix_mem 276 I5 J5 T5)) rfl trivial ?_
          refine ix_br (fun c15 => ?_) (fun c15 => ?_)
          · have h16 := h13.1 c15
            refine ix_go 2 (x' := (30, [some (.inr (.inr (.inl (some (204))))), some (.inl (a0)), some (.inl (a1)), some (.inl (a2)), some (.inl (a3)), some (.inl (a4)), none, none], [.inl ((1 : Int32)), .inr (.inr (.inl (some (204))))], 0, 0, ix_mem 276 I5 J5 T5)) rfl trivial ?_
            refine ix_sp rfl ⟨rfl, ⟨ix_lt rfl, ix_eq rfl, ix_lt rfl⟩, ix_le rfl, Nat.le_refl _, Nat.le_refl _, tp_X12_is h16 (fun v17 I17 J17 T17 h17 => ?_)⟩
            change ix_W _ _ _ (33, [some (.inr (.inr (.inl (some (204))))), some (.inl (a0)), some (.inl (a1)), some (.inl (a2)), some (.inl (a3)), some (.inl (a4)), none, none], [.inl (v17)], 0, 0, ix_mem 276 I17 J17 T17)
            exact ix_sp rfl ⟨Nat.le_refl _, Nat.le_refl _, ix_01_ok h17.1, hQ _ _ _ _ h17.2⟩
          · have h16 := h13.2 c15
            obtain ⟨p18, h19⟩ := h16
            refine ix_go 6 (x' := (if I5 206 (a0).toNatClampNeg = (-1 : Int32) then 54 else 44, [some (.inr (.inr (.inl (some (204))))), some (.inl (a0)), some (.inl (a1)), some (.inl (a2)), some (.inl (a3)), some (.inl (a4)), none, none], [], 0, 0, ix_mem 276 I5 J5 T5)) rfl ⟨rfl, rfl, rfl, rfl, p18⟩ ?_
            refine ix_br (fun c20 => ?_) (fun c20 => ?_)
            · have h21 := h19.1 c20
              refine ix_go 2 (x' := (56, [some (.inr (.inr (.inl (some (204))))), some (.inl (a0)), some (.inl (a1)), some (.inl (a2)), some (.inl (a3)), some (.inl (a4)), none, none], [.inl ((2 : Int32)), .inr (.inr (.inl (some (204))))], 0, 0, ix_mem 276 I5 J5 T5)) rfl trivial ?_
              refine ix_sp rfl ⟨rfl, ⟨ix_lt rfl, ix_eq rfl, ix_lt rfl⟩, ix_le rfl, Nat.le_refl _, Nat.le_refl _, tp_X12_is h21 (fun v22 I22 J22 T22 h22 => ?_)⟩
              change ix_W _ _ _ (59, [some (.inr (.inr (.inl (some (204))))), some (.inl (a0)), some (.inl (a1)), some (.inl (a2)), some (.inl (a3)), some (.inl (a4)), none, none], [.inl (v22)], 0, 0, ix_mem 276 I22 J22 T22)
              exact ix_sp rfl ⟨Nat.le_refl _, Nat.le_refl _, ix_01_ok h22.1, hQ _ _ _ _ h22.2⟩
            · have h21 := h19.2 c20
              obtain ⟨p23, h24⟩ := h21
              refine ix_go 6 (x' := (if I5 206 (a2).toNatClampNeg = (-1 : Int32) then 54 else 60, [some (.inr (.inr (.inl (some (204))))), some (.inl (a0)), some (.inl (a1)), some (.inl (a2)), some (.inl (a3)), some (.inl (a4)), none, none], [], 0, 0, ix_mem 276 I5 J5 T5)) rfl ⟨rfl, rfl, rfl, rfl, p23⟩ ?_
              refine ix_br (fun c25 => ?_) (fun c25 => ?_)
              · have h26 := h24.1 c25
                refine ix_go 2 (x' := (56, [some (.inr (.inr (.inl (some (204))))), some (.inl (a0)), some (.inl (a1)), some (.inl (a2)), some (.inl (a3)), some (.inl (a4)), none, none], [.inl ((2 : Int32)), .inr (.inr (.inl (some (204))))], 0, 0, ix_mem 276 I5 J5 T5)) rfl trivial ?_
                refine ix_sp rfl ⟨rfl, ⟨ix_lt rfl, ix_eq rfl, ix_lt rfl⟩, ix_le rfl, Nat.le_refl _, Nat.le_refl _, tp_X12_is h26 (fun v27 I27 J27 T27 h27 => ?_)⟩
                change ix_W _ _ _ (59, [some (.inr (.inr (.inl (some (204))))), some (.inl (a0)), some (.inl (a1)), some (.inl (a2)), some (.inl (a3)), some (.inl (a4)), none, none], [.inl (v27)], 0, 0, ix_mem 276 I27 J27 T27)
                exact ix_sp rfl ⟨Nat.le_refl _, Nat.le_refl _, ix_01_ok h27.1, hQ _ _ _ _ h27.2⟩
              · have h26 := h24.2 c25
                obtain ⟨p28, h29⟩ := h26
                refine ix_go 7 (x' := (71, [some (.inr (.inr (.inl (some (204))))), some (.inl (a0)), some (.inl (a1)), some (.inl (a2)), some (.inl (a3)), some (.inl (a4)), none, none], [.inl (a2), .inr (.inr (.inl (some (205)))), .inl (I5 205 (a0).toNatClampNeg)], 0, 0, ix_mem 276 I5 J5 T5)) rfl ⟨rfl, rfl, rfl, rfl, p28, rfl, rfl⟩ ?_
                obtain ⟨p30, h31⟩ := h29
                refine ix_go 2 (x' := (if I5 205 (a0).toNatClampNeg = I5 205 (a2).toNatClampNeg then 82 else 75, [some (.inr (.inr (.inl (some (204))))), some (.inl (a0)), some (.inl (a1)), some (.inl (a2)), some (.inl (a3)), some (.inl (a4)), none, none], [], 0, 0, ix_mem 276 I5 J5 T5)) rfl ⟨rfl, rfl, p30⟩ ?_
                refine ix_br (fun c32 => ?_) (fun c32 => ?_)
                · have h33 := h31.1 c32
                  obtain ⟨p34, h35⟩ := h33
                  refine ix_go 7 (x' := (92, [some (.inr (.inr (.inl (some (204))))), some (.inl (a0)), some (.inl (a1)), some (.inl (a2)), some (.inl (a3)), some (.inl (a4)), none, none], [.inl ((I5 206 (a0).toNatClampNeg) - (a1)), .inl (a4)], 0, 0, ix_mem 276 I5 J5 T5)) rfl ⟨rfl, rfl, rfl, rfl, p34⟩ ?_
                  refine ix_go 1 (x' := (if a4 ≤ (I5 206 (a0).toNatClampNeg) - (a1) then 95 else 109, [some (.inr (.inr (.inl (some (204))))), some (.inl (a0)), some (.inl (a1)), some (.inl (a2)), some (.inl (a3)), some (.inl (a4)), none, none], [], 0, 0, ix_mem 276 I5 J5 T5)) rfl trivial ?_
                  refine ix_br (fun c36 => ?_) (fun c36 => ?_)
                  · have h37 := h35.1 c36
                    obtain ⟨p38, h39⟩ := h37
                    refine ix_go 7 (x' := (106, [some (.inr (.inr (.inl (some (204))))), some (.inl (a0)), some (.inl (a1)), some (.inl (a2)), some (.inl (a3)), some (.inl (a4)), none, none], [.inl ((I5 206 (a2).toNatClampNeg) - (a3)), .inl (a4)], 0, 0, ix_mem 276 I5 J5 T5)) rfl ⟨rfl, rfl, rfl, rfl, p38⟩ ?_
                    refine ix_go 1 (x' := (if a4 ≤ (I5 206 (a2).toNatClampNeg) - (a3) then 115 else 109, [some (.inr (.inr (.inl (some (204))))), some (.inl (a0)), some (.inl (a1)), some (.inl (a2)), some (.inl (a3)), some (.inl (a4)), none, none], [], 0, 0, ix_mem 276 I5 J5 T5)) rfl trivial ?_
                    refine ix_br (fun c40 => ?_) (fun c40 => ?_)
                    · have h41 := h39.1 c40
                      refine ix_go 2 (x' := (118, [some (.inr (.inr (.inl (some (204))))), some (.inl (a0)), some (.inl (a1)), some (.inl (a2)), some (.inl (a3)), some (.inl (a4)), some (.inl ((0 : Int32))), none], [], 0, 0, ix_mem 276 I5 J5 T5)) rfl trivial ?_
                      refine ix_subW ([some (.inr (.inr (.inl (some (204))))), some (.inl (a0)), some (.inl (a1)), some (.inl (a2)), some (.inl (a3)), some (.inl (a4)), some (.inl ((0 : Int32))), none]) (ix_subS (ix_subS (ix_subS (ix_subS (ix_subS (ix_subS (ix_subS (ix_subS (ix_sub0))))))))) ?_
                      exact tl_X12_pour_118 h41 hQ
                    · have h41 := h39.2 c40
                      refine ix_go 2 (x' := (111, [some (.inr (.inr (.inl (some (204))))), some (.inl (a0)), some (.inl (a1)), some (.inl (a2)), some (.inl (a3)), some (.inl (a4)), none, none], [.inl ((3 : Int32)), .inr (.inr (.inl (some (204))))], 0, 0, ix_mem 276 I5 J5 T5)) rfl trivial ?_
                      refine ix_sp rfl ⟨rfl, ⟨ix_lt rfl, ix_eq rfl, ix_lt rfl⟩, ix_le rfl, Nat.le_refl _, Nat.le_refl _, tp_X12_is h41 (fun v55 I55 J55 T55 h55 => ?_)⟩
                      change ix_W _ _ _ (114, [some (.inr (.inr (.inl (some (204))))), some (.inl (a0)), some (.inl (a1)), some (.inl (a2)), some (.inl (a3)), some (.inl (a4)), none, none], [.inl (v55)], 0, 0, ix_mem 276 I55 J55 T55)
                      exact ix_sp rfl ⟨Nat.le_refl _, Nat.le_refl _, ix_01_ok h55.1, hQ _ _ _ _ h55.2⟩
                  · have h37 := h35.2 c36
                    refine ix_go 2 (x' := (111, [some (.inr (.inr (.inl (some (204))))), some (.inl (a0)), some (.inl (a1)), some (.inl (a2)), some (.inl (a3)), some (.inl (a4)), none, none], [.inl ((3 : Int32)), .inr (.inr (.inl (some (204))))], 0, 0, ix_mem 276 I5 J5 T5)) rfl trivial ?_
                    refine ix_sp rfl ⟨rfl, ⟨ix_lt rfl, ix_eq rfl, ix_lt rfl⟩, ix_le rfl, Nat.le_refl _, Nat.le_refl _, tp_X12_is h37 (fun v56 I56 J56 T56 h56 => ?_)⟩
                    change ix_W _ _ _ (114, [some (.inr (.inr (.inl (some (204))))), some (.inl (a0)), some (.inl (a1)), some (.inl (a2)), some (.inl (a3)), some (.inl (a4)), none, none], [.inl (v56)], 0, 0, ix_mem 276 I56 J56 T56)
                    exact ix_sp rfl ⟨Nat.le_refl _, Nat.le_refl _, ix_01_ok h56.1, hQ _ _ _ _ h56.2⟩
                · have h33 := h31.2 c32
                  refine ix_go 2 (x' := (78, [some (.inr (.inr (.inl (some (204))))), some (.inl (a0)), some (.inl (a1)), some (.inl (a2)), some (.inl (a3)), some (.inl (a4)), none, none], [.inl ((8 : Int32)), .inr (.inr (.inl (some (204))))], 0, 0, ix_mem 276 I5 J5 T5)) rfl trivial ?_
                  refine ix_sp rfl ⟨rfl, ⟨ix_lt rfl, ix_eq rfl, ix_lt rfl⟩, ix_le rfl, Nat.le_refl _, Nat.le_refl _, tp_X12_is h33 (fun v57 I57 J57 T57 h57 => ?_)⟩
                  change ix_W _ _ _ (81, [some (.inr (.inr (.inl (some (204))))), some (.inl (a0)), some (.inl (a1)), some (.inl (a2)), some (.inl (a3)), some (.inl (a4)), none, none], [.inl (v57)], 0, 0, ix_mem 276 I57 J57 T57)
                  exact ix_sp rfl ⟨Nat.le_refl _, Nat.le_refl _, ix_01_ok h57.1, hQ _ _ _ _ h57.2⟩
def wp_X12_isLand (a0 : Int32) (I : Nat → Nat → Int32) (J : Nat → Nat → Int64) (T : Option Nat) (P : Int32 → (Nat → Nat → Int32) → (Nat → Nat → Int64) → Option Nat → Prop) : Prop := ((a0 < 0 → P ((0 : Int32)) I J T) ∧ (¬ (a0 < 0) → ((a0 < I 204 6 → P ((1 : Int32)) I J T) ∧ (¬ (a0 < I 204 6) → P ((0 : Int32)) I J T))))
set_option maxRecDepth 20000 in
theorem tp_X12_isLand {d : Nat} {a0 : Int32} {I : Nat → Nat → Int32} {J : Nat → Nat → Int64} {T : Option Nat} {P : Int32 → (Nat → Nat → Int32) → (Nat → Nat → Int64) → Option Nat → Prop} {Q : ix_Q} (h : wp_X12_isLand a0 I J T P) (hQ : ∀ v I J T, P v I J T → Q (some (.inl v)) (ix_mem 276 I J T)) : ix_C (d + 1) 242 [.inr (.inr (.inl (some (204)))), .inl (a0)] (ix_mem 276 I J T) Q := by
  unfold wp_X12_isLand at h
  refine ix_enter (ls := [some (.inr (.inr (.inl (some (204))))), some (.inl (a0))]) rfl rfl rfl (Nat.le_of_ble_eq_true rfl) ?_
  refine ix_go 2 (x' := (if a0 < 0 then 16 else 4, [some (.inr (.inr (.inl (some (204))))), some (.inl (a0))], [], 0, 0, ix_mem 276 I J T)) rfl trivial ?_
  refine ix_br (fun c1 => ?_) (fun c1 => ?_)
  · have h2 := h.1 c1
    refine ix_go 1 (x' := (17, [some (.inr (.inr (.inl (some (204))))), some (.inl (a0))], [.inl ((0 : Int32))], 0, 0, ix_mem 276 I J T)) rfl trivial ?_
    exact ix_sp rfl ⟨Nat.le_refl _, Nat.le_refl _, ix_01_ok rfl, hQ _ _ _ _ h2⟩
  · have h2 := h.2 c1
    refine ix_go 4 (x' := (if a0 < I 204 6 then 12 else 16, [some (.inr (.inr (.inl (some (204))))), some (.inl (a0))], [], 0, 0, ix_mem 276 I J T)) rfl ⟨rfl, rfl⟩ ?_
    refine ix_br (fun c3 => ?_) (fun c3 => ?_)
    · have h4 := h2.1 c3
      refine ix_go 2 (x' := (17, [some (.inr (.inr (.inl (some (204))))), some (.inl (a0))], [.inl ((1 : Int32))], 0, 0, ix_mem 276 I J T)) rfl trivial ?_
      exact ix_sp rfl ⟨Nat.le_refl _, Nat.le_refl _, ix_01_ok rfl, hQ _ _ _ _ h4⟩
    · have h4 := h2.2 c3
      refine ix_go 1 (x' := (17, [some (.inr (.inr (.inl (some (204))))), some (.inl (a0))], [.inl ((0 : Int32))], 0, 0, ix_mem 276 I J T)) rfl trivial ?_
      exact ix_sp rfl ⟨Nat.le_refl _, Nat.le_refl _, ix_01_ok rfl, hQ _ _ _ _ h4⟩
def wp_X12_areTwo (a0 : Int32) (a1 : Int32) (I : Nat → Nat → Int32) (J : Nat → Nat → Int64) (T : Option Nat) (P : Int32 → (Nat → Nat → Int32) → (Nat → Nat → Int64) → Option Nat → Prop) : Prop := wp_X12_isLand (a0) I J T (fun v1 I1 J1 T1 => ((v1 = 0 → P ((0 : Int32)) I1 J1 T1) ∧ (¬ (v1 = 0) → wp_X12_isLand (a1) I1 J1 T1 (fun v4 I4 J4 T4 => ((v4 = 0 → P ((0 : Int32)) I4 J4 T4) ∧ (¬ (v4 = 0) → ((a0 = a1 → P ((0 : Int32)) I4 J4 T4) ∧ (¬ (a0 = a1) → P ((1 : Int32)) I4 J4 T4))))))))
set_option maxRecDepth 20000 in
theorem tp_X12_areTwo {d : Nat} {a0 : Int32} {a1 : Int32} {I : Nat → Nat → Int32} {J : Nat → Nat → Int64} {T : Option Nat} {P : Int32 → (Nat → Nat → Int32) → (Nat → Nat → Int64) → Option Nat → Prop} {Q : ix_Q} (h : wp_X12_areTwo a0 a1 I J T P) (hQ : ∀ v I J T, P v I J T → Q (some (.inl v)) (ix_mem 276 I J T)) : ix_C (d + 2) 243 [.inr (.inr (.inl (some (204)))), .inl (a0), .inl (a1)] (ix_mem 276 I J T) Q := by
  unfold wp_X12_areTwo at h
  refine ix_enter (ls := [some (.inr (.inr (.inl (some (204))))), some (.inl (a0)), some (.inl (a1))]) rfl rfl rfl (Nat.le_of_ble_eq_true rfl) ?_
  refine ix_go 2 (x' := (2, [some (.inr (.inr (.inl (some (204))))), some (.inl (a0)), some (.inl (a1))], [.inl (a0), .inr (.inr (.inl (some (204))))], 0, 0, ix_mem 276 I J T)) rfl trivial ?_
  refine ix_sp rfl ⟨rfl, ⟨ix_lt rfl, ix_eq rfl, ix_lt rfl⟩, ix_le rfl, Nat.le_refl _, Nat.le_refl _, tp_X12_isLand h (fun v1 I1 J1 T1 h1 => ?_)⟩
  change ix_W _ _ _ (5, [some (.inr (.inr (.inl (some (204))))), some (.inl (a0)), some (.inl (a1))], [.inl (v1)], 0, 0, ix_mem 276 I1 J1 T1)
  refine ix_go 1 (x' := (if v1 = 0 then 25 else 8, [some (.inr (.inr (.inl (some (204))))), some (.inl (a0)), some (.inl (a1))], [], 0, 0, ix_mem 276 I1 J1 T1)) rfl trivial ?_
  refine ix_br (fun c2 => ?_) (fun c2 => ?_)
  · have h3 := h1.1 c2
    refine ix_go 1 (x' := (26, [some (.inr (.inr (.inl (some (204))))), some (.inl (a0)), some (.inl (a1))], [.inl ((0 : Int32))], 0, 0, ix_mem 276 I1 J1 T1)) rfl trivial ?_
    exact ix_sp rfl ⟨Nat.le_refl _, Nat.le_refl _, ix_01_ok rfl, hQ _ _ _ _ h3⟩
  · have h3 := h1.2 c2
    refine ix_go 2 (x' := (10, [some (.inr (.inr (.inl (some (204))))), some (.inl (a0)), some (.inl (a1))], [.inl (a1), .inr (.inr (.inl (some (204))))], 0, 0, ix_mem 276 I1 J1 T1)) rfl trivial ?_
    refine ix_sp rfl ⟨rfl, ⟨ix_lt rfl, ix_eq rfl, ix_lt rfl⟩, ix_le rfl, Nat.le_refl _, Nat.le_refl _, tp_X12_isLand h3 (fun v4 I4 J4 T4 h4 => ?_)⟩
    change ix_W _ _ _ (13, [some (.inr (.inr (.inl (some (204))))), some (.inl (a0)), some (.inl (a1))], [.inl (v4)], 0, 0, ix_mem 276 I4 J4 T4)
    refine ix_go 1 (x' := (if v4 = 0 then 25 else 16, [some (.inr (.inr (.inl (some (204))))), some (.inl (a0)), some (.inl (a1))], [], 0, 0, ix_mem 276 I4 J4 T4)) rfl trivial ?_
    refine ix_br (fun c5 => ?_) (fun c5 => ?_)
    · have h6 := h4.1 c5
      refine ix_go 1 (x' := (26, [some (.inr (.inr (.inl (some (204))))), some (.inl (a0)), some (.inl (a1))], [.inl ((0 : Int32))], 0, 0, ix_mem 276 I4 J4 T4)) rfl trivial ?_
      exact ix_sp rfl ⟨Nat.le_refl _, Nat.le_refl _, ix_01_ok rfl, hQ _ _ _ _ h6⟩
    · have h6 := h4.2 c5
      refine ix_go 3 (x' := (if a0 = a1 then 25 else 21, [some (.inr (.inr (.inl (some (204))))), some (.inl (a0)), some (.inl (a1))], [], 0, 0, ix_mem 276 I4 J4 T4)) rfl trivial ?_
      refine ix_br (fun c7 => ?_) (fun c7 => ?_)
      · have h8 := h6.1 c7
        refine ix_go 1 (x' := (26, [some (.inr (.inr (.inl (some (204))))), some (.inl (a0)), some (.inl (a1))], [.inl ((0 : Int32))], 0, 0, ix_mem 276 I4 J4 T4)) rfl trivial ?_
        exact ix_sp rfl ⟨Nat.le_refl _, Nat.le_refl _, ix_01_ok rfl, hQ _ _ _ _ h8⟩
      · have h8 := h6.2 c7
        refine ix_go 2 (x' := (26, [some (.inr (.inr (.inl (some (204))))), some (.inl (a0)), some (.inl (a1))], [.inl ((1 : Int32))], 0, 0, ix_mem 276 I4 J4 T4)) rfl trivial ?_
        exact ix_sp rfl ⟨Nat.le_refl _, Nat.le_refl _, ix_01_ok rfl, hQ _ _ _ _ h8⟩
def wp_X12_isDay (a0 : Int32) (I : Nat → Nat → Int32) (J : Nat → Nat → Int64) (T : Option Nat) (P : Int32 → (Nat → Nat → Int32) → (Nat → Nat → Int64) → Option Nat → Prop) : Prop := ((a0 < 0 → P ((0 : Int32)) I J T) ∧ (¬ (a0 < 0) → ((a0 ≤ (9999 : Int32) → P ((1 : Int32)) I J T) ∧ (¬ (a0 ≤ (9999 : Int32)) → P ((0 : Int32)) I J T))))
set_option maxRecDepth 20000 in
theorem tp_X12_isDay {d : Nat} {a0 : Int32} {I : Nat → Nat → Int32} {J : Nat → Nat → Int64} {T : Option Nat} {P : Int32 → (Nat → Nat → Int32) → (Nat → Nat → Int64) → Option Nat → Prop} {Q : ix_Q} (h : wp_X12_isDay a0 I J T P) (hQ : ∀ v I J T, P v I J T → Q (some (.inl v)) (ix_mem 276 I J T)) : ix_C (d + 1) 244 [.inl (a0)] (ix_mem 276 I J T) Q := by
  unfold wp_X12_isDay at h
  refine ix_enter (ls := [some (.inl (a0))]) rfl rfl rfl (Nat.le_of_ble_eq_true rfl) ?_
  refine ix_go 2 (x' := (if a0 < 0 then 15 else 4, [some (.inl (a0))], [], 0, 0, ix_mem 276 I J T)) rfl trivial ?_
  refine ix_br (fun c1 => ?_) (fun c1 => ?_)
  · have h2 := h.1 c1
    refine ix_go 1 (x' := (16, [some (.inl (a0))], [.inl ((0 : Int32))], 0, 0, ix_mem 276 I J T)) rfl trivial ?_
    exact ix_sp rfl ⟨Nat.le_refl _, Nat.le_refl _, ix_01_ok rfl, hQ _ _ _ _ h2⟩
  · have h2 := h.2 c1
    refine ix_go 3 (x' := (if a0 ≤ (9999 : Int32) then 11 else 15, [some (.inl (a0))], [], 0, 0, ix_mem 276 I J T)) rfl trivial ?_
    refine ix_br (fun c3 => ?_) (fun c3 => ?_)
    · have h4 := h2.1 c3
      refine ix_go 2 (x' := (16, [some (.inl (a0))], [.inl ((1 : Int32))], 0, 0, ix_mem 276 I J T)) rfl trivial ?_
      exact ix_sp rfl ⟨Nat.le_refl _, Nat.le_refl _, ix_01_ok rfl, hQ _ _ _ _ h4⟩
    · have h4 := h2.2 c3
      refine ix_go 1 (x' := (16, [some (.inl (a0))], [.inl ((0 : Int32))], 0, 0, ix_mem 276 I J T)) rfl trivial ?_
      exact ix_sp rfl ⟨Nat.le_refl _, Nat.le_refl _, ix_01_ok rfl, hQ _ _ _ _ h4⟩
def wp_X12_pair (a0 : Int32) (a1 : Int32) (I : Nat → Nat → Int32) (J : Nat → Nat → Int64) (T : Option Nat) (P : Int32 → (Nat → Nat → Int32) → (Nat → Nat → Int64) → Option Nat → Prop) : Prop := P ((((7 : Int32)) * (a0)) + (a1)) I J T
set_option maxRecDepth 20000 in
theorem tp_X12_pair {d : Nat} {a0 : Int32} {a1 : Int32} {I : Nat → Nat → Int32} {J : Nat → Nat → Int64} {T : Option Nat} {P : Int32 → (Nat → Nat → Int32) → (Nat → Nat → Int64) → Option Nat → Prop} {Q : ix_Q} (h : wp_X12_pair a0 a1 I J T P) (hQ : ∀ v I J T, P v I J T → Q (some (.inl v)) (ix_mem 276 I J T)) : ix_C (d + 1) 245 [.inl (a0), .inl (a1)] (ix_mem 276 I J T) Q := by
  unfold wp_X12_pair at h
  refine ix_enter (ls := [some (.inl (a0)), some (.inl (a1))]) rfl rfl rfl (Nat.le_of_ble_eq_true rfl) ?_
  refine ix_go 5 (x' := (6, [some (.inl (a0)), some (.inl (a1))], [.inl ((((7 : Int32)) * (a0)) + (a1))], 0, 0, ix_mem 276 I J T)) rfl trivial ?_
  exact ix_sp rfl ⟨Nat.le_refl _, Nat.le_refl _, trivial, hQ _ _ _ _ h⟩
def wp_X12_land (I : Nat → Nat → Int32) (J : Nat → Nat → Int64) (T : Option Nat) (P : Int32 → (Nat → Nat → Int32) → (Nat → Nat → Int64) → Option Nat → Prop) : Prop := ((I 204 6 = (7 : Int32) → wp_X12_refuse ((4 : Int32)) I J T (fun v3 I3 J3 T3 => P (v3) I3 J3 T3)) ∧ (¬ (I 204 6 = (7 : Int32)) → wp_X12_gives ((((I 204 6) + ((1 : Int32)))) - ((1 : Int32))) (ix_u2 I 204 6 ((I 204 6) + ((1 : Int32)))) J T (fun v4 I4 J4 T4 => P (v4) I4 J4 T4)))
set_option maxRecDepth 20000 in
theorem tp_X12_land {d : Nat} {I : Nat → Nat → Int32} {J : Nat → Nat → Int64} {T : Option Nat} {P : Int32 → (Nat → Nat → Int32) → (Nat → Nat → Int64) → Option Nat → Prop} {Q : ix_Q} (h : wp_X12_land I J T P) (hQ : ∀ v I J T, P v I J T → Q (some (.inl v)) (ix_mem 276 I J T)) : ix_C (d + 2) 246 [.inr (.inr (.inl (some (204))))] (ix_mem 276 I J T) Q := by
  unfold wp_X12_land at h
  refine ix_enter (ls := [some (.inr (.inr (.inl (some (204)))))]) rfl rfl rfl (Nat.le_of_ble_eq_true rfl) ?_
  refine ix_go 4 (x' := (if I 204 6 = (7 : Int32) then 9 else 15, [some (.inr (.inr (.inl (some (204)))))], [], 0, 0, ix_mem 276 I J T)) rfl ⟨rfl, rfl⟩ ?_
  refine ix_br (fun c1 => ?_) (fun c1 => ?_)
  · have h2 := h.1 c1
    refine ix_go 2 (x' := (11, [some (.inr (.inr (.inl (some (204)))))], [.inl ((4 : Int32)), .inr (.inr (.inl (some (204))))], 0, 0, ix_mem 276 I J T)) rfl trivial ?_
    refine ix_sp rfl ⟨rfl, ⟨ix_lt rfl, ix_eq rfl, ix_lt rfl⟩, ix_le rfl, Nat.le_refl _, Nat.le_refl _, tp_X12_refuse h2 (fun v3 I3 J3 T3 h3 => ?_)⟩
    change ix_W _ _ _ (14, [some (.inr (.inr (.inl (some (204)))))], [.inl (v3)], 0, 0, ix_mem 276 I3 J3 T3)
    exact ix_sp rfl ⟨Nat.le_refl _, Nat.le_refl _, trivial, hQ _ _ _ _ h3⟩
  · have h2 := h.2 c1
    refine ix_go 7 (x' := (26, [some (.inr (.inr (.inl (some (204)))))], [.inr (.inr (.inl (some (204))))], 0, 0, ix_mem 276 (ix_u2 I 204 6 ((I 204 6) + ((1 : Int32)))) J T)) rfl ⟨rfl, rfl, rfl, rfl⟩ ?_
    refine ix_go 4 (x' := (32, [some (.inr (.inr (.inl (some (204)))))], [.inl ((((I 204 6) + ((1 : Int32)))) - ((1 : Int32))), .inr (.inr (.inl (some (204))))], 0, 0, ix_mem 276 (ix_u2 I 204 6 ((I 204 6) + ((1 : Int32)))) J T)) rfl ⟨rfl, rfl⟩ ?_
    refine ix_sp rfl ⟨rfl, ⟨ix_lt rfl, ix_eq rfl, ix_lt rfl⟩, ix_le rfl, Nat.le_refl _, Nat.le_refl _, tp_X12_gives h2 (fun v4 I4 J4 T4 h4 => ?_)⟩
    change ix_W _ _ _ (35, [some (.inr (.inr (.inl (some (204)))))], [.inl (v4)], 0, 0, ix_mem 276 I4 J4 T4)
    exact ix_sp rfl ⟨Nat.le_refl _, Nat.le_refl _, trivial, hQ _ _ _ _ h4⟩
def wp_X12_gold (a0 : Int32) (a1 : Int32) (a2 : Int32) (I : Nat → Nat → Int32) (J : Nat → Nat → Int64) (T : Option Nat) (P : Int32 → (Nat → Nat → Int32) → (Nat → Nat → Int64) → Option Nat → Prop) : Prop := wp_X12_isLand (a0) I J T (fun v1 I1 J1 T1 => ((v1 = 0 → wp_X12_is ((1 : Int32)) I1 J1 T1 (fun v4 I4 J4 T4 => ix_01 (v4) = true ∧ P (v4) I4 J4 T4)) ∧ (¬ (v1 = 0) → wp_X12_isDay (a1) I1 J1 T1 (fun v5 I5 J5 T5 => ((v5 = 0 → wp_X12_is ((1 : Int32)) I5 J5 T5 (fun v8 I8 J8 T8 => ix_01 (v8) = true ∧ P (v8) I8 J8 T8)) ∧ (¬ (v5 = 0) → ((a2 < (1 : Int32) → wp_X12_is ((1 : Int32)) I5 J5 T5 (fun v11 I11 J11 T11 => ix_01 (v11) = true ∧ P (v11) I11 J11 T11)) ∧ (¬ (a2 < (1 : Int32)) → ((a2 ≤ (1000000 : Int32) → ((I5 204 7 = (40 : Int32) → wp_X12_is ((4 : Int32)) I5 J5 T5 (fun v16 I16 J16 T16 => ix_01 (v16) = true ∧ P (v16) I16 J16 T16)) ∧ (¬ (I5 204 7 = (40 : Int32)) → ix_inb (I5 204 7) 40 = true ∧ ix_inb (I5 204 7) 40 = true ∧ ix_inb (I5 204 7) 40 = true ∧ wp_X12_is ((0 : Int32)) (ix_u2 (ix_u2 (ix_u2 (ix_u2 I5 208 (I5 204 7).toNatClampNeg (a0)) 209 (I5 204 7).toNatClampNeg (a1)) 210 (I5 204 7).toNatClampNeg (a2)) 204 7 ((I5 204 7) + ((1 : Int32)))) J5 T5 (fun v23 I23 J23 T23 => ix_01 (v23) = true ∧ P (v23) I23 J23 T23)))) ∧ (¬ (a2 ≤ (1000000 : Int32)) → wp_X12_is ((1 : Int32)) I5 J5 T5 (fun v24 I24 J24 T24 => ix_01 (v24) = true ∧ P (v24) I24 J24 T24)))))))))))
set_option maxRecDepth 20000 in
theorem tp_X12_gold {d : Nat} {a0 : Int32} {a1 : Int32} {a2 : Int32} {I : Nat → Nat → Int32} {J : Nat → Nat → Int64} {T : Option Nat} {P : Int32 → (Nat → Nat → Int32) → (Nat → Nat → Int64) → Option Nat → Prop} {Q : ix_Q} (h : wp_X12_gold a0 a1 a2 I J T P) (hQ : ∀ v I J T, P v I J T → Q (some (.inl v)) (ix_mem 276 I J T)) : ix_C (d + 2) 247 [.inr (.inr (.inl (some (204)))), .inl (a0), .inl (a1), .inl (a2)] (ix_mem 276 I J T) Q := by
  unfold wp_X12_gold at h
  refine ix_enter (ls := [some (.inr (.inr (.inl (some (204))))), some (.inl (a0)), some (.inl (a1)), some (.inl (a2))]) rfl rfl rfl (Nat.le_of_ble_eq_true rfl) ?_
  refine ix_go 2 (x' := (2, [some (.inr (.inr (.inl (some (204))))), some (.inl (a0)), some (.inl (a1)), some (.inl (a2))], [.inl (a0), .inr (.inr (.inl (some (204))))], 0, 0, ix_mem 276 I J T)) rfl trivial ?_
  refine ix_sp rfl ⟨rfl, ⟨ix_lt rfl, ix_eq rfl, ix_lt rfl⟩, ix_le rfl, Nat.le_refl _, Nat.le_refl _, tp_X12_isLand h (fun v1 I1 J1 T1 h1 => ?_)⟩
  change ix_W _ _ _ (5, [some (.inr (.inr (.inl (some (204))))), some (.inl (a0)), some (.inl (a1)), some (.inl (a2))], [.inl (v1)], 0, 0, ix_mem 276 I1 J1 T1)
  refine ix_go 1 (x' := (if v1 = 0 then 27 else 8, [some (.inr (.inr (.inl (some (204))))), some (.inl (a0)), some (.inl (a1)), some (.inl (a2))], [], 0, 0, ix_mem 276 I1 J1 T1)) rfl trivial ?_
  refine ix_br (fun c2 => ?_) (fun c2 => ?_)
  · have h3 := h1.1 c2
    refine ix_go 2 (x' := (29, [some (.inr (.inr (.inl (some (204))))), some (.inl (a0)), some (.inl (a1)), some (.inl (a2))], [.inl ((1 : Int32)), .inr (.inr (.inl (some (204))))], 0, 0, ix_mem 276 I1 J1 T1)) rfl trivial ?_
    refine ix_sp rfl ⟨rfl, ⟨ix_lt rfl, ix_eq rfl, ix_lt rfl⟩, ix_le rfl, Nat.le_refl _, Nat.le_refl _, tp_X12_is h3 (fun v4 I4 J4 T4 h4 => ?_)⟩
    change ix_W _ _ _ (32, [some (.inr (.inr (.inl (some (204))))), some (.inl (a0)), some (.inl (a1)), some (.inl (a2))], [.inl (v4)], 0, 0, ix_mem 276 I4 J4 T4)
    exact ix_sp rfl ⟨Nat.le_refl _, Nat.le_refl _, ix_01_ok h4.1, hQ _ _ _ _ h4.2⟩
  · have h3 := h1.2 c2
    refine ix_go 1 (x' := (9, [some (.inr (.inr (.inl (some (204))))), some (.inl (a0)), some (.inl (a1)), some (.inl (a2))], [.inl (a1)], 0, 0, ix_mem 276 I1 J1 T1)) rfl trivial ?_
    refine ix_sp rfl ⟨rfl, trivial, ix_le rfl, Nat.le_refl _, Nat.le_refl _, tp_X12_isDay h3 (fun v5 I5 J5 T5 h5 => ?_)⟩
    change ix_W _ _ _ (12, [some (.inr (.inr (.inl (some (204))))), some (.inl (a0)), some (.inl (a1)), some (.inl (a2))], [.inl (v5)], 0, 0, ix_mem 276 I5 J5 T5)
    refine ix_go 1 (x' := (if v5 = 0 then 27 else 15, [some (.inr (.inr (.inl (some (204))))), some (.inl (a0)), some (.inl (a1)), some (.inl (a2))], [], 0, 0, ix_mem 276 I5 J5 T5)) rfl trivial ?_
    refine ix_br (fun c6 => ?_) (fun c6 => ?_)
    · have h7 := h5.1 c6
      refine ix_go 2 (x' := (29, [some (.inr (.inr (.inl (some (204))))), some (.inl (a0)), some (.inl (a1)), some (.inl (a2))], [.inl ((1 : Int32)), .inr (.inr (.inl (some (204))))], 0, 0, ix_mem 276 I5 J5 T5)) rfl trivial ?_
      refine ix_sp rfl ⟨rfl, ⟨ix_lt rfl, ix_eq rfl, ix_lt rfl⟩, ix_le rfl, Nat.le_refl _, Nat.le_refl _, tp_X12_is h7 (fun v8 I8 J8 T8 h8 => ?_)⟩
      change ix_W _ _ _ (32, [some (.inr (.inr (.inl (some (204))))), some (.inl (a0)), some (.inl (a1)), some (.inl (a2))], [.inl (v8)], 0, 0, ix_mem 276 I8 J8 T8)
      exact ix_sp rfl ⟨Nat.le_refl _, Nat.le_refl _, ix_01_ok h8.1, hQ _ _ _ _ h8.2⟩
    · have h7 := h5.2 c6
      refine ix_go 3 (x' := (if a2 < (1 : Int32) then 27 else 20, [some (.inr (.inr (.inl (some (204))))), some (.inl (a0)), some (.inl (a1)), some (.inl (a2))], [], 0, 0, ix_mem 276 I5 J5 T5)) rfl trivial ?_
      refine ix_br (fun c9 => ?_) (fun c9 => ?_)
      · have h10 := h7.1 c9
        refine ix_go 2 (x' := (29, [some (.inr (.inr (.inl (some (204))))), some (.inl (a0)), some (.inl (a1)), some (.inl (a2))], [.inl ((1 : Int32)), .inr (.inr (.inl (some (204))))], 0, 0, ix_mem 276 I5 J5 T5)) rfl trivial ?_
        refine ix_sp rfl ⟨rfl, ⟨ix_lt rfl, ix_eq rfl, ix_lt rfl⟩, ix_le rfl, Nat.le_refl _, Nat.le_refl _, tp_X12_is h10 (fun v11 I11 J11 T11 h11 => ?_)⟩
        change ix_W _ _ _ (32, [some (.inr (.inr (.inl (some (204))))), some (.inl (a0)), some (.inl (a1)), some (.inl (a2))], [.inl (v11)], 0, 0, ix_mem 276 I11 J11 T11)
        exact ix_sp rfl ⟨Nat.le_refl _, Nat.le_refl _, ix_01_ok h11.1, hQ _ _ _ _ h11.2⟩
      · have h10 := h7.2 c9
        refine ix_go 3 (x' := (if a2 ≤ (1000000 : Int32) then 33 else 27, [some (.inr (.inr (.inl (some (204))))), some (.inl (a0)), some (.inl (a1)), some (.inl (a2))], [], 0, 0, ix_mem 276 I5 J5 T5)) rfl trivial ?_
        refine ix_br (fun c12 => ?_) (fun c12 => ?_)
        · have h13 := h10.1 c12
          refine ix_go 4 (x' := (if I5 204 7 = (40 : Int32) then 42 else 48, [some (.inr (.inr (.inl (some (204))))), some (.inl (a0)), some (.inl (a1)), some (.inl (a2))], [], 0, 0, ix_mem 276 I5 J5 T5)) rfl ⟨rfl, rfl⟩ ?_
          refine ix_br (fun c14 => ?_) (fun c14 => ?_)
          · have h15 := h13.1 c14
            refine ix_go 2 (x' := (44, [some (.inr (.inr (.inl (some (204))))), some (.inl (a0)), some (.inl (a1)), some (.inl (a2))], [.inl ((4 : Int32)), .inr (.inr (.inl (some (204))))], 0, 0, ix_mem 276 I5 J5 T5)) rfl trivial ?_
            refine ix_sp rfl ⟨rfl, ⟨ix_lt rfl, ix_eq rfl, ix_lt rfl⟩, ix_le rfl, Nat.le_refl _, Nat.le_refl _, tp_X12_is h15 (fun v16 I16 J16 T16 h16 => ?_)⟩
            change ix_W _ _ _ (47, [some (.inr (.inr (.inl (some (204))))), some (.inl (a0)), some (.inl (a1)), some (.inl (a2))], [.inl (v16)], 0, 0, ix_mem 276 I16 J16 T16)
            exact ix_sp rfl ⟨Nat.le_refl _, Nat.le_refl _, ix_01_ok h16.1, hQ _ _ _ _ h16.2⟩
          · have h15 := h13.2 c14
            obtain ⟨p17, h18⟩ := h15
            refine ix_go 7 (x' := (59, [some (.inr (.inr (.inl (some (204))))), some (.inl (a0)), some (.inl (a1)), some (.inl (a2))], [.inr (.inr (.inl (some (204))))], 0, 0, ix_mem 276 (ix_u2 I5 208 (I5 204 7).toNatClampNeg (a0)) J5 T5)) rfl ⟨rfl, rfl, rfl, rfl, rfl, rfl, p17⟩ ?_
            obtain ⟨p19, h20⟩ := h18
            refine ix_go 7 (x' := (72, [some (.inr (.inr (.inl (some (204))))), some (.inl (a0)), some (.inl (a1)), some (.inl (a2))], [.inr (.inr (.inl (some (210))))], 0, 0, ix_mem 276 (ix_u2 (ix_u2 I5 208 (I5 204 7).toNatClampNeg (a0)) 209 (I5 204 7).toNatClampNeg (a1)) J5 T5)) rfl ⟨rfl, rfl, rfl, rfl, rfl, rfl, p19, rfl, rfl⟩ ?_
            obtain ⟨p21, h22⟩ := h20
            refine ix_go 7 (x' := (83, [some (.inr (.inr (.inl (some (204))))), some (.inl (a0)), some (.inl (a1)), some (.inl (a2))], [.inl (I5 204 7), .inr (.inr (.inl (some (204))))], 0, 0, ix_mem 276 (ix_u2 (ix_u2 (ix_u2 I5 208 (I5 204 7).toNatClampNeg (a0)) 209 (I5 204 7).toNatClampNeg (a1)) 210 (I5 204 7).toNatClampNeg (a2)) J5 T5)) rfl ⟨rfl, rfl, rfl, rfl, p21, rfl, rfl⟩ ?_
            refine ix_go 5 (x' := (90, [some (.inr (.inr (.inl (some (204))))), some (.inl (a0)), some (.inl (a1)), some (.inl (a2))], [.inl ((0 : Int32)), .inr (.inr (.inl (some (204))))], 0, 0, ix_mem 276 (ix_u2 (ix_u2 (ix_u2 (ix_u2 I5 208 (I5 204 7).toNatClampNeg (a0)) 209 (I5 204 7).toNatClampNeg (a1)) 210 (I5 204 7).toNatClampNeg (a2)) 204 7 ((I5 204 7) + ((1 : Int32)))) J5 T5)) rfl ⟨rfl, rfl⟩ ?_
            refine ix_sp rfl ⟨rfl, ⟨ix_lt rfl, ix_eq rfl, ix_lt rfl⟩, ix_le rfl, Nat.le_refl _, Nat.le_refl _, tp_X12_is h22 (fun v23 I23 J23 T23 h23 => ?_)⟩
            change ix_W _ _ _ (93, [some (.inr (.inr (.inl (some (204))))), some (.inl (a0)), some (.inl (a1)), some (.inl (a2))], [.inl (v23)], 0, 0, ix_mem 276 I23 J23 T23)
            exact ix_sp rfl ⟨Nat.le_refl _, Nat.le_refl _, ix_01_ok h23.1, hQ _ _ _ _ h23.2⟩
        · have h13 := h10.2 c12
          refine ix_go 2 (x' := (29, [some (.inr (.inr (.inl (some (204))))), some (.inl (a0)), some (.inl (a1)), some (.inl (a2))], [.inl ((1 : Int32)), .inr (.inr (.inl (some (204))))], 0, 0, ix_mem 276 I5 J5 T5)) rfl trivial ?_
          refine ix_sp rfl ⟨rfl, ⟨ix_lt rfl, ix_eq rfl, ix_lt rfl⟩, ix_le rfl, Nat.le_refl _, Nat.le_refl _, tp_X12_is h13 (fun v24 I24 J24 T24 h24 => ?_)⟩
          change ix_W _ _ _ (32, [some (.inr (.inr (.inl (some (204))))), some (.inl (a0)), some (.inl (a1)), some (.inl (a2))], [.inl (v24)], 0, 0, ix_mem 276 I24 J24 T24)
          exact ix_sp rfl ⟨Nat.le_refl _, Nat.le_refl _, ix_01_ok h24.1, hQ _ _ _ _ h24.2⟩
def wb_X12_coins_47 (x1 : Int32) (x2 : Int32) (x3 : Int64) (x5 : Int64) (x7 : Int32) (x8 : Int32) (I : Nat → Nat → Int32) (J : Nat → Nat → Int64) (T : Option Nat) (V47 : Int32 → Int32 → Int64 → Int64 → Int32 → Int32 → (Nat → Nat → Int32) → (Nat → Nat → Int64) → Option Nat → Prop) (P : Int64 → (Nat → Nat → Int32) → (Nat → Nat → Int64) → Option Nat → Prop) : Prop := ((x8 < I 204 7 → ix_inb (x8) 40 = true ∧ ((I 208 (x8).toNatClampNeg = x1 → ix_inb (x8) 40 = true ∧ ((I 209 (x8).toNatClampNeg ≤ x2 → ix_inb (x8) 40 = true ∧ ((I 209 (x8).toNatClampNeg < x7 → V47 (x1) (x2) (x3) (x5) (x7) (x8 + (1 : Int32)) I J T) ∧ (¬ (I 209 (x8).toNatClampNeg < x7) → ix_inb (x8) 40 = true ∧ ix_inb (x8) 40 = true ∧ V47 (x1) (x2) (x3) ((I 210 (x8).toNatClampNeg).toInt64) (I 209 (x8).toNatClampNeg) (x8 + (1 : Int32)) I J T))) ∧ (¬ (I 209 (x8).toNatClampNeg ≤ x2) → V47 (x1) (x2) (x3) (x5) (x7) (x8 + (1 : Int32)) I J T))) ∧ (¬ (I 208 (x8).toNatClampNeg = x1) → V47 (x1) (x2) (x3) (x5) (x7) (x8 + (1 : Int32)) I J T))) ∧ (¬ (x8 < I 204 7) → wp_X12_givesLong (((x3) * (x5)) / ((1000 : Int64))) I J T (fun v32 I32 J32 T32 => P (v32) I32 J32 T32)))
def wl_X12_coins_47 (x1 : Int32) (x2 : Int32) (x3 : Int64) (x5 : Int64) (x7 : Int32) (x8 : Int32) (I : Nat → Nat → Int32) (J : Nat → Nat → Int64) (T : Option Nat) (P : Int64 → (Nat → Nat → Int32) → (Nat → Nat → Int64) → Option Nat → Prop) : Prop := ∀ V : Int32 → Int32 → Int64 → Int64 → Int32 → Int32 → (Nat → Nat → Int32) → (Nat → Nat → Int64) → Option Nat → Prop, (∀ (x1 : Int32) (x2 : Int32) (x3 : Int64) (x5 : Int64) (x7 : Int32) (x8 : Int32) (I : Nat → Nat → Int32) (J : Nat → Nat → Int64) (T : Option Nat), wb_X12_coins_47 x1 x2 x3 x5 x7 x8 I J T V P → V x1 x2 x3 x5 x7 x8 I J T) → V x1 x2 x3 x5 x7 x8 I J T
set_option maxRecDepth 20000 in
theorem tl_X12_coins_47 {d : Nat} {x1 : Int32} {x2 : Int32} {x3 : Int64} {x5 : Int64} {x7 : Int32} {x8 : Int32} {I : Nat → Nat → Int32} {J : Nat → Nat → Int64} {T : Option Nat} {P : Int64 → (Nat → Nat → Int32) → (Nat → Nat → Int64) → Option Nat → Prop} {Q : ix_Q} (h : wl_X12_coins_47 x1 x2 x3 x5 x7 x8 I J T P) (hQ : ∀ v I J T, P v I J T → Q (some (.inr (.inl v))) (ix_mem 276 I J T)) : ix_W (ix_C (d + 1)) (12, ix_lk ix_l248, (some .long), 0, 0, Nat.blt 0 0, none) Q (47, [some (.inr (.inr (.inl (some (204))))), some (.inl (x1)), some (.inl (x2)), some (.inr (.inl (x3))), none, some (.inr (.inl (x5))), none, some (.inl (x7)), some (.inl (x8))], [], 0, 0, ix_mem 276 I J T) := by
  refine h (fun x1 x2 x3 x5 x7 x8 I J T => ix_W (ix_C (d + 1)) (12, ix_lk ix_l248, (some .long), 0, 0, Nat.blt 0 0, none) Q (47, [some (.inr (.inr (.inl (some (204))))), some (.inl (x1)), some (.inl (x2)), some (.inr (.inl (x3))), none, some (.inr (.inl (x5))), none, some (.inl (x7)), some (.inl (x8))], [], 0, 0, ix_mem 276 I J T)) ?_
  intro x1 x2 x3 x5 x7 x8 I J T hb
  unfold wb_X12_coins_47 at hb
  refine ix_go 4 (x' := (if x8 < I 204 7 then 56 else 118, [some (.inr (.inr (.inl (some (204))))), some (.inl (x1)), some (.inl (x2)), some (.inr (.inl (x3))), none, some (.inr (.inl (x5))), none, some (.inl (x7)), some (.inl (x8))], [], 0, 0, ix_mem 276 I J T)) rfl ⟨rfl, rfl⟩ ?_
  refine ix_br (fun c14 => ?_) (fun c14 => ?_)
  · have h15 := hb.1 c14
    obtain ⟨p16, h17⟩ := h15
    refine ix_go 6 (x' := (if I 208 (x8).toNatClampNeg = x1 then 67 else 112, [some (.inr (.inr (.inl (some (204))))), some (.inl (x1)), some (.inl (x2)), some (.inr (.inl (x3))), none, some (.inr (.inl (x5))), none, some (.inl (x7)), some (.inl (x8))], [], 0, 0, ix_mem 276 I J T)) rfl ⟨rfl, rfl, rfl, rfl, p16⟩ ?_
    refine ix_br (fun c18 => ?_) (fun c18 => ?_)
    · have h19 := h17.1 c18
      obtain ⟨p20, h21⟩ := h19
      refine ix_go 6 (x' := (if I 209 (x8).toNatClampNeg ≤ x2 then 78 else 112, [some (.inr (.inr (.inl (some (204))))), some (.inl (x1)), some (.inl (x2)), some (.inr (.inl (x3))), none, some (.inr (.inl (x5))), none, some (.inl (x7)), some (.inl (x8))], [], 0, 0, ix_mem 276 I J T)) rfl ⟨rfl, rfl, rfl, rfl, p20⟩ ?_
      refine ix_br (fun c22 => ?_) (fun c22 => ?_)
      · have h23 := h21.1 c22
        obtain ⟨p24, h25⟩ := h23
        refine ix_go 6 (x' := (if I 209 (x8).toNatClampNeg < x7 then 90 else 93, [some (.inr (.inr (.inl (some (204))))), some (.inl (x1)), some (.inl (x2)), some (.inr (.inl (x3))), none, some (.inr (.inl (x5))), none, some (.inl (x7)), some (.inl (x8))], [], 0, 0, ix_mem 276 I J T)) rfl ⟨rfl, rfl, rfl, rfl, p24⟩ ?_
        refine ix_br (fun c26 => ?_) (fun c26 => ?_)
        · have h27 := h25.1 c26
          refine ix_go 3 (x' := (47, [some (.inr (.inr (.inl (some (204))))), some (.inl (x1)), some (.inl (x2)), some (.inr (.inl (x3))), none, some (.inr (.inl (x5))), none, some (.inl (x7)), some (.inl (x8 + (1 : Int32)))], [], 0, 0, ix_mem 276 I J T)) rfl trivial ?_
          refine ix_subW ([some (.inr (.inr (.inl (some (204))))), some (.inl (x1)), some (.inl (x2)), some (.inr (.inl (x3))), none, some (.inr (.inl (x5))), none, some (.inl (x7)), some (.inl (x8 + (1 : Int32)))]) (ix_subS (ix_subS (ix_subS (ix_subS (ix_subS (ix_subS (ix_subS (ix_subS (ix_subS (ix_sub0)))))))))) ?_
          exact h27
        · have h27 := h25.2 c26
          obtain ⟨p28, h29⟩ := h27
          refine ix_go 7 (x' := (106, [some (.inr (.inr (.inl (some (204))))), some (.inl (x1)), some (.inl (x2)), some (.inr (.inl (x3))), none, some (.inr (.inl (x5))), none, some (.inl (I 209 (x8).toNatClampNeg)), some (.inl (x8))], [.inr (.inr (.inl (some (210))))], 0, 0, ix_mem 276 I J T)) rfl ⟨rfl, rfl, rfl, rfl, p28, rfl, rfl⟩ ?_
          obtain ⟨p30, h31⟩ := h29
          refine ix_go 6 (x' := (47, [some (.inr (.inr (.inl (some (204))))), some (.inl (x1)), some (.inl (x2)), some (.inr (.inl (x3))), none, some (.inr (.inl ((I 210 (x8).toNatClampNeg).toInt64))), none, some (.inl (I 209 (x8).toNatClampNeg)), some (.inl (x8 + (1 : Int32)))], [], 0, 0, ix_mem 276 I J T)) rfl ⟨rfl, rfl, p30⟩ ?_
          refine ix_subW ([some (.inr (.inr (.inl (some (204))))), some (.inl (x1)), some (.inl (x2)), some (.inr (.inl (x3))), none, some (.inr (.inl ((I 210 (x8).toNatClampNeg).toInt64))), none, some (.inl (I 209 (x8).toNatClampNeg)), some (.inl (x8 + (1 : Int32)))]) (ix_subS (ix_subS (ix_subS (ix_subS (ix_subS (ix_subS (ix_subS (ix_subS (ix_subS (ix_sub0)))))))))) ?_
          exact h31
      · have h23 := h21.2 c22
        refine ix_go 2 (x' := (47, [some (.inr (.inr (.inl (some (204))))), some (.inl (x1)), some (.inl (x2)), some (.inr (.inl (x3))), none, some (.inr (.inl (x5))), none, some (.inl (x7)), some (.inl (x8 + (1 : Int32)))], [], 0, 0, ix_mem 276 I J T)) rfl trivial ?_
        refine ix_subW ([some (.inr (.inr (.inl (some (204))))), some (.inl (x1)), some (.inl (x2)), some (.inr (.inl (x3))), none, some (.inr (.inl (x5))), none, some (.inl (x7)), some (.inl (x8 + (1 : Int32)))]) (ix_subS (ix_subS (ix_subS (ix_subS (ix_subS (ix_subS (ix_subS (ix_subS (ix_subS (ix_sub0)))))))))) ?_
        exact h23
    · have h19 := h17.2 c18
      refine ix_go 2 (x' := (47, [some (.inr (.inr (.inl (some (204))))), some (.inl (x1)), some (.inl (x2)), some (.inr (.inl (x3))), none, some (.inr (.inl (x5))), none, some (.inl (x7)), some (.inl (x8 + (1 : Int32)))], [], 0, 0, ix_mem 276 I J T)) rfl trivial ?_
      refine ix_subW ([some (.inr (.inr (.inl (some (204))))), some (.inl (x1)), some (.inl (x2)), some (.inr (.inl (x3))), none, some (.inr (.inl (x5))), none, some (.inl (x7)), some (.inl (x8 + (1 : Int32)))]) (ix_subS (ix_subS (ix_subS (ix_subS (ix_subS (ix_subS (ix_subS (ix_subS (ix_subS (ix_sub0)))))))))) ?_
      exact h19
  · have h15 := hb.2 c14
    refine ix_go 6 (x' := (127, [some (.inr (.inr (.inl (some (204))))), some (.inl (x1)), some (.inl (x2)), some (.inr (.inl (x3))), none, some (.inr (.inl (x5))), none, some (.inl (x7)), some (.inl (x8))], [.inr (.inl (((x3) * (x5)) / ((1000 : Int64)))), .inr (.inr (.inl (some (204))))], 0, 0, ix_mem 276 I J T)) rfl rfl ?_
    refine ix_sp rfl ⟨rfl, ⟨ix_lt rfl, ix_eq rfl, ix_lt rfl⟩, ix_le rfl, Nat.le_refl _, Nat.le_refl _, tp_X12_givesLong h15 (fun v32 I32 J32 T32 h32 => ?_)⟩
    change ix_W _ _ _ (130, [some (.inr (.inr (.inl (some (204))))), some (.inl (x1)), some (.inl (x2)), some (.inr (.inl (x3))), none, some (.inr (.inl (x5))), none, some (.inl (x7)), some (.inl (x8))], [.inr (.inl (v32))], 0, 0, ix_mem 276 I32 J32 T32)
    exact ix_sp rfl ⟨Nat.le_refl _, Nat.le_refl _, rfl, hQ _ _ _ _ h32⟩
def wp_X12_coins (a0 : Int32) (a1 : Int32) (a2 : Int64) (I : Nat → Nat → Int32) (J : Nat → Nat → Int64) (T : Option Nat) (P : Int64 → (Nat → Nat → Int32) → (Nat → Nat → Int64) → Option Nat → Prop) : Prop := wp_X12_isLand (a0) I J T (fun v1 I1 J1 T1 => ((v1 = 0 → wp_X12_refuse ((1 : Int32)) I1 J1 T1 (fun v4 I4 J4 T4 => P ((v4).toInt64) I4 J4 T4)) ∧ (¬ (v1 = 0) → wp_X12_isDay (a1) I1 J1 T1 (fun v5 I5 J5 T5 => ((v5 = 0 → wp_X12_refuse ((1 : Int32)) I5 J5 T5 (fun v8 I8 J8 T8 => P ((v8).toInt64) I8 J8 T8)) ∧ (¬ (v5 = 0) → ((lg_cmp (a2) ((0 : Int64)) < 0 → wp_X12_refuse ((1 : Int32)) I5 J5 T5 (fun v11 I11 J11 T11 => P ((v11).toInt64) I11 J11 T11)) ∧ (¬ (lg_cmp (a2) ((0 : Int64)) < 0) → ((lg_cmp (a2) ((1000000000000 : Int64)) ≤ 0 → wl_X12_coins_47 (a0) (a1) (a2) ((1000 : Int64)) ((-1 : Int32)) ((0 : Int32)) I5 J5 T5 P) ∧ (¬ (lg_cmp (a2) ((1000000000000 : Int64)) ≤ 0) → wp_X12_refuse ((1 : Int32)) I5 J5 T5 (fun v33 I33 J33 T33 => P ((v33).toInt64) I33 J33 T33)))))))))))
set_option maxRecDepth 20000 in
theorem tp_X12_coins {d : Nat} {a0 : Int32} {a1 : Int32} {a2 : Int64} {I : Nat → Nat → Int32} {J : Nat → Nat → Int64} {T : Option Nat} {P : Int64 → (Nat → Nat → Int32) → (Nat → Nat → Int64) → Option Nat → Prop} {Q : ix_Q} (h : wp_X12_coins a0 a1 a2 I J T P) (hQ : ∀ v I J T, P v I J T → Q (some (.inr (.inl v))) (ix_mem 276 I J T)) : ix_C (d + 2) 248 [.inr (.inr (.inl (some (204)))), .inl (a0), .inl (a1), .inr (.inl (a2))] (ix_mem 276 I J T) Q := by
  unfold wp_X12_coins at h
  refine ix_enter (ls := [some (.inr (.inr (.inl (some (204))))), some (.inl (a0)), some (.inl (a1)), some (.inr (.inl (a2))), none, none, none, none, none]) rfl rfl rfl (Nat.le_of_ble_eq_true rfl) ?_
  refine ix_go 2 (x' := (2, [some (.inr (.inr (.inl (some (204))))), some (.inl (a0)), some (.inl (a1)), some (.inr (.inl (a2))), none, none, none, none, none], [.inl (a0), .inr (.inr (.inl (some (204))))], 0, 0, ix_mem 276 I J T)) rfl trivial ?_
  refine ix_sp rfl ⟨rfl, ⟨ix_lt rfl, ix_eq rfl, ix_lt rfl⟩, ix_le rfl, Nat.le_refl _, Nat.le_refl _, tp_X12_isLand h (fun v1 I1 J1 T1 h1 => ?_)⟩
  change ix_W _ _ _ (5, [some (.inr (.inr (.inl (some (204))))), some (.inl (a0)), some (.inl (a1)), some (.inr (.inl (a2))), none, none, none, none, none], [.inl (v1)], 0, 0, ix_mem 276 I1 J1 T1)
  refine ix_go 1 (x' := (if v1 = 0 then 29 else 8, [some (.inr (.inr (.inl (some (204))))), some (.inl (a0)), some (.inl (a1)), some (.inr (.inl (a2))), none, none, none, none, none], [], 0, 0, ix_mem 276 I1 J1 T1)) rfl trivial ?_
  refine ix_br (fun c2 => ?_) (fun c2 => ?_)
  · have h3 := h1.1 c2
    refine ix_go 2 (x' := (31, [some (.inr (.inr (.inl (some (204))))), some (.inl (a0)), some (.inl (a1)), some (.inr (.inl (a2))), none, none, none, none, none], [.inl ((1 : Int32)), .inr (.inr (.inl (some (204))))], 0, 0, ix_mem 276 I1 J1 T1)) rfl trivial ?_
    refine ix_sp rfl ⟨rfl, ⟨ix_lt rfl, ix_eq rfl, ix_lt rfl⟩, ix_le rfl, Nat.le_refl _, Nat.le_refl _, tp_X12_refuse h3 (fun v4 I4 J4 T4 h4 => ?_)⟩
    change ix_W _ _ _ (34, [some (.inr (.inr (.inl (some (204))))), some (.inl (a0)), some (.inl (a1)), some (.inr (.inl (a2))), none, none, none, none, none], [.inl (v4)], 0, 0, ix_mem 276 I4 J4 T4)
    refine ix_go 1 (x' := (35, [some (.inr (.inr (.inl (some (204))))), some (.inl (a0)), some (.inl (a1)), some (.inr (.inl (a2))), none, none, none, none, none], [.inr (.inl ((v4).toInt64))], 0, 0, ix_mem 276 I4 J4 T4)) rfl trivial ?_
    exact ix_sp rfl ⟨Nat.le_refl _, Nat.le_refl _, rfl, hQ _ _ _ _ h4⟩
  · have h3 := h1.2 c2
    refine ix_go 1 (x' := (9, [some (.inr (.inr (.inl (some (204))))), some (.inl (a0)), some (.inl (a1)), some (.inr (.inl (a2))), none, none, none, none, none], [.inl (a1)], 0, 0, ix_mem 276 I1 J1 T1)) rfl trivial ?_
    refine ix_sp rfl ⟨rfl, trivial, ix_le rfl, Nat.le_refl _, Nat.le_refl _, tp_X12_isDay h3 (fun v5 I5 J5 T5 h5 => ?_)⟩
    change ix_W _ _ _ (12, [some (.inr (.inr (.inl (some (204))))), some (.inl (a0)), some (.inl (a1)), some (.inr (.inl (a2))), none, none, none, none, none], [.inl (v5)], 0, 0, ix_mem 276 I5 J5 T5)
    refine ix_go 1 (x' := (if v5 = 0 then 29 else 15, [some (.inr (.inr (.inl (some (204))))), some (.inl (a0)), some (.inl (a1)), some (.inr (.inl (a2))), none, none, none, none, none], [], 0, 0, ix_mem 276 I5 J5 T5)) rfl trivial ?_
    refine ix_br (fun c6 => ?_) (fun c6 => ?_)
    · have h7 := h5.1 c6
      refine ix_go 2 (x' := (31, [some (.inr (.inr (.inl (some (204))))), some (.inl (a0)), some (.inl (a1)), some (.inr (.inl (a2))), none, none, none, none, none], [.inl ((1 : Int32)), .inr (.inr (.inl (some (204))))], 0, 0, ix_mem 276 I5 J5 T5)) rfl trivial ?_
      refine ix_sp rfl ⟨rfl, ⟨ix_lt rfl, ix_eq rfl, ix_lt rfl⟩, ix_le rfl, Nat.le_refl _, Nat.le_refl _, tp_X12_refuse h7 (fun v8 I8 J8 T8 h8 => ?_)⟩
      change ix_W _ _ _ (34, [some (.inr (.inr (.inl (some (204))))), some (.inl (a0)), some (.inl (a1)), some (.inr (.inl (a2))), none, none, none, none, none], [.inl (v8)], 0, 0, ix_mem 276 I8 J8 T8)
      refine ix_go 1 (x' := (35, [some (.inr (.inr (.inl (some (204))))), some (.inl (a0)), some (.inl (a1)), some (.inr (.inl (a2))), none, none, none, none, none], [.inr (.inl ((v8).toInt64))], 0, 0, ix_mem 276 I8 J8 T8)) rfl trivial ?_
      exact ix_sp rfl ⟨Nat.le_refl _, Nat.le_refl _, rfl, hQ _ _ _ _ h8⟩
    · have h7 := h5.2 c6
      refine ix_go 4 (x' := (if lg_cmp (a2) ((0 : Int64)) < 0 then 29 else 21, [some (.inr (.inr (.inl (some (204))))), some (.inl (a0)), some (.inl (a1)), some (.inr (.inl (a2))), none, none, none, none, none], [], 0, 0, ix_mem 276 I5 J5 T5)) rfl trivial ?_
      refine ix_br (fun c9 => ?_) (fun c9 => ?_)
      · have h10 := h7.1 c9
        refine ix_go 2 (x' := (31, [some (.inr (.inr (.inl (some (204))))), some (.inl (a0)), some (.inl (a1)), some (.inr (.inl (a2))), none, none, none, none, none], [.inl ((1 : Int32)), .inr (.inr (.inl (some (204))))], 0, 0, ix_mem 276 I5 J5 T5)) rfl trivial ?_
        refine ix_sp rfl ⟨rfl, ⟨ix_lt rfl, ix_eq rfl, ix_lt rfl⟩, ix_le rfl, Nat.le_refl _, Nat.le_refl _, tp_X12_refuse h10 (fun v11 I11 J11 T11 h11 => ?_)⟩
        change ix_W _ _ _ (34, [some (.inr (.inr (.inl (some (204))))), some (.inl (a0)), some (.inl (a1)), some (.inr (.inl (a2))), none, none, none, none, none], [.inl (v11)], 0, 0, ix_mem 276 I11 J11 T11)
        refine ix_go 1 (x' := (35, [some (.inr (.inr (.inl (some (204))))), some (.inl (a0)), some (.inl (a1)), some (.inr (.inl (a2))), none, none, none, none, none], [.inr (.inl ((v11).toInt64))], 0, 0, ix_mem 276 I11 J11 T11)) rfl trivial ?_
        exact ix_sp rfl ⟨Nat.le_refl _, Nat.le_refl _, rfl, hQ _ _ _ _ h11⟩
      · have h10 := h7.2 c9
        refine ix_go 4 (x' := (if lg_cmp (a2) ((1000000000000 : Int64)) ≤ 0 then 36 else 29, [some (.inr (.inr (.inl (some (204))))), some (.inl (a0)), some (.inl (a1)), some (.inr (.inl (a2))), none, none, none, none, none], [], 0, 0, ix_mem 276 I5 J5 T5)) rfl trivial ?_
        refine ix_br (fun c12 => ?_) (fun c12 => ?_)
        · have h13 := h10.1 c12
          refine ix_go 6 (x' := (47, [some (.inr (.inr (.inl (some (204))))), some (.inl (a0)), some (.inl (a1)), some (.inr (.inl (a2))), none, some (.inr (.inl ((1000 : Int64)))), none, some (.inl ((-1 : Int32))), some (.inl ((0 : Int32)))], [], 0, 0, ix_mem 276 I5 J5 T5)) rfl trivial ?_
          refine ix_subW ([some (.inr (.inr (.inl (some (204))))), some (.inl (a0)), some (.inl (a1)), some (.inr (.inl (a2))), none, some (.inr (.inl ((1000 : Int64)))), none, some (.inl ((-1 : Int32))), some (.inl ((0 : Int32)))]) (ix_subS (ix_subS (ix_subS (ix_subS (ix_subS (ix_subS (ix_subS (ix_subS (ix_subS (ix_sub0)))))))))) ?_
          exact tl_X12_coins_47 h13 hQ
        · have h13 := h10.2 c12
          refine ix_go 2 (x' := (31, [some (.inr (.inr (.inl (some (204))))), some (.inl (a0)), some (.inl (a1)), some (.inr (.inl (a2))), none, none, none, none, none], [.inl ((1 : Int32)), .inr (.inr (.inl (some (204))))], 0, 0, ix_mem 276 I5 J5 T5)) rfl trivial ?_
          refine ix_sp rfl ⟨rfl, ⟨ix_lt rfl, ix_eq rfl, ix_lt rfl⟩, ix_le rfl, Nat.le_refl _, Nat.le_refl _, tp_X12_refuse h13 (fun v33 I33 J33 T33 h33 => ?_)⟩
          change ix_W _ _ _ (34, [some (.inr (.inr (.inl (some (204))))), some (.inl (a0)), some (.inl (a1)), some (.inr (.inl (a2))), none, none, none, none, none], [.inl (v33)], 0, 0, ix_mem 276 I33 J33 T33)
          refine ix_go 1 (x' := (35, [some (.inr (.inr (.inl (some (204))))), some (.inl (a0)), some (.inl (a1)), some (.inr (.inl (a2))), none, none, none, none, none], [.inr (.inl ((v33).toInt64))], 0, 0, ix_mem 276 I33 J33 T33)) rfl trivial ?_
          exact ix_sp rfl ⟨Nat.le_refl _, Nat.le_refl _, rfl, hQ _ _ _ _ h33⟩
