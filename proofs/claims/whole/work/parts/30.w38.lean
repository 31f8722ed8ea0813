def wp_X12_carried (a0 : Int32) (a1 : Int32) (I : Nat → Nat → Int32) (J : Nat → Nat → Int64) (T : Option Nat) (P : Int32 → (Nat → Nat → Int32) → (Nat → Nat → Int64) → Option Nat → Prop) : Prop := wp_X12_isLand (a0) I J T (fun v1 I1 J1 T1 => ((v1 = 0 → wp_X12_refuse ((1 : Int32)) I1 J1 T1 (fun v4 I4 J4 T4 => P (v4) I4 J4 T4)) ∧ (¬ (v1 = 0) → wp_X12_isLand (a1) I1 J1 T1 (fun v5 I5 J5 T5 => ((v5 = 0 → wp_X12_refuse ((1 : Int32)) I5 J5 T5 (fun v8 I8 J8 T8 => P (v8) I8 J8 T8)) ∧ (¬ (v5 = 0) → wp_X12_carry I5 J5 T5 (fun I9 J9 T9 => wp_X12_pair (a0) (a1) I9 J9 T9 (fun v10 I10 J10 T10 => ix_inb (v10) 49 = true ∧ ((I10 245 (v10).toNatClampNeg = (-1 : Int32) → wp_X12_refuse ((6 : Int32)) I10 J10 T10 (fun v15 I15 J15 T15 => P (v15) I15 J15 T15)) ∧ (¬ (I10 245 (v10).toNatClampNeg = (-1 : Int32)) → wp_X12_pair (a0) (a1) I10 J10 T10 (fun v16 I16 J16 T16 => ix_inb (v16) 49 = true ∧ wp_X12_gives (I16 245 (v16).toNatClampNeg) I16 J16 T16 (fun v19 I19 J19 T19 => P (v19) I19 J19 T19))))))))))))
set_option maxRecDepth 20000 in
theorem tp_X12_carried {d : Nat} {a0 : Int32} {a1 : Int32} {I : Nat → Nat → Int32} {J : Nat → Nat → Int64} {T : Option Nat} {P : Int32 → (Nat → Nat → Int32) → (Nat → Nat → Int64) → Option Nat → Prop} {Q : ix_Q} (h : wp_X12_carried a0 a1 I J T P) (hQ : ∀ v I J T, P v I J T → Q (some (.inl v)) (ix_mem 276 I J T)) : ix_C (d + 4) 295 [.inr (.inr (.inl (some (204)))), .inl (a0), .inl (a1)] (ix_mem 276 I J T) Q := by
  unfold wp_X12_carried at h
  refine ix_enter (ls := [some (.inr (.inr (.inl (some (204))))), some (.inl (a0)), some (.inl (a1))]) rfl rfl rfl (Nat.le_of_ble_eq_true rfl) ?_
  refine ix_go 2 (x' := (2, [some (.inr (.inr (.inl (some (204))))), some (.inl (a0)), some (.inl (a1))], [.inl (a0), .inr (.inr (.inl (some (204))))], 0, 0, ix_mem 276 I J T)) rfl trivial ?_
  refine ix_sp rfl ⟨rfl, ⟨ix_lt rfl, ix_eq rfl, ix_lt rfl⟩, ix_le rfl, Nat.le_refl _, Nat.le_refl _, tp_X12_isLand h (fun v1 I1 J1 T1 h1 => ?_)⟩
  change ix_W _ _ _ (5, [some (.inr (.inr (.inl (some (204))))), some (.inl (a0)), some (.inl (a1))], [.inl (v1)], 0, 0, ix_mem 276 I1 J1 T1)
  refine ix_go 1 (x' := (if v1 = 0 then 16 else 8, [some (.inr (.inr (.inl (some (204))))), some (.inl (a0)), some (.inl (a1))], [], 0, 0, ix_mem 276 I1 J1 T1)) rfl trivial ?_
  refine ix_br (fun c2 => ?_) (fun c2 => ?_)
  · have h3 := h1.1 c2
    refine ix_go 2 (x' := (18, [some (.inr (.inr (.inl (some (204))))), some (.inl (a0)), some (.inl (a1))], [.inl ((1 : Int32)), .inr (.inr (.inl (some (204))))], 0, 0, ix_mem 276 I1 J1 T1)) rfl trivial ?_
    refine ix_sp rfl ⟨rfl, ⟨ix_lt rfl, ix_eq rfl, ix_lt rfl⟩, ix_le rfl, Nat.le_refl _, Nat.le_refl _, tp_X12_refuse h3 (fun v4 I4 J4 T4 h4 => ?_)⟩
    change ix_W _ _ _ (21, [some (.inr (.inr (.inl (some (204))))), some (.inl (a0)), some (.inl (a1))], [.inl (v4)], 0, 0, ix_mem 276 I4 J4 T4)
    exact ix_sp rfl ⟨Nat.le_refl _, Nat.le_refl _, trivial, hQ _ _ _ _ h4⟩
  · have h3 := h1.2 c2
    refine ix_go 2 (x' := (10, [some (.inr (.inr (.inl (some (204))))), some (.inl (a0)), some (.inl (a1))], [.inl (a1), .inr (.inr (.inl (some (204))))], 0, 0, ix_mem 276 I1 J1 T1)) rfl trivial ?_
    refine ix_sp rfl ⟨rfl, ⟨ix_lt rfl, ix_eq rfl, ix_lt rfl⟩, ix_le rfl, Nat.le_refl _, Nat.le_refl _, tp_X12_isLand h3 (fun v5 I5 J5 T5 h5 => ?_)⟩
    change ix_W _ _ _ (13, [some (.inr (.inr (.inl (some (204))))), some (.inl (a0)), some (.inl (a1))], [.inl (v5)], 0, 0, ix_mem 276 I5 J5 T5)
    refine ix_go 1 (x' := (if v5 = 0 then 16 else 22, [some (.inr (.inr (.inl (some (204))))), some (.inl (a0)), some (.inl (a1))], [], 0, 0, ix_mem 276 I5 J5 T5)) rfl trivial ?_
    refine ix_br (fun c6 => ?_) (fun c6 => ?_)
    · have h7 := h5.1 c6
      refine ix_go 2 (x' := (18, [some (.inr (.inr (.inl (some (204))))), some (.inl (a0)), some (.inl (a1))], [.inl ((1 : Int32)), .inr (.inr (.inl (some (204))))], 0, 0, ix_mem 276 I5 J5 T5)) rfl trivial ?_
      refine ix_sp rfl ⟨rfl, ⟨ix_lt rfl, ix_eq rfl, ix_lt rfl⟩, ix_le rfl, Nat.le_refl _, Nat.le_refl _, tp_X12_refuse h7 (fun v8 I8 J8 T8 h8 => ?_)⟩
      change ix_W _ _ _ (21, [some (.inr (.inr (.inl (some (204))))), some (.inl (a0)), some (.inl (a1))], [.inl (v8)], 0, 0, ix_mem 276 I8 J8 T8)
      exact ix_sp rfl ⟨Nat.le_refl _, Nat.le_refl _, trivial, hQ _ _ _ _ h8⟩
    · have h7 := h5.2 c6
      refine ix_go 1 (x' := (23, [some (.inr (.inr (.inl (some (204))))), some (.inl (a0)), some (.inl (a1))], [.inr (.inr (.inl (some (204))))], 0, 0, ix_mem 276 I5 J5 T5)) rfl trivial ?_
      refine ix_sp rfl ⟨rfl, ⟨ix_lt rfl, ix_eq rfl, ix_lt rfl⟩, ix_le rfl, Nat.le_refl _, Nat.le_refl _, tp_X12_carry h7 (fun I9 J9 T9 h9 => ?_)⟩
      change ix_W _ _ _ (26, [some (.inr (.inr (.inl (some (204))))), some (.inl (a0)), some (.inl (a1))], [], 0, 0, ix_mem 276 I9 J9 T9)
      refine ix_go 4 (x' := (32, [some (.inr (.inr (.inl (some (204))))), some (.inl (a0)), some (.inl (a1))], [.inl (a1), .inl (a0), .inr (.inr (.inl (some (245))))], 0, 0, ix_mem 276 I9 J9 T9)) rfl ⟨rfl, rfl⟩ ?_
      refine ix_sp rfl ⟨rfl, trivial, ix_le rfl, Nat.le_refl _, Nat.le_refl _, tp_X12_pair h9 (fun v10 I10 J10 T10 h10 => ?_)⟩
      change ix_W _ _ _ (35, [some (.inr (.inr (.inl (some (204))))), some (.inl (a0)), some (.inl (a1))], [.inl (v10), .inr (.inr (.inl (some (245))))], 0, 0, ix_mem 276 I10 J10 T10)
      obtain ⟨p11, h12⟩ := h10
      refine ix_go 3 (x' := (if I10 245 (v10).toNatClampNeg = (-1 : Int32) then 40 else 49, [some (.inr (.inr (.inl (some (204))))), some (.inl (a0)), some (.inl (a1))], [], 0, 0, ix_mem 276 I10 J10 T10)) rfl ⟨rfl, rfl, p11⟩ ?_
      refine ix_br (fun c13 => ?_) (fun c13 => ?_)
      · have h14 := h12.1 c13
        refine ix_go 2 (x' := (43, [some (.inr (.inr (.inl (some (204))))), some (.inl (a0)), some (.inl (a1))], [.inl ((6 : Int32)), .inr (.inr (.inl (some (204))))], 0, 0, ix_mem 276 I10 J10 T10)) rfl trivial ?_
        refine ix_sp rfl ⟨rfl, ⟨ix_lt rfl, ix_eq rfl, ix_lt rfl⟩, ix_le rfl, Nat.le_refl _, Nat.le_refl _, tp_X12_refuse h14 (fun v15 I15 J15 T15 h15 => ?_)⟩
        change ix_W _ _ _ (46, [some (.inr (.inr (.inl (some (204))))), some (.inl (a0)), some (.inl (a1))], [.inl (v15)], 0, 0, ix_mem 276 I15 J15 T15)
        refine ix_go 1 (x' := (63, [some (.inr (.inr (.inl (some (204))))), some (.inl (a0)), some (.inl (a1))], [.inl (v15)], 0, 0, ix_mem 276 I15 J15 T15)) rfl trivial ?_
        exact ix_sp rfl ⟨Nat.le_refl _, Nat.le_refl _, trivial, hQ _ _ _ _ h15⟩
      · have h14 := h12.2 c13
        refine ix_go 5 (x' := (56, [some (.inr (.inr (.inl (some (204))))), some (.inl (a0)), some (.inl (a1))], [.inl (a1), .inl (a0), .inr (.inr (.inl (some (245)))), .inr (.inr (.inl (some (204))))], 0, 0, ix_mem 276 I10 J10 T10)) rfl ⟨rfl, rfl⟩ ?_
        refine ix_sp rfl ⟨rfl, trivial, ix_le rfl, Nat.le_refl _, Nat.le_refl _, tp_X12_pair h14 (fun v16 I16 J16 T16 h16 => ?_)⟩
        change ix_W _ _ _ (59, [some (.inr (.inr (.inl (some (204))))), some (.inl (a0)), some (.inl (a1))], [.inl (v16), .inr (.inr (.inl (some (245)))), .inr (.inr (.inl (some (204))))], 0, 0, ix_mem 276 I16 J16 T16)
        obtain ⟨p17, h18⟩ := h16
        refine ix_go 1 (x' := (60, [some (.inr (.inr (.inl (some (204))))), some (.inl (a0)), some (.inl (a1))], [.inl (I16 245 (v16).toNatClampNeg), .inr (.inr (.inl (some (204))))], 0, 0, ix_mem 276 I16 J16 T16)) rfl ⟨rfl, rfl, p17⟩ ?_
        refine ix_sp rfl ⟨rfl, ⟨ix_lt rfl, ix_eq rfl, ix_lt rfl⟩, ix_le rfl, Nat.le_refl _, Nat.le_refl _, tp_X12_gives h18 (fun v19 I19 J19 T19 h19 => ?_)⟩
        change ix_W _ _ _ (63, [some (.inr (.inr (.inl (some (204))))), some (.inl (a0)), some (.inl (a1))], [.inl (v19)], 0, 0, ix_mem 276 I19 J19 T19)
        exact ix_sp rfl ⟨Nat.le_refl _, Nat.le_refl _, trivial, hQ _ _ _ _ h19⟩
def wb_X12_remails_12 (x1 : Int32) (x2 : Int32) (x3 : Int32) (x4 : Int32) (x5 : Int32) (x6 : Int32) (x7 : Int32) (I : Nat → Nat → Int32) (J : Nat → Nat → Int64) (T : Option Nat) (V12 : Int32 → Int32 → Int32 → Int32 → Int32 → Int32 → Int32 → (Nat → Nat → Int32) → (Nat → Nat → Int64) → Option Nat → Prop) (P : Int32 → (Nat → Nat → Int32) → (Nat → Nat → Int64) → Option Nat → Prop) : Prop := ((x7 < I 204 6 → ((x7 = x1 → V12 (x1) (x2) (x3) (x4) (x5) (x6) (x7 + (1 : Int32)) I J T) ∧ (¬ (x7 = x1) → ((x7 = x2 → V12 (x1) (x2) (x3) (x4) (x5) (x6) (x7 + (1 : Int32)) I J T) ∧ (¬ (x7 = x2) → wp_X12_pair (x1) (x7) I J T (fun v8 I8 J8 T8 => ix_inb (v8) 49 = true ∧ ((I8 245 (v8).toNatClampNeg = (-1 : Int32) → V12 (x1) (x2) (x3) (x4) (x5) (x6) (x7 + (1 : Int32)) I8 J8 T8) ∧ (¬ (I8 245 (v8).toNatClampNeg = (-1 : Int32)) → wp_X12_finds (x7) (x2) (x3) ((x4).toInt64) ((x5).toInt64) (x6) I8 J8 T8 (fun v13 I13 J13 T13 => ((v13 = 0 → V12 (x1) (x2) (x3) (x4) (x5) (x6) (x7 + (1 : Int32)) I13 J13 T13) ∧ (¬ (v13 = 0) → wp_X12_pair (x1) (x7) I13 J13 T13 (fun v16 I16 J16 T16 => ix_inb (v16) 49 = true ∧ ((I16 204 63 = (-1 : Int32) → V12 (x1) (x2) (x3) (x4) (x5) (x6) (x7 + (1 : Int32)) (ix_u2 I16 204 63 (x7)) (ix_u2 J16 204 62 (((((x4).toInt64) * ((I16 245 (v16).toNatClampNeg).toInt64)) / ((1000 : Int64))) + (J16 204 60))) T16) ∧ (¬ (I16 204 63 = (-1 : Int32)) → ((lg_cmp (((((x4).toInt64) * ((I16 245 (v16).toNatClampNeg).toInt64)) / ((1000 : Int64))) + (J16 204 60)) (J16 204 62) < 0 → V12 (x1) (x2) (x3) (x4) (x5) (x6) (x7 + (1 : Int32)) (ix_u2 I16 204 63 (x7)) (ix_u2 J16 204 62 (((((x4).toInt64) * ((I16 245 (v16).toNatClampNeg).toInt64)) / ((1000 : Int64))) + (J16 204 60))) T16) ∧ (¬ (lg_cmp (((((x4).toInt64) * ((I16 245 (v16).toNatClampNeg).toInt64)) / ((1000 : Int64))) + (J16 204 60)) (J16 204 62) < 0) → V12 (x1) (x2) (x3) (x4) (x5) (x6) (x7 + (1 : Int32)) I16 J16 T16)))))))))))))))) ∧ (¬ (x7 < I 204 6) → ((I 204 63 = (-1 : Int32) → P ((0 : Int32)) I J T) ∧ (¬ (I 204 63 = (-1 : Int32)) → P ((1 : Int32)) I J T))))
def wl_X12_remails_12 (x1 : Int32) (x2 : Int32) (x3 : Int32) (x4 : Int32) (x5 : Int32) (x6 : Int32) (x7 : Int32) (I : Nat → Nat → Int32) (J : Nat → Nat → Int64) (T : Option Nat) (P : Int32 → (Nat → Nat → Int32) → (Nat → Nat → Int64) → Option Nat → Prop) : Prop := ∀ V : Int32 → Int32 → Int32 → Int32 → Int32 → Int32 → Int32 → (Nat → Nat → Int32) → (Nat → Nat → Int64) → Option Nat → Prop, (∀ (x1 : Int32) (x2 : Int32) (x3 : Int32) (x4 : Int32) (x5 : Int32) (x6 : Int32) (x7 : Int32) (I : Nat → Nat → Int32) (J : Nat → Nat → Int64) (T : Option Nat), wb_X12_remails_12 x1 x2 x3 x4 x5 x6 x7 I J T V P → V x1 x2 x3 x4 x5 x6 x7 I J T) → V x1 x2 x3 x4 x5 x6 x7 I J T
set_option maxRecDepth 20000 in
theorem tl_X12_remails_12 {d : Nat} {x1 : Int32} {x2 : Int32} {x3 : Int32} {x4 : Int32} {x5 : Int32} {x6 : Int32} {x7 : Int32} {I : Nat → Nat → Int32} {J : Nat → Nat → Int64} {T : Option Nat} {P : Int32 → (Nat → Nat → Int32) → (Nat → Nat → Int64) → Option Nat → Prop} {Q : ix_Q} (h : wl_X12_remails_12 x1 x2 x3 x4 x5 x6 x7 I J T P) (hQ : ∀ v I J T, P v I J T → Q (some (.inl v)) (ix_mem 276 I J T)) : ix_W (ix_C (d + 8)) (12, ix_lk ix_l296, (some .boolean), 0, 0, Nat.blt 0 0, none) Q (12, [some (.inr (.inr (.inl (some (204))))), some (.inl (x1)), some (.inl (x2)), some (.inl (x3)), some (.inl (x4)), some (.inl (x5)), some (.inl (x6)), some (.inl (x7)), none, none], [], 0, 0, ix_mem 276 I J T) := by
  refine h (fun x1 x2 x3 x4 x5 x6 x7 I J T => ix_W (ix_C (d + 8)) (12, ix_lk ix_l296, (some .boolean), 0, 0, Nat.blt 0 0, none) Q (12, [some (.inr (.inr (.inl (some (204))))), some (.inl (x1)), some (.inl (x2)), some (.inl (x3)), some (.inl (x4)), some (.inl (x5)), some (.inl (x6)), some (.inl (x7)), none, none], [], 0, 0, ix_mem 276 I J T)) ?_
  intro x1 x2 x3 x4 x5 x6 x7 I J T hb
  unfold wb_X12_remails_12 at hb
  refine ix_go 4 (x' := (if x7 < I 204 6 then 21 else 139, [some (.inr (.inr (.inl (some (204))))), some (.inl (x1)), some (.inl (x2)), some (.inl (x3)), some (.inl (x4)), some (.inl (x5)), some (.inl (x6)), some (.inl (x7)), none, none], [], 0, 0, ix_mem 276 I J T)) rfl ⟨rfl, rfl⟩ ?_
  refine ix_br (fun c2 => ?_) (fun c2 => ?_)
  · have h3 := hb.1 c2
    refine ix_go 3 (x' := (if x7 = x1 then 133 else 27, [some (.inr (.inr (.inl (some (204))))), some (.inl (x1)), some (.inl (x2)), some (.inl (x3)), some (.inl (x4)), some (.inl (x5)), some (.inl (x6)), some (.inl (x7)), none, none], [], 0, 0, ix_mem 276 I J T)) rfl trivial ?_
    refine ix_br (fun c4 => ?_) (fun c4 => ?_)
    · have h5 := h3.1 c4
      refine ix_go 2 (x' := (12, [some (.inr (.inr (.inl (some (204))))), some (.inl (x1)), some (.inl (x2)), some (.inl (x3)), some (.inl (x4)), some (.inl (x5)), some (.inl (x6)), some (.inl (x7 + (1 : Int32))), none, none], [], 0, 0, ix_mem 276 I J T)) rfl trivial ?_
      refine ix_subW ([some (.inr (.inr (.inl (some (204))))), some (.inl (x1)), some (.inl (x2)), some (.inl (x3)), some (.inl (x4)), some (.inl (x5)), some (.inl (x6)), some (.inl (x7 + (1 : Int32))), none, none]) (ix_subS (ix_subS (ix_subS (ix_subS (ix_subS (ix_subS (ix_subS (ix_subS (ix_subS (ix_subS (ix_sub0))))))))))) ?_
      exact h5
    · have h5 := h3.2 c4
      refine ix_go 3 (x' := (if x7 = x2 then 133 else 33, [some (.inr (.inr (.inl (some (204))))), some (.inl (x1)), some (.inl (x2)), some (.inl (x3)), some (.inl (x4)), some (.inl (x5)), some (.inl (x6)), some (.inl (x7)), none, none], [], 0, 0, ix_mem 276 I J T)) rfl trivial ?_
      refine ix_br (fun c6 => ?_) (fun c6 => ?_)
      · have h7 := h5.1 c6
        refine ix_go 2 (x' := (12, [some (.inr (.inr (.inl (some (204))))), some (.inl (x1)), some (.inl (x2)), some (.inl (x3)), some (.inl (x4)), some (.inl (x5)), some (.inl (x6)), some (.inl (x7 + (1 : Int32))), none, none], [], 0, 0, ix_mem 276 I J T)) rfl trivial ?_
        refine ix_subW ([some (.inr (.inr (.inl (some (204))))), some (.inl (x1)), some (.inl (x2)), some (.inl (x3)), some (.inl (x4)), some (.inl (x5)), some (.inl (x6)), some (.inl (x7 + (1 : Int32))), none, none]) (ix_subS (ix_subS (ix_subS (ix_subS (ix_subS (ix_subS (ix_subS (ix_subS (ix_subS (ix_subS (ix_sub0))))))))))) ?_
        exact h7
      · have h7 := h5.2 c6
        refine ix_go 4 (x' := (40, [some (.inr (.inr (.inl (some (204))))), some (.inl (x1)), some (.inl (x2)), some (.inl (x3)), some (.inl (x4)), some (.inl (x5)), some (.inl (x6)), some (.inl (x7)), none, none], [.inl (x7), .inl (x1), .inr (.inr (.inl (some (245))))], 0, 0, ix_mem 276 I J T)) rfl ⟨rfl, rfl⟩ ?_
        refine ix_sp rfl ⟨rfl, trivial, ix_le rfl, Nat.le_refl _, Nat.le_refl _, tp_X12_pair h7 (fun v8 I8 J8 T8 h8 => ?_)⟩
        change ix_W _ _ _ (43, [some (.inr (.inr (.inl (some (204))))), some (.inl (x1)), some (.inl (x2)), some (.inl (x3)), some (.inl (x4)), some (.inl (x5)), some (.inl (x6)), some (.inl (x7)), none, none], [.inl (v8), .inr (.inr (.inl (some (245))))], 0, 0, ix_mem 276 I8 J8 T8)
        obtain ⟨p9, h10⟩ := h8
        refine ix_go 3 (x' := (if I8 245 (v8).toNatClampNeg = (-1 : Int32) then 48 else 51, [some (.inr (.inr (.inl (some (204))))), some (.inl (x1)), some (.inl (x2)), some (.inl (x3)), some (.inl (x4)), some (.inl (x5)), some (.inl (x6)), some (.inl (x7)), none, none], [], 0, 0, ix_mem 276 I8 J8 T8)) rfl ⟨rfl, rfl, p9⟩ ?_
        refine ix_br (fun c11 => ?_) (fun c11 => ?_)
        · have h12 := h10.1 c11
          refine ix_go 3 (x' := (12, [some (.inr (.inr (.inl (some (204))))), some (.inl (x1)), some (.inl (x2)), some (.inl (x3)), some (.inl (x4)), some (.inl (x5)), some (.inl (x6)), some (.inl (x7 + (1 : Int32))), none, none], [], 0, 0, ix_mem 276 I8 J8 T8)) rfl trivial ?_
          refine ix_subW ([some (.inr (.inr (.inl (some (204))))), some (.inl (x1)), some (.inl (x2)), some (.inl (x3)), some (.inl (x4)), some (.inl (x5)), some (.inl (x6)), some (.inl (x7 + (1 : Int32))), none, none]) (ix_subS (ix_subS (ix_subS (ix_subS (ix_subS (ix_subS (ix_subS (ix_subS (ix_subS (ix_subS (ix_sub0))))))))))) ?_
          exact h12
        · have h12 := h10.2 c11
          refine ix_go 7 (x' := (61, [some (.inr (.inr (.inl (some (204))))), some (.inl (x1)), some (.inl (x2)), some (.inl (x3)), some (.inl (x4)), some (.inl (x5)), some (.inl (x6)), some (.inl (x7)), none, none], [.inl (x5), .inr (.inl ((x4).toInt64)), .inl (x3), .inl (x2), .inl (x7), .inr (.inr (.inl (some (204))))], 0, 0, ix_mem 276 I8 J8 T8)) rfl trivial ?_
          refine ix_go 2 (x' := (64, [some (.inr (.inr (.inl (some (204))))), some (.inl (x1)), some (.inl (x2)), some (.inl (x3)), some (.inl (x4)), some (.inl (x5)), some (.inl (x6)), some (.inl (x7)), none, none], [.inl (x6), .inr (.inl ((x5).toInt64)), .inr (.inl ((x4).toInt64)), .inl (x3), .inl (x2), .inl (x7), .inr (.inr (.inl (some (204))))], 0, 0, ix_mem 276 I8 J8 T8)) rfl trivial ?_
          refine ix_sp rfl ⟨rfl, ⟨ix_lt rfl, ix_eq rfl, ix_lt rfl⟩, ix_le rfl, Nat.le_refl _, Nat.le_refl _, tp_X12_finds h12 (fun v13 I13 J13 T13 h13 => ?_)⟩
          change ix_W _ _ _ (67, [some (.inr (.inr (.inl (some (204))))), some (.inl (x1)), some (.inl (x2)), some (.inl (x3)), some (.inl (x4)), some (.inl (x5)), some (.inl (x6)), some (.inl (x7)), none, none], [.inl (v13)], 0, 0, ix_mem 276 I13 J13 T13)
          refine ix_go 1 (x' := (if v13 = 0 then 70 else 73, [some (.inr (.inr (.inl (some (204))))), some (.inl (x1)), some (.inl (x2)), some (.inl (x3)), some (.inl (x4)), some (.inl (x5)), some (.inl (x6)), some (.inl (x7)), none, none], [], 0, 0, ix_mem 276 I13 J13 T13)) rfl trivial ?_
          refine ix_br (fun c14 => ?_) (fun c14 => ?_)
          · have h15 := h13.1 c14
            refine ix_go 3 (x' := (12, [some (.inr (.inr (.inl (some (204))))), some (.inl (x1)), some (.inl (x2)), some (.inl (x3)), some (.inl (x4)), some (.inl (x5)), some (.inl (x6)), some (.inl (x7 + (1 : Int32))), none, none], [], 0, 0, ix_mem 276 I13 J13 T13)) rfl trivial ?_
            refine ix_subW ([some (.inr (.inr (.inl (some (204))))), some (.inl (x1)), some (.inl (x2)), some (.inl (x3)), some (.inl (x4)), some (.inl (x5)), some (.inl (x6)), some (.inl (x7 + (1 : Int32))), none, none]) (ix_subS (ix_subS (ix_subS (ix_subS (ix_subS (ix_subS (ix_subS (ix_subS (ix_subS (ix_subS (ix_sub0))))))))))) ?_
            exact h15
          · have h15 := h13.2 c14
            refine ix_go 6 (x' := (83, [some (.inr (.inr (.inl (some (204))))), some (.inl (x1)), some (.inl (x2)), some (.inl (x3)), some (.inl (x4)), some (.inl (x5)), some (.inl (x6)), some (.inl (x7)), none, none], [.inl (x7), .inl (x1), .inr (.inr (.inl (some (245)))), .inr (.inl ((x4).toInt64))], 0, 0, ix_mem 276 I13 J13 T13)) rfl ⟨rfl, rfl⟩ ?_
            refine ix_sp rfl ⟨rfl, trivial, ix_le rfl, Nat.le_refl _, Nat.le_refl _, tp_X12_pair h15 (fun v16 I16 J16 T16 h16 => ?_)⟩
            change ix_W _ _ _ (86, [some (.inr (.inr (.inl (some (204))))), some (.inl (x1)), some (.inl (x2)), some (.inl (x3)), some (.inl (x4)), some (.inl (x5)), some (.inl (x6)), some (.inl (x7)), none, none], [.inl (v16), .inr (.inr (.inl (some (245)))), .inr (.inl ((x4).toInt64))], 0, 0, ix_mem 276 I16 J16 T16)
            obtain ⟨p17, h18⟩ := h16
            refine ix_go 7 (x' := (97, [some (.inr (.inr (.inl (some (204))))), some (.inl (x1)), some (.inl (x2)), some (.inl (x3)), some (.inl (x4)), some (.inl (x5)), some (.inl (x6)), some (.inl (x7)), none, none], [.inr (.inl (J16 204 60)), .inr (.inl ((((x4).toInt64) * ((I16 245 (v16).toNatClampNeg).toInt64)) / ((1000 : Int64))))], 0, 0, ix_mem 276 I16 J16 T16)) rfl ⟨rfl, rfl, p17, rfl, rfl, rfl⟩ ?_
            refine ix_go 6 (x' := (if I16 204 63 = (-1 : Int32) then 121 else 108, [some (.inr (.inr (.inl (some (204))))), some (.inl (x1)), some (.inl (x2)), some (.inl (x3)), some (.inl (x4)), some (.inl (x5)), some (.inl (x6)), some (.inl (x7)), some (.inr (.inl (((((x4).toInt64) * ((I16 245 (v16).toNatClampNeg).toInt64)) / ((1000 : Int64))) + (J16 204 60)))), none], [], 0, 0, ix_mem 276 I16 J16 T16)) rfl ⟨rfl, rfl⟩ ?_
            refine ix_br (fun c19 => ?_) (fun c19 => ?_)
            · have h20 := h18.1 c19
              refine ix_go 7 (x' := (136, [some (.inr (.inr (.inl (some (204))))), some (.inl (x1)), some (.inl (x2)), some (.inl (x3)), some (.inl (x4)), some (.inl (x5)), some (.inl (x6)), some (.inl (x7 + (1 : Int32))), some (.inr (.inl (((((x4).toInt64) * ((I16 245 (v16).toNatClampNeg).toInt64)) / ((1000 : Int64))) + (J16 204 60)))), none], [], 0, 0, ix_mem 276 (ix_u2 I16 204 63 (x7)) (ix_u2 J16 204 62 (((((x4).toInt64) * ((I16 245 (v16).toNatClampNeg).toInt64)) / ((1000 : Int64))) + (J16 204 60))) T16)) rfl ⟨rfl, rfl, rfl, rfl⟩ ?_
              refine ix_go 1 (x' := (12, [some (.inr (.inr (.inl (some (204))))), some (.inl (x1)), some (.inl (x2)), some (.inl (x3)), some (.inl (x4)), some (.inl (x5)), some (.inl (x6)), some (.inl (x7 + (1 : Int32))), some (.inr (.inl (((((x4).toInt64) * ((I16 245 (v16).toNatClampNeg).toInt64)) / ((1000 : Int64))) + (J16 204 60)))), none], [], 0, 0, ix_mem 276 (ix_u2 I16 204 63 (x7)) (ix_u2 J16 204 62 (((((x4).toInt64) * ((I16 245 (v16).toNatClampNeg).toInt64)) / ((1000 : Int64))) + (J16 204 60))) T16)) rfl trivial ?_
              refine ix_subW ([some (.inr (.inr (.inl (some (204))))), some (.inl (x1)), some (.inl (x2)), some (.inl (x3)), some (.inl (x4)), some (.inl (x5)), some (.inl (x6)), some (.inl (x7 + (1 : Int32))), none, none]) (ix_subS (ix_subS (ix_subS (ix_subS (ix_subS (ix_subS (ix_subS (ix_subS (ix_subN (ix_subS (ix_sub0))))))))))) ?_
              exact h20
            · have h20 := h18.2 c19
              refine ix_go 5 (x' := (if lg_cmp (((((x4).toInt64) * ((I16 245 (v16).toNatClampNeg).toInt64)) / ((1000 : Int64))) + (J16 204 60)) (J16 204 62) < 0 then 121 else 118, [some (.inr (.inr (.inl (some (204))))), some (.inl (x1)), some (.inl (x2)), some (.inl (x3)), some (.inl (x4)), some (.inl (x5)), some (.inl (x6)), some (.inl (x7)), some (.inr (.inl (((((x4).toInt64) * ((I16 245 (v16).toNatClampNeg).toInt64)) / ((1000 : Int64))) + (J16 204 60)))), none], [], 0, 0, ix_mem 276 I16 J16 T16)) rfl ⟨rfl, rfl⟩ ?_
              refine ix_br (fun c21 => ?_) (fun c21 => ?_)
              · have h22 := h20.1 c21
                refine ix_go 7 (x' := (136, [some (.inr (.inr (.inl (some (204))))), some (.inl (x1)), some (.inl (x2)), some (.inl (x3)), some (.inl (x4)), some (.inl (x5)), some (.inl (x6)), some (.inl (x7 + (1 : Int32))), some (.inr (.inl (((((x4).toInt64) * ((I16 245 (v16).toNatClampNeg).toInt64)) / ((1000 : Int64))) + (J16 204 60)))), none], [], 0, 0, ix_mem 276 (ix_u2 I16 204 63 (x7)) (ix_u2 J16 204 62 (((((x4).toInt64) * ((I16 245 (v16).toNatClampNeg).toInt64)) / ((1000 : Int64))) + (J16 204 60))) T16)) rfl ⟨rfl, rfl, rfl, rfl⟩ ?_
                refine ix_go 1 (x' := (12, [some (.inr (.inr (.inl (some (204))))), some (.inl (x1)), some (.inl (x2)), some (.inl (x3)), some (.inl (x4)), some (.inl (x5)), some (.inl (x6)), some (.inl (x7 + (1 : Int32))), some (.inr (.inl (((((x4).toInt64) * ((I16 245 (v16).toNatClampNeg).toInt64)) / ((1000 : Int64))) + (J16 204 60)))), none], [], 0, 0, ix_mem 276 (ix_u2 I16 204 63 (x7)) (ix_u2 J16 204 62 (((((x4).toInt64) * ((I16 245 (v16).toNatClampNeg).toInt64)) / ((1000 : Int64))) + (J16 204 60))) T16)) rfl trivial ?_
                refine ix_subW ([some (.inr (.inr (.inl (some (204))))), some (.inl (x1)), some (.inl (x2)), some (.inl (x3)), some (.inl (x4)), some (.inl (x5)), some (.inl (x6)), some (.inl (x7 + (1 : Int32))), none, none]) (ix_subS (ix_subS (ix_subS (ix_subS (ix_subS (ix_subS (ix_subS (ix_subS (ix_subN (ix_subS (ix_sub0))))))))))) ?_
                exact h22
              · have h22 := h20.2 c21
                refine ix_go 3 (x' := (12, [some (.inr (.inr (.inl (some (204))))), some (.inl (x1)), some (.inl (x2)), some (.inl (x3)), some (.inl (x4)), some (.inl (x5)), some (.inl (x6)), some (.inl (x7 + (1 : Int32))), some (.inr (.inl (((((x4).toInt64) * ((I16 245 (v16).toNatClampNeg).toInt64)) / ((1000 : Int64))) + (J16 204 60)))), none], [], 0, 0, ix_mem 276 I16 J16 T16)) rfl trivial ?_
                refine ix_subW ([some (.inr (.inr (.inl (some (204))))), some (.inl (x1)), some (.inl (x2)), some (.inl (x3)), some (.inl (x4)), some (.inl (x5)), some (.inl (x6)), some (.inl (x7 + (1 : Int32))), none, none]) (ix_subS (ix_subS (ix_subS (ix_subS (ix_subS (ix_subS (ix_subS (ix_subS (ix_subN (ix_subS (ix_sub0))))))))))) ?_
                exact h22
  · have h3 := hb.2 c2
    refine ix_go 4 (x' := (if I 204 63 = (-1 : Int32) then 151 else 147, [some (.inr (.inr (.inl (some (204))))), some (.inl (x1)), some (.inl (x2)), some (.inl (x3)), some (.inl (x4)), some (.inl (x5)), some (.inl (x6)), some (.inl (x7)), none, none], [], 0, 0, ix_mem 276 I J T)) rfl ⟨rfl, rfl⟩ ?_
    refine ix_br (fun c23 => ?_) (fun c23 => ?_)
    · have h24 := h3.1 c23
      refine ix_go 1 (x' := (152, [some (.inr (.inr (.inl (some (204))))), some (.inl (x1)), some (.inl (x2)), some (.inl (x3)), some (.inl (x4)), some (.inl (x5)), some (.inl (x6)), some (.inl (x7)), none, none], [.inl ((0 : Int32))], 0, 0, ix_mem 276 I J T)) rfl trivial ?_
      exact ix_sp rfl ⟨Nat.le_refl _, Nat.le_refl _, ix_01_ok rfl, hQ _ _ _ _ h24⟩
    · have h24 := h3.2 c23
      refine ix_go 2 (x' := (152, [some (.inr (.inr (.inl (some (204))))), some (.inl (x1)), some (.inl (x2)), some (.inl (x3)), some (.inl (x4)), some (.inl (x5)), some (.inl (x6)), some (.inl (x7)), none, none], [.inl ((1 : Int32))], 0, 0, ix_mem 276 I J T)) rfl trivial ?_
      exact ix_sp rfl ⟨Nat.le_refl _, Nat.le_refl _, ix_01_ok rfl, hQ _ _ _ _ h24⟩
def wp_X12_remails (a0 : Int32) (a1 : Int32) (a2 : Int32) (a3 : Int32) (a4 : Int32) (a5 : Int32) (I : Nat → Nat → Int32) (J : Nat → Nat → Int64) (T : Option Nat) (P : Int32 → (Nat → Nat → Int32) → (Nat → Nat → Int64) → Option Nat → Prop) : Prop := wp_X12_carry I J T (fun I1 J1 T1 => wl_X12_remails_12 (a0) (a1) (a2) (a3) (a4) (a5) ((0 : Int32)) (ix_u2 I1 204 63 ((-1 : Int32))) J1 T1 P)
set_option maxRecDepth 20000 in
theorem tp_X12_remails {d : Nat} {a0 : Int32} {a1 : Int32} {a2 : Int32} {a3 : Int32} {a4 : Int32} {a5 : Int32} {I : Nat → Nat → Int32} {J : Nat → Nat → Int64} {T : Option Nat} {P : Int32 → (Nat → Nat → Int32) → (Nat → Nat → Int64) → Option Nat → Prop} {Q : ix_Q} (h : wp_X12_remails a0 a1 a2 a3 a4 a5 I J T P) (hQ : ∀ v I J T, P v I J T → Q (some (.inl v)) (ix_mem 276 I J T)) : ix_C (d + 9) 296 [.inr (.inr (.inl (some (204)))), .inl (a0), .inl (a1), .inl (a2), .inl (a3), .inl (a4), .inl (a5)] (ix_mem 276 I J T) Q := by
  unfold wp_X12_remails at h
  refine ix_enter (ls := [some (.inr (.inr (.inl (some (204))))), some (.inl (a0)), some (.inl (a1)), some (.inl (a2)), some (.inl (a3)), some (.inl (a4)), some (.inl (a5)), none, none, none]) rfl rfl rfl (Nat.le_of_ble_eq_true rfl) ?_
  refine ix_go 1 (x' := (1, [some (.inr (.inr (.inl (some (204))))), some (.inl (a0)), some (.inl (a1)), some (.inl (a2)), some (.inl (a3)), some (.inl (a4)), some (.inl (a5)), none, none, none], [.inr (.inr (.inl (some (204))))], 0, 0, ix_mem 276 I J T)) rfl trivial ?_
  refine ix_sp rfl ⟨rfl, ⟨ix_lt rfl, ix_eq rfl, ix_lt rfl⟩, ix_le rfl, Nat.le_refl _, Nat.le_refl _, tp_X12_carry h (fun I1 J1 T1 h1 => ?_)⟩
  change ix_W _ _ _ (4, [some (.inr (.inr (.inl (some (204))))), some (.inl (a0)), some (.inl (a1)), some (.inl (a2)), some (.inl (a3)), some (.inl (a4)), some (.inl (a5)), none, none, none], [], 0, 0, ix_mem 276 I1 J1 T1)
  refine ix_go 5 (x' := (12, [some (.inr (.inr (.inl (some (204))))), some (.inl (a0)), some (.inl (a1)), some (.inl (a2)), some (.inl (a3)), some (.inl (a4)), some (.inl (a5)), some (.inl ((0 : Int32))), none, none], [], 0, 0, ix_mem 276 (ix_u2 I1 204 63 ((-1 : Int32))) J1 T1)) rfl ⟨rfl, rfl⟩ ?_
  refine ix_subW ([some (.inr (.inr (.inl (some (204))))), some (.inl (a0)), some (.inl (a1)), some (.inl (a2)), some (.inl (a3)), some (.inl (a4)), some (.inl (a5)), some (.inl ((0 : Int32))), none, none]) (ix_subS (ix_subS (ix_subS (ix_subS (ix_subS (ix_subS (ix_subS (ix_subS (ix_subS (ix_subS (ix_sub0))))))))))) ?_
  exact tl_X12_remails_12 h1 hQ
def wp_X12_remailed (a0 : Int32) (a1 : Int32) (a2 : Int32) (a3 : Int32) (a4 : Int32) (a5 : Int32) (I : Nat → Nat → Int32) (J : Nat → Nat → Int64) (T : Option Nat) (P : Int64 → (Nat → Nat → Int32) → (Nat → Nat → Int64) → Option Nat → Prop) : Prop := wp_X12_isMail (a0) (a1) (a2) (a3) (a4) (a5) I J T (fun v1 I1 J1 T1 => ((v1 = 0 → wp_X12_refuse ((1 : Int32)) I1 J1 T1 (fun v4 I4 J4 T4 => P ((v4).toInt64) I4 J4 T4)) ∧ (¬ (v1 = 0) → wp_X12_remails (a0) (a1) (a2) (a3) (a4) (a5) I1 J1 T1 (fun v5 I5 J5 T5 => ((v5 = 0 → wp_X12_refuse ((6 : Int32)) I5 J5 T5 (fun v8 I8 J8 T8 => P ((v8).toInt64) I8 J8 T8)) ∧ (¬ (v5 = 0) → wp_X12_givesLong (J5 204 62) I5 J5 T5 (fun v9 I9 J9 T9 => P (v9) I9 J9 T9)))))))
set_option maxRecDepth 20000 in
theorem tp_X12_remailed {d : Nat} {a0 : Int32} {a1 : Int32} {a2 : Int32} {a3 : Int32} {a4 : Int32} {a5 : Int32} {I : Nat → Nat → Int32} {J : Nat → Nat → Int64} {T : Option Nat} {P : Int64 → (Nat → Nat → Int32) → (Nat → Nat → Int64) → Option Nat → Prop} {Q : ix_Q} (h : wp_X12_remailed a0 a1 a2 a3 a4 a5 I J T P) (hQ : ∀ v I J T, P v I J T → Q (some (.inr (.inl v))) (ix_mem 276 I J T)) : ix_C (d + 10) 297 [.inr (.inr (.inl (some (204)))), .inl (a0), .inl (a1), .inl (a2), .inl (a3), .inl (a4), .inl (a5)] (ix_mem 276 I J T) Q := by
  unfold wp_X12_remailed at h
  refine ix_enter (ls := [some (.inr (.inr (.inl (some (204))))), some (.inl (a0)), some (.inl (a1)), some (.inl (a2)), some (.inl (a3)), some (.inl (a4)), some (.inl (a5))]) rfl rfl rfl (Nat.le_of_ble_eq_true rfl) ?_
  refine ix_go 7 (x' := (10, [some (.inr (.inr (.inl (some (204))))), some (.inl (a0)), some (.inl (a1)), some (.inl (a2)), some (.inl (a3)), some (.inl (a4)), some (.inl (a5))], [.inl (a5), .inl (a4), .inl (a3), .inl (a2), .inl (a1), .inl (a0), .inr (.inr (.inl (some (204))))], 0, 0, ix_mem 276 I J T)) rfl trivial ?_
  refine ix_sp rfl ⟨rfl, ⟨ix_lt rfl, ix_eq rfl, ix_lt rfl⟩, ix_le rfl, Nat.le_refl _, Nat.le_refl _, tp_X12_isMail h (fun v1 I1 J1 T1 h1 => ?_)⟩
  change ix_W _ _ _ (13, [some (.inr (.inr (.inl (some (204))))), some (.inl (a0)), some (.inl (a1)), some (.inl (a2)), some (.inl (a3)), some (.inl (a4)), some (.inl (a5))], [.inl (v1)], 0, 0, ix_mem 276 I1 J1 T1)
  refine ix_go 1 (x' := (if v1 = 0 then 16 else 23, [some (.inr (.inr (.inl (some (204))))), some (.inl (a0)), some (.inl (a1)), some (.inl (a2)), some (.inl (a3)), some (.inl (a4)), some (.inl (a5))], [], 0, 0, ix_mem 276 I1 J1 T1)) rfl trivial ?_
  refine ix_br (fun c2 => ?_) (fun c2 => ?_)
  · have h3 := h1.1 c2
    refine ix_go 2 (x' := (18, [some (.inr (.inr (.inl (some (204))))), some (.inl (a0)), some (.inl (a1)), some (.inl (a2)), some (.inl (a3)), some (.inl (a4)), some (.inl (a5))], [.inl ((1 : Int32)), .inr (.inr (.inl (some (204))))], 0, 0, ix_mem 276 I1 J1 T1)) rfl trivial ?_
    refine ix_sp rfl ⟨rfl, ⟨ix_lt rfl, ix_eq rfl, ix_lt rfl⟩, ix_le rfl, Nat.le_refl _, Nat.le_refl _, tp_X12_refuse h3 (fun v4 I4 J4 T4 h4 => ?_)⟩
    change ix_W _ _ _ (21, [some (.inr (.inr (.inl (some (204))))), some (.inl (a0)), some (.inl (a1)), some (.inl (a2)), some (.inl (a3)), some (.inl (a4)), some (.inl (a5))], [.inl (v4)], 0, 0, ix_mem 276 I4 J4 T4)
    refine ix_go 1 (x' := (22, [some (.inr (.inr (.inl (some (204))))), some (.inl (a0)), some (.inl (a1)), some (.inl (a2)), some (.inl (a3)), some (.inl (a4)), some (.inl (a5))], [.inr (.inl ((v4).toInt64))], 0, 0, ix_mem 276 I4 J4 T4)) rfl trivial ?_
    exact ix_sp rfl ⟨Nat.le_refl _, Nat.le_refl _, rfl, hQ _ _ _ _ h4⟩
  · have h3 := h1.2 c2
    refine ix_go 7 (x' := (33, [some (.inr (.inr (.inl (some (204))))), some (.inl (a0)), some (.inl (a1)), some (.inl (a2)), some (.inl (a3)), some (.inl (a4)), some (.inl (a5))], [.inl (a5), .inl (a4), .inl (a3), .inl (a2), .inl (a1), .inl (a0), .inr (.inr (.inl (some (204))))], 0, 0, ix_mem 276 I1 J1 T1)) rfl trivial ?_
    refine ix_sp rfl ⟨rfl, ⟨ix_lt rfl, ix_eq rfl, ix_lt rfl⟩, ix_le rfl, Nat.le_refl _, Nat.le_refl _, tp_X12_remails h3 (fun v5 I5 J5 T5 h5 => ?_)⟩
    change ix_W _ _ _ (36, [some (.inr (.inr (.inl (some (204))))), some (.inl (a0)), some (.inl (a1)), some (.inl (a2)), some (.inl (a3)), some (.inl (a4)), some (.inl (a5))], [.inl (v5)], 0, 0, ix_mem 276 I5 J5 T5)
    refine ix_go 1 (x' := (if v5 = 0 then 50 else 39, [some (.inr (.inr (.inl (some (204))))), some (.inl (a0)), some (.inl (a1)), some (.inl (a2)), some (.inl (a3)), some (.inl (a4)), some (.inl (a5))], [], 0, 0, ix_mem 276 I5 J5 T5)) rfl trivial ?_
    refine ix_br (fun c6 => ?_) (fun c6 => ?_)
    · have h7 := h5.1 c6
      refine ix_go 2 (x' := (53, [some (.inr (.inr (.inl (some (204))))), some (.inl (a0)), some (.inl (a1)), some (.inl (a2)), some (.inl (a3)), some (.inl (a4)), some (.inl (a5))], [.inl ((6 : Int32)), .inr (.inr (.inl (some (204))))], 0, 0, ix_mem 276 I5 J5 T5)) rfl trivial ?_
      refine ix_sp rfl ⟨rfl, ⟨ix_lt rfl, ix_eq rfl, ix_lt rfl⟩, ix_le rfl, Nat.le_refl _, Nat.le_refl _, tp_X12_refuse h7 (fun v8 I8 J8 T8 h8 => ?_)⟩
      change ix_W _ _ _ (56, [some (.inr (.inr (.inl (some (204))))), some (.inl (a0)), some (.inl (a1)), some (.inl (a2)), some (.inl (a3)), some (.inl (a4)), some (.inl (a5))], [.inl (v8)], 0, 0, ix_mem 276 I8 J8 T8)
      refine ix_go 1 (x' := (57, [some (.inr (.inr (.inl (some (204))))), some (.inl (a0)), some (.inl (a1)), some (.inl (a2)), some (.inl (a3)), some (.inl (a4)), some (.inl (a5))], [.inr (.inl ((v8).toInt64))], 0, 0, ix_mem 276 I8 J8 T8)) rfl trivial ?_
      exact ix_sp rfl ⟨Nat.le_refl _, Nat.le_refl _, rfl, hQ _ _ _ _ h8⟩
    · have h7 := h5.2 c6
      refine ix_go 3 (x' := (44, [some (.inr (.inr (.inl (some (204))))), some (.inl (a0)), some (.inl (a1)), some (.inl (a2)), some (.inl (a3)), some (.inl (a4)), some (.inl (a5))], [.inr (.inl (J5 204 62)), .inr (.inr (.inl (some (204))))], 0, 0, ix_mem 276 I5 J5 T5)) rfl ⟨rfl, rfl⟩ ?_
      refine ix_sp rfl ⟨rfl, ⟨ix_lt rfl, ix_eq rfl, ix_lt rfl⟩, ix_le rfl, Nat.le_refl _, Nat.le_refl _, tp_X12_givesLong h7 (fun v9 I9 J9 T9 h9 => ?_)⟩
      change ix_W _ _ _ (47, [some (.inr (.inr (.inl (some (204))))), some (.inl (a0)), some (.inl (a1)), some (.inl (a2)), some (.inl (a3)), some (.inl (a4)), some (.inl (a5))], [.inr (.inl (v9))], 0, 0, ix_mem 276 I9 J9 T9)
      refine ix_go 1 (x' := (57, [some (.inr (.inr (.inl (some (204))))), some (.inl (a0)), some (.inl (a1)), some (.inl (a2)), some (.inl (a3)), some (.inl (a4)), some (.inl (a5))], [.inr (.inl (v9))], 0, 0, ix_mem 276 I9 J9 T9)) rfl trivial ?_
      exact ix_sp rfl ⟨Nat.le_refl _, Nat.le_refl _, rfl, hQ _ _ _ _ h9⟩
def wp_X12_remailer (a0 : Int32) (a1 : Int32) (a2 : Int32) (a3 : Int32) (a4 : Int32) (a5 : Int32) (I : Nat → Nat → Int32) (J : Nat → Nat → Int64) (T : Option Nat) (P : Int32 → (Nat → Nat → Int32) → (Nat → Nat → Int64) → Option Nat → Prop) : Prop := wp_X12_isMail (a0) (a1) (a2) (a3) (a4) (a5) I J T (fun v1 I1 J1 T1 => ((v1 = 0 → wp_X12_refuse ((1 : Int32)) I1 J1 T1 (fun v4 I4 J4 T4 => P (v4) I4 J4 T4)) ∧ (¬ (v1 = 0) → wp_X12_remails (a0) (a1) (a2) (a3) (a4) (a5) I1 J1 T1 (fun v5 I5 J5 T5 => ((v5 = 0 → wp_X12_refuse ((6 : Int32)) I5 J5 T5 (fun v8 I8 J8 T8 => P (v8) I8 J8 T8)) ∧ (¬ (v5 = 0) → wp_X12_gives (I5 204 63) I5 J5 T5 (fun v9 I9 J9 T9 => P (v9) I9 J9 T9)))))))
set_option maxRecDepth 20000 in
theorem tp_X12_remailer {d : Nat} {a0 : Int32} {a1 : Int32} {a2 : Int32} {a3 : Int32} {a4 : Int32} {a5 : Int32} {I : Nat → Nat → Int32} {J : Nat → Nat → Int64} {T : Option Nat} {P : Int32 → (Nat → Nat → Int32) → (Nat → Nat → Int64) → Option Nat → Prop} {Q : ix_Q} (h : wp_X12_remailer a0 a1 a2 a3 a4 a5 I J T P) (hQ : ∀ v I J T, P v I J T → Q (some (.inl v)) (ix_mem 276 I J T)) : ix_C (d + 10) 298 [.inr (.inr (.inl (some (204)))), .inl (a0), .inl (a1), .inl (a2), .inl (a3), .inl (a4), .inl (a5)] (ix_mem 276 I J T) Q := by
  unfold wp_X12_remailer at h
  refine ix_enter (ls := [some (.inr (.inr (.inl (some (204))))), some (.inl (a0)), some (.inl (a1)), some (.inl (a2)), some (.inl (a3)), some (.inl (a4)), some (.inl (a5))]) rfl rfl rfl (Nat.le_of_ble_eq_true rfl) ?_
  refine ix_go 7 (x' := (10, [some (.inr (.inr (.inl (some (204))))), some (.inl (a0)), some (.inl (a1)), some (.inl (a2)), some (.inl (a3)), some (.inl (a4)), some (.inl (a5))], [.inl (a5), .inl (a4), .inl (a3), .inl (a2), .inl (a1), .inl (a0), .inr (.inr (.inl (some (204))))], 0, 0, ix_mem 276 I J T)) rfl trivial ?_
  refine ix_sp rfl ⟨rfl, ⟨ix_lt rfl, ix_eq rfl, ix_lt rfl⟩, ix_le rfl, Nat.le_refl _, Nat.le_refl _, tp_X12_isMail h (fun v1 I1 J1 T1 h1 => ?_)⟩
  change ix_W _ _ _ (13, [some (.inr (.inr (.inl (some (204))))), some (.inl (a0)), some (.inl (a1)), some (.inl (a2)), some (.inl (a3)), some (.inl (a4)), some (.inl (a5))], [.inl (v1)], 0, 0, ix_mem 276 I1 J1 T1)
  refine ix_go 1 (x' := (if v1 = 0 then 16 else 22, [some (.inr (.inr (.inl (some (204))))), some (.inl (a0)), some (.inl (a1)), some (.inl (a2)), some (.inl (a3)), some (.inl (a4)), some (.inl (a5))], [], 0, 0, ix_mem 276 I1 J1 T1)) rfl trivial ?_
  refine ix_br (fun c2 => ?_) (fun c2 => ?_)
  · have h3 := h1.1 c2
    refine ix_go 2 (x' := (18, [some (.inr (.inr (.inl (some (204))))), some (.inl (a0)), some (.inl (a1)), some (.inl (a2)), some (.inl (a3)), some (.inl (a4)), some (.inl (a5))], [.inl ((1 : Int32)), .inr (.inr (.inl (some (204))))], 0, 0, ix_mem 276 I1 J1 T1)) rfl trivial ?_
    refine ix_sp rfl ⟨rfl, ⟨ix_lt rfl, ix_eq rfl, ix_lt rfl⟩, ix_le rfl, Nat.le_refl _, Nat.le_refl _, tp_X12_refuse h3 (fun v4 I4 J4 T4 h4 => ?_)⟩
    change ix_W _ _ _ (21, [some (.inr (.inr (.inl (some (204))))), some (.inl (a0)), some (.inl (a1)), some (.inl (a2)), some (.inl (a3)), some (.inl (a4)), some (.inl (a5))], [.inl (v4)], 0, 0, ix_mem 276 I4 J4 T4)
    exact ix_sp rfl ⟨Nat.le_refl _, Nat.le_refl _, trivial, hQ _ _ _ _ h4⟩
  · have h3 := h1.2 c2
    refine ix_go 7 (x' := (32, [some (.inr (.inr (.inl (some (204))))), some (.inl (a0)), some (.inl (a1)), some (.inl (a2)), some (.inl (a3)), some (.inl (a4)), some (.inl (a5))], [.inl (a5), .inl (a4), .inl (a3), .inl (a2), .inl (a1), .inl (a0), .inr (.inr (.inl (some (204))))], 0, 0, ix_mem 276 I1 J1 T1)) rfl trivial ?_
    refine ix_sp rfl ⟨rfl, ⟨ix_lt rfl, ix_eq rfl, ix_lt rfl⟩, ix_le rfl, Nat.le_refl _, Nat.le_refl _, tp_X12_remails h3 (fun v5 I5 J5 T5 h5 => ?_)⟩
    change ix_W _ _ _ (35, [some (.inr (.inr (.inl (some (204))))), some (.inl (a0)), some (.inl (a1)), some (.inl (a2)), some (.inl (a3)), some (.inl (a4)), some (.inl (a5))], [.inl (v5)], 0, 0, ix_mem 276 I5 J5 T5)
    refine ix_go 1 (x' := (if v5 = 0 then 49 else 38, [some (.inr (.inr (.inl (some (204))))), some (.inl (a0)), some (.inl (a1)), some (.inl (a2)), some (.inl (a3)), some (.inl (a4)), some (.inl (a5))], [], 0, 0, ix_mem 276 I5 J5 T5)) rfl trivial ?_
    refine ix_br (fun c6 => ?_) (fun c6 => ?_)
    · have h7 := h5.1 c6
      refine ix_go 2 (x' := (52, [some (.inr (.inr (.inl (some (204))))), some (.inl (a0)), some (.inl (a1)), some (.inl (a2)), some (.inl (a3)), some (.inl (a4)), some (.inl (a5))], [.inl ((6 : Int32)), .inr (.inr (.inl (some (204))))], 0, 0, ix_mem 276 I5 J5 T5)) rfl trivial ?_
      refine ix_sp rfl ⟨rfl, ⟨ix_lt rfl, ix_eq rfl, ix_lt rfl⟩, ix_le rfl, Nat.le_refl _, Nat.le_refl _, tp_X12_refuse h7 (fun v8 I8 J8 T8 h8 => ?_)⟩
      change ix_W _ _ _ (55, [some (.inr (.inr (.inl (some (204))))), some (.inl (a0)), some (.inl (a1)), some (.inl (a2)), some (.inl (a3)), some (.inl (a4)), some (.inl (a5))], [.inl (v8)], 0, 0, ix_mem 276 I8 J8 T8)
      exact ix_sp rfl ⟨Nat.le_refl _, Nat.le_refl _, trivial, hQ _ _ _ _ h8⟩
    · have h7 := h5.2 c6
      refine ix_go 3 (x' := (43, [some (.inr (.inr (.inl (some (204))))), some (.inl (a0)), some (.inl (a1)), some (.inl (a2)), some (.inl (a3)), some (.inl (a4)), some (.inl (a5))], [.inl (I5 204 63), .inr (.inr (.inl (some (204))))], 0, 0, ix_mem 276 I5 J5 T5)) rfl ⟨rfl, rfl⟩ ?_
      refine ix_sp rfl ⟨rfl, ⟨ix_lt rfl, ix_eq rfl, ix_lt rfl⟩, ix_le rfl, Nat.le_refl _, Nat.le_refl _, tp_X12_gives h7 (fun v9 I9 J9 T9 h9 => ?_)⟩
      change ix_W _ _ _ (46, [some (.inr (.inr (.inl (some (204))))), some (.inl (a0)), some (.inl (a1)), some (.inl (a2)), some (.inl (a3)), some (.inl (a4)), some (.inl (a5))], [.inl (v9)], 0, 0, ix_mem 276 I9 J9 T9)
      refine ix_go 1 (x' := (55, [some (.inr (.inr (.inl (some (204))))), some (.inl (a0)), some (.inl (a1)), some (.inl (a2)), some (.inl (a3)), some (.inl (a4)), some (.inl (a5))], [.inl (v9)], 0, 0, ix_mem 276 I9 J9 T9)) rfl trivial ?_
      exact ix_sp rfl ⟨Nat.le_refl _, Nat.le_refl _, trivial, hQ _ _ _ _ h9⟩
def wp_X12_gain (a0 : Int32) (a1 : Int32) (a2 : Int32) (a3 : Int32) (a4 : Int32) (a5 : Int32) (I : Nat → Nat → Int32) (J : Nat → Nat → Int64) (T : Option Nat) (P : Int64 → (Nat → Nat → Int32) → (Nat → Nat → Int64) → Option Nat → Prop) : Prop := wp_X12_isMail (a0) (a1) (a2) (a3) (a4) (a5) I J T (fun v1 I1 J1 T1 => ((v1 = 0 → wp_X12_refuse ((1 : Int32)) I1 J1 T1 (fun v4 I4 J4 T4 => P ((v4).toInt64) I4 J4 T4)) ∧ (¬ (v1 = 0) → wp_X12_remails (a0) (a1) (a2) (a3) (a4) (a5) I1 J1 T1 (fun v5 I5 J5 T5 => ((v5 = 0 → wp_X12_refuse ((6 : Int32)) I5 J5 T5 (fun v8 I8 J8 T8 => P ((v8).toInt64) I8 J8 T8)) ∧ (¬ (v5 = 0) → wp_X12_finds (a0) (a1) (a2) ((a3).toInt64) ((a4).toInt64) (a5) I5 J5 T5 (fun v9 I9 J9 T9 => ((v9 = 0 → wp_X12_refuse ((6 : Int32)) I9 J9 T9 (fun v12 I12 J12 T12 => P ((v12).toInt64) I12 J12 T12)) ∧ (¬ (v9 = 0) → wp_X12_givesLong ((J9 204 60) - (J9 204 62)) I9 J9 T9 (fun v13 I13 J13 T13 => P (v13) I13 J13 T13))))))))))
set_option maxRecDepth 20000 in
theorem tp_X12_gain {d : Nat} {a0 : Int32} {a1 : Int32} {a2 : Int32} {a3 : Int32} {a4 : Int32} {a5 : Int32} {I : Nat → Nat → Int32} {J : Nat → Nat → Int64} {T : Option Nat} {P : Int64 → (Nat → Nat → Int32) → (Nat → Nat → Int64) → Option Nat → Prop} {Q : ix_Q} (h : wp_X12_gain a0 a1 a2 a3 a4 a5 I J T P) (hQ : ∀ v I J T, P v I J T → Q (some (.inr (.inl v))) (ix_mem 276 I J T)) : ix_C (d + 10) 299 [.inr (.inr (.inl (some (204)))), .inl (a0), .inl (a1), .inl (a2), .inl (a3), .inl (a4), .inl (a5)] (ix_mem 276 I J T) Q := by
  unfold wp_X12_gain at h
  refine ix_enter (ls := [some (.inr (.inr (.inl (some (204))))), some (.inl (a0)), some (.inl (a1)), some (.inl (a2)), some (.inl (a3)), some (.inl (a4)), some (.inl (a5))]) rfl rfl rfl (Nat.le_of_ble_eq_true rfl) ?_
  refine ix_go 7 (x' := (10, [some (.inr (.inr (.inl (some (204))))), some (.inl (a0)), some (.inl (a1)), some (.inl (a2)), some (.inl (a3)), some (.inl (a4)), some (.inl (a5))], [.inl (a5), .inl (a4), .inl (a3), .inl (a2), .inl (a1), .inl (a0), .inr (.inr (.inl (some (204))))], 0, 0, ix_mem 276 I J T)) rfl trivial ?_
  refine ix_sp rfl ⟨rfl, ⟨ix_lt rfl, ix_eq rfl, ix_lt rfl⟩, ix_le rfl, Nat.le_refl _, Nat.le_refl _, tp_X12_isMail h (fun v1 I1 J1 T1 h1 => ?_)⟩
  change ix_W _ _ _ (13, [some (.inr (.inr (.inl (some (204))))), some (.inl (a0)), some (.inl (a1)), some (.inl (a2)), some (.inl (a3)), some (.inl (a4)), some (.inl (a5))], [.inl (v1)], 0, 0, ix_mem 276 I1 J1 T1)
  refine ix_go 1 (x' := (if v1 = 0 then 16 else 23, [some (.inr (.inr (.inl (some (204))))), some (.inl (a0)), some (.inl (a1)), some (.inl (a2)), some (.inl (a3)), some (.inl (a4)), some (.inl (a5))], [], 0, 0, ix_mem 276 I1 J1 T1)) rfl trivial ?_
  refine ix_br (fun c2 => ?_) (fun c2 => ?_)
  · have h3 := h1.1 c2
    refine ix_go 2 (x' := (18, [some (.inr (.inr (.inl (some (204))))), some (.inl (a0)), some (.inl (a1)), some (.inl (a2)), some (.inl (a3)), some (.inl (a4)), some (.inl (a5))], [.inl ((1 : Int32)), .inr (.inr (.inl (some (204))))], 0, 0, ix_mem 276 I1 J1 T1)) rfl trivial ?_
    refine ix_sp rfl ⟨rfl, ⟨ix_lt rfl, ix_eq rfl, ix_lt rfl⟩, ix_le rfl, Nat.le_refl _, Nat.le_refl _, tp_X12_refuse h3 (fun v4 I4 J4 T4 h4 => ?_)⟩
    change ix_W _ _ _ (21, [some (.inr (.inr (.inl (some (204))))), some (.inl (a0)), some (.inl (a1)), some (.inl (a2)), some (.inl (a3)), some (.inl (a4)), some (.inl (a5))], [.inl (v4)], 0, 0, ix_mem 276 I4 J4 T4)
    refine ix_go 1 (x' := (22, [some (.inr (.inr (.inl (some (204))))), some (.inl (a0)), some (.inl (a1)), some (.inl (a2)), some (.inl (a3)), some (.inl (a4)), some (.inl (a5))], [.inr (.inl ((v4).toInt64))], 0, 0, ix_mem 276 I4 J4 T4)) rfl trivial ?_
    exact ix_sp rfl ⟨Nat.le_refl _, Nat.le_refl _, rfl, hQ _ _ _ _ h4⟩
  · have h3 := h1.2 c2
    refine ix_go 7 (x' := (33, [some (.inr (.inr (.inl (some (204))))), some (.inl (a0)), some (.inl (a1)), some (.inl (a2)), some (.inl (a3)), some (.inl (a4)), some (.inl (a5))], [.inl (a5), .inl (a4), .inl (a3), .inl (a2), .inl (a1), .inl (a0), .inr (.inr (.inl (some (204))))], 0, 0, ix_mem 276 I1 J1 T1)) rfl trivial ?_
    refine ix_sp rfl ⟨rfl, ⟨ix_lt rfl, ix_eq rfl, ix_lt rfl⟩, ix_le rfl, Nat.le_refl _, Nat.le_refl _, tp_X12_remails h3 (fun v5 I5 J5 T5 h5 => ?_)⟩
    change ix_W _ _ _ (36, [some (.inr (.inr (.inl (some (204))))), some (.inl (a0)), some (.inl (a1)), some (.inl (a2)), some (.inl (a3)), some (.inl (a4)), some (.inl (a5))], [.inl (v5)], 0, 0, ix_mem 276 I5 J5 T5)
    refine ix_go 1 (x' := (if v5 = 0 then 57 else 39, [some (.inr (.inr (.inl (some (204))))), some (.inl (a0)), some (.inl (a1)), some (.inl (a2)), some (.inl (a3)), some (.inl (a4)), some (.inl (a5))], [], 0, 0, ix_mem 276 I5 J5 T5)) rfl trivial ?_
    refine ix_br (fun c6 => ?_) (fun c6 => ?_)
    · have h7 := h5.1 c6
      refine ix_go 2 (x' := (60, [some (.inr (.inr (.inl (some (204))))), some (.inl (a0)), some (.inl (a1)), some (.inl (a2)), some (.inl (a3)), some (.inl (a4)), some (.inl (a5))], [.inl ((6 : Int32)), .inr (.inr (.inl (some (204))))], 0, 0, ix_mem 276 I5 J5 T5)) rfl trivial ?_
      refine ix_sp rfl ⟨rfl, ⟨ix_lt rfl, ix_eq rfl, ix_lt rfl⟩, ix_le rfl, Nat.le_refl _, Nat.le_refl _, tp_X12_refuse h7 (fun v8 I8 J8 T8 h8 => ?_)⟩
      change ix_W _ _ _ (63, [some (.inr (.inr (.inl (some (204))))), some (.inl (a0)), some (.inl (a1)), some (.inl (a2)), some (.inl (a3)), some (.inl (a4)), some (.inl (a5))], [.inl (v8)], 0, 0, ix_mem 276 I8 J8 T8)
      refine ix_go 1 (x' := (64, [some (.inr (.inr (.inl (some (204))))), some (.inl (a0)), some (.inl (a1)), some (.inl (a2)), some (.inl (a3)), some (.inl (a4)), some (.inl (a5))], [.inr (.inl ((v8).toInt64))], 0, 0, ix_mem 276 I8 J8 T8)) rfl trivial ?_
      exact ix_sp rfl ⟨Nat.le_refl _, Nat.le_refl _, rfl, hQ _ _ _ _ h8⟩
    · have h7 := h5.2 c6
      refine ix_go 7 (x' := (48, [some (.inr (.inr (.inl (some (204))))), some (.inl (a0)), some (.inl (a1)), some (.inl (a2)), some (.inl (a3)), some (.inl (a4)), some (.inl (a5))], [.inl (a4), .inr (.inl ((a3).toInt64)), .inl (a2), .inl (a1), .inl (a0), .inr (.inr (.inl (some (204))))], 0, 0, ix_mem 276 I5 J5 T5)) rfl trivial ?_
      refine ix_go 2 (x' := (51, [some (.inr (.inr (.inl (some (204))))), some (.inl (a0)), some (.inl (a1)), some (.inl (a2)), some (.inl (a3)), some (.inl (a4)), some (.inl (a5))], [.inl (a5), .inr (.inl ((a4).toInt64)), .inr (.inl ((a3).toInt64)), .inl (a2), .inl (a1), .inl (a0), .inr (.inr (.inl (some (204))))], 0, 0, ix_mem 276 I5 J5 T5)) rfl trivial ?_
      refine ix_sp rfl ⟨rfl, ⟨ix_lt rfl, ix_eq rfl, ix_lt rfl⟩, ix_le rfl, Nat.le_refl _, Nat.le_refl _, tp_X12_finds h7 (fun v9 I9 J9 T9 h9 => ?_)⟩
      change ix_W _ _ _ (54, [some (.inr (.inr (.inl (some (204))))), some (.inl (a0)), some (.inl (a1)), some (.inl (a2)), some (.inl (a3)), some (.inl (a4)), some (.inl (a5))], [.inl (v9)], 0, 0, ix_mem 276 I9 J9 T9)
      refine ix_go 1 (x' := (if v9 = 0 then 57 else 65, [some (.inr (.inr (.inl (some (204))))), some (.inl (a0)), some (.inl (a1)), some (.inl (a2)), some (.inl (a3)), some (.inl (a4)), some (.inl (a5))], [], 0, 0, ix_mem 276 I9 J9 T9)) rfl trivial ?_
      refine ix_br (fun c10 => ?_) (fun c10 => ?_)
      · have h11 := h9.1 c10
        refine ix_go 2 (x' := (60, [some (.inr (.inr (.inl (some (204))))), some (.inl (a0)), some (.inl (a1)), some (.inl (a2)), some (.inl (a3)), some (.inl (a4)), some (.inl (a5))], [.inl ((6 : Int32)), .inr (.inr (.inl (some (204))))], 0, 0, ix_mem 276 I9 J9 T9)) rfl trivial ?_
        refine ix_sp rfl ⟨rfl, ⟨ix_lt rfl, ix_eq rfl, ix_lt rfl⟩, ix_le rfl, Nat.le_refl _, Nat.le_refl _, tp_X12_refuse h11 (fun v12 I12 J12 T12 h12 => ?_)⟩
        change ix_W _ _ _ (63, [some (.inr (.inr (.inl (some (204))))), some (.inl (a0)), some (.inl (a1)), some (.inl (a2)), some (.inl (a3)), some (.inl (a4)), some (.inl (a5))], [.inl (v12)], 0, 0, ix_mem 276 I12 J12 T12)
        refine ix_go 1 (x' := (64, [some (.inr (.inr (.inl (some (204))))), some (.inl (a0)), some (.inl (a1)), some (.inl (a2)), some (.inl (a3)), some (.inl (a4)), some (.inl (a5))], [.inr (.inl ((v12).toInt64))], 0, 0, ix_mem 276 I12 J12 T12)) rfl trivial ?_
        exact ix_sp rfl ⟨Nat.le_refl _, Nat.le_refl _, rfl, hQ _ _ _ _ h12⟩
      · have h11 := h9.2 c10
        refine ix_go 6 (x' := (75, [some (.inr (.inr (.inl (some (204))))), some (.inl (a0)), some (.inl (a1)), some (.inl (a2)), some (.inl (a3)), some (.inl (a4)), some (.inl (a5))], [.inr (.inl ((J9 204 60) - (J9 204 62))), .inr (.inr (.inl (some (204))))], 0, 0, ix_mem 276 I9 J9 T9)) rfl ⟨rfl, rfl, rfl, rfl⟩ ?_
        refine ix_sp rfl ⟨rfl, ⟨ix_lt rfl, ix_eq rfl, ix_lt rfl⟩, ix_le rfl, Nat.le_refl _, Nat.le_refl _, tp_X12_givesLong h11 (fun v13 I13 J13 T13 h13 => ?_)⟩
        change ix_W _ _ _ (78, [some (.inr (.inr (.inl (some (204))))), some (.inl (a0)), some (.inl (a1)), some (.inl (a2)), some (.inl (a3)), some (.inl (a4)), some (.inl (a5))], [.inr (.inl (v13))], 0, 0, ix_mem 276 I13 J13 T13)
        exact ix_sp rfl ⟨Nat.le_refl _, Nat.le_refl _, rfl, hQ _ _ _ _ h13⟩
def wp_X12_rate (a0 : Int32) (a1 : Int32) (a2 : Int32) (I : Nat → Nat → Int32) (J : Nat → Nat → Int64) (T : Option Nat) (P : Int32 → (Nat → Nat → Int32) → (Nat → Nat → Int64) → Option Nat → Prop) : Prop := wp_X12_areTwo (a0) (a1) I J T (fun v1 I1 J1 T1 => ((v1 = 0 → wp_X12_is ((1 : Int32)) I1 J1 T1 (fun v4 I4 J4 T4 => ix_01 (v4) = true ∧ P (v4) I4 J4 T4)) ∧ (¬ (v1 = 0) → ((a2 < 0 → wp_X12_is ((1 : Int32)) I1 J1 T1 (fun v7 I7 J7 T7 => ix_01 (v7) = true ∧ P (v7) I7 J7 T7)) ∧ (¬ (a2 < 0) → ((a2 ≤ (1000000000 : Int32) → wp_X12_pair (a0) (a1) I1 J1 T1 (fun v10 I10 J10 T10 => ix_inb (v10) 49 = true ∧ wp_X12_is ((0 : Int32)) (ix_u2 I10 246 (v10).toNatClampNeg (a2)) J10 T10 (fun v13 I13 J13 T13 => ix_01 (v13) = true ∧ P (v13) I13 J13 T13))) ∧ (¬ (a2 ≤ (1000000000 : Int32)) → wp_X12_is ((1 : Int32)) I1 J1 T1 (fun v14 I14 J14 T14 => ix_01 (v14) = true ∧ P (v14) I14 J14 T14))))))))
set_option maxRecDepth 20000 in
theorem tp_X12_rate {d : Nat} {a0 : Int32} {a1 : Int32} {a2 : Int32} {I : Nat → Nat → Int32} {J : Nat → Nat → Int64} {T : Option Nat} {P : Int32 → (Nat → Nat → Int32) → (Nat → Nat → Int64) → Option Nat → Prop} {Q : ix_Q} (h : wp_X12_rate a0 a1 a2 I J T P) (hQ : ∀ v I J T, P v I J T → Q (some (.inl v)) (ix_mem 276 I J T)) : ix_C (d + 3) 300 [.inr (.inr (.inl (some (204)))), .inl (a0), .inl (a1), .inl (a2)] (ix_mem 276 I J T) Q := by
  unfold wp_X12_rate at h
  refine ix_enter (ls := [some (.inr (.inr (.inl (some (204))))), some (.inl (a0)), some (.inl (a1)), some (.inl (a2))]) rfl rfl rfl (Nat.le_of_ble_eq_true rfl) ?_
  refine ix_go 3 (x' := (3, [some (.inr (.inr (.inl (some (204))))), some (.inl (a0)), some (.inl (a1)), some (.inl (a2))], [.inl (a1), .inl (a0), .inr (.inr (.inl (some (204))))], 0, 0, ix_mem 276 I J T)) rfl trivial ?_
  refine ix_sp rfl ⟨rfl, ⟨ix_lt rfl, ix_eq rfl, ix_lt rfl⟩, ix_le rfl, Nat.le_refl _, Nat.le_refl _, tp_X12_areTwo h (fun v1 I1 J1 T1 h1 => ?_)⟩
  change ix_W _ _ _ (6, [some (.inr (.inr (.inl (some (204))))), some (.inl (a0)), some (.inl (a1)), some (.inl (a2))], [.inl (v1)], 0, 0, ix_mem 276 I1 J1 T1)
  refine ix_go 1 (x' := (if v1 = 0 then 20 else 9, [some (.inr (.inr (.inl (some (204))))), some (.inl (a0)), some (.inl (a1)), some (.inl (a2))], [], 0, 0, ix_mem 276 I1 J1 T1)) rfl trivial ?_
  refine ix_br (fun c2 => ?_) (fun c2 => ?_)
  · have h3 := h1.1 c2
    refine ix_go 2 (x' := (22, [some (.inr (.inr (.inl (some (204))))), some (.inl (a0)), some (.inl (a1)), some (.inl (a2))], [.inl ((1 : Int32)), .inr (.inr (.inl (some (204))))], 0, 0, ix_mem 276 I1 J1 T1)) rfl trivial ?_
    refine ix_sp rfl ⟨rfl, ⟨ix_lt rfl, ix_eq rfl, ix_lt rfl⟩, ix_le rfl, Nat.le_refl _, Nat.le_refl _, tp_X12_is h3 (fun v4 I4 J4 T4 h4 => ?_)⟩
    change ix_W _ _ _ (25, [some (.inr (.inr (.inl (some (204))))), some (.inl (a0)), some (.inl (a1)), some (.inl (a2))], [.inl (v4)], 0, 0, ix_mem 276 I4 J4 T4)
    exact ix_sp rfl ⟨Nat.le_refl _, Nat.le_refl _, ix_01_ok h4.1, hQ _ _ _ _ h4.2⟩
  · have h3 := h1.2 c2
    refine ix_go 2 (x' := (if a2 < 0 then 20 else 13, [some (.inr (.inr (.inl (some (204))))), some (.inl (a0)), some (.inl (a1)), some (.inl (a2))], [], 0, 0, ix_mem 276 I1 J1 T1)) rfl trivial ?_
    refine ix_br (fun c5 => ?_) (fun c5 => ?_)
    · have h6 := h3.1 c5
      refine ix_go 2 (x' := (22, [some (.inr (.inr (.inl (some (204))))), some (.inl (a0)), some (.inl (a1)), some (.inl (a2))], [.inl ((1 : Int32)), .inr (.inr (.inl (some (204))))], 0, 0, ix_mem 276 I1 J1 T1)) rfl trivial ?_
      refine ix_sp rfl ⟨rfl, ⟨ix_lt rfl, ix_eq rfl, ix_lt rfl⟩, ix_le rfl, Nat.le_refl _, Nat.le_refl _, tp_X12_is h6 (fun v7 I7 J7 T7 h7 => ?_)⟩
      change ix_W _ _ _ (25, [some (.inr (.inr (.inl (some (204))))), some (.inl (a0)), some (.inl (a1)), some (.inl (a2))], [.inl (v7)], 0, 0, ix_mem 276 I7 J7 T7)
      exact ix_sp rfl ⟨Nat.le_refl _, Nat.le_refl _, ix_01_ok h7.1, hQ _ _ _ _ h7.2⟩
    · have h6 := h3.2 c5
      refine ix_go 3 (x' := (if a2 ≤ (1000000000 : Int32) then 26 else 20, [some (.inr (.inr (.inl (some (204))))), some (.inl (a0)), some (.inl (a1)), some (.inl (a2))], [], 0, 0, ix_mem 276 I1 J1 T1)) rfl trivial ?_
      refine ix_br (fun c8 => ?_) (fun c8 => ?_)
      · have h9 := h6.1 c8
        refine ix_go 4 (x' := (32, [some (.inr (.inr (.inl (some (204))))), some (.inl (a0)), some (.inl (a1)), some (.inl (a2))], [.inl (a1), .inl (a0), .inr (.inr (.inl (some (246))))], 0, 0, ix_mem 276 I1 J1 T1)) rfl ⟨rfl, rfl⟩ ?_
        refine ix_sp rfl ⟨rfl, trivial, ix_le rfl, Nat.le_refl _, Nat.le_refl _, tp_X12_pair h9 (fun v10 I10 J10 T10 h10 => ?_)⟩
        change ix_W _ _ _ (35, [some (.inr (.inr (.inl (some (204))))), some (.inl (a0)), some (.inl (a1)), some (.inl (a2))], [.inl (v10), .inr (.inr (.inl (some (246))))], 0, 0, ix_mem 276 I10 J10 T10)
        obtain ⟨p11, h12⟩ := h10
        refine ix_go 4 (x' := (39, [some (.inr (.inr (.inl (some (204))))), some (.inl (a0)), some (.inl (a1)), some (.inl (a2))], [.inl ((0 : Int32)), .inr (.inr (.inl (some (204))))], 0, 0, ix_mem 276 (ix_u2 I10 246 (v10).toNatClampNeg (a2)) J10 T10)) rfl ⟨rfl, rfl, p11⟩ ?_
        refine ix_sp rfl ⟨rfl, ⟨ix_lt rfl, ix_eq rfl, ix_lt rfl⟩, ix_le rfl, Nat.le_refl _, Nat.le_refl _, tp_X12_is h12 (fun v13 I13 J13 T13 h13 => ?_)⟩
        change ix_W _ _ _ (42, [some (.inr (.inr (.inl (some (204))))), some (.inl (a0)), some (.inl (a1)), some (.inl (a2))], [.inl (v13)], 0, 0, ix_mem 276 I13 J13 T13)
        exact ix_sp rfl ⟨Nat.le_refl _, Nat.le_refl _, ix_01_ok h13.1, hQ _ _ _ _ h13.2⟩
      · have h9 := h6.2 c8
        refine ix_go 2 (x' := (22, [some (.inr (.inr (.inl (some (204))))), some (.inl (a0)), some (.inl (a1)), some (.inl (a2))], [.inl ((1 : Int32)), .inr (.inr (.inl (some (204))))], 0, 0, ix_mem 276 I1 J1 T1)) rfl trivial ?_
        refine ix_sp rfl ⟨rfl, ⟨ix_lt rfl, ix_eq rfl, ix_lt rfl⟩, ix_le rfl, Nat.le_refl _, Nat.le_refl _, tp_X12_is h9 (fun v14 I14 J14 T14 h14 => ?_)⟩
        change ix_W _ _ _ (25, [some (.inr (.inr (.inl (some (204))))), some (.inl (a0)), some (.inl (a1)), some (.inl (a2))], [.inl (v14)], 0, 0, ix_mem 276 I14 J14 T14)
        exact ix_sp rfl ⟨Nat.le_refl _, Nat.le_refl _, ix_01_ok h14.1, hQ _ _ _ _ h14.2⟩
def wb_X12_evenOf_14 (x1 : Int32) (x2 : Int32) (x3 : Int32) (x4 : Int32) (I : Nat → Nat → Int32) (J : Nat → Nat → Int64) (T : Option Nat) (V14 : Int32 → Int32 → Int32 → Int32 → (Nat → Nat → Int32) → (Nat → Nat → Int64) → Option Nat → Prop) (P : Int32 → (Nat → Nat → Int32) → (Nat → Nat → Int64) → Option Nat → Prop) : Prop := ((x4 < I 204 6 → ((x4 = x2 → V14 (x1) (x2) (x3) (x4 + (1 : Int32)) I J T) ∧ (¬ (x4 = x2) → wp_X12_pair (x1) (x4) I J T (fun v8 I8 J8 T8 => ix_inb (v8) 49 = true ∧ ((I8 245 (v8).toNatClampNeg = (-1 : Int32) → V14 (x1) (x2) (x3) (x4 + (1 : Int32)) I8 J8 T8) ∧ (¬ (I8 245 (v8).toNatClampNeg = (-1 : Int32)) → wp_X12_pair (x1) (x4) I8 J8 T8 (fun v13 I13 J13 T13 => ix_inb (v13) 49 = true ∧ wp_X12_pair (x4) (x2) I13 J13 T13 (fun v16 I16 J16 T16 => ix_inb (v16) 49 = true ∧ wp_J9_min_7cf53 (x3) ((I13 245 (v13).toNatClampNeg) + (I16 246 (v16).toNatClampNeg)) I16 J16 T16 (fun v19 I19 J19 T19 => V14 (x1) (x2) (v19) (x4 + (1 : Int32)) I19 J19 T19))))))))) ∧ (¬ (x4 < I 204 6) → P (x3) I J T))
def wl_X12_evenOf_14 (x1 : Int32) (x2 : Int32) (x3 : Int32) (x4 : Int32) (I : Nat → Nat → Int32) (J : Nat → Nat → Int64) (T : Option Nat) (P : Int32 → (Nat → Nat → Int32) → (Nat → Nat → Int64) → Option Nat → Prop) : Prop := ∀ V : Int32 → Int32 → Int32 → Int32 → (Nat → Nat → Int32) → (Nat → Nat → Int64) → Option Nat → Prop, (∀ (x1 : Int32) (x2 : Int32) (x3 : Int32) (x4 : Int32) (I : Nat → Nat → Int32) (J : Nat → Nat → Int64) (T : Option Nat), wb_X12_evenOf_14 x1 x2 x3 x4 I J T V P → V x1 x2 x3 x4 I J T) → V x1 x2 x3 x4 I J T
set_option maxRecDepth 20000 in
theorem tl_X12_evenOf_14 {d : Nat} {x1 : Int32} {x2 : Int32} {x3 : Int32} {x4 : Int32} {I : Nat → Nat → Int32} {J : Nat → Nat → Int64} {T : Option Nat} {P : Int32 → (Nat → Nat → Int32) → (Nat → Nat → Int64) → Option Nat → Prop} {Q : ix_Q} (h : wl_X12_evenOf_14 x1 x2 x3 x4 I J T P) (hQ : ∀ v I J T, P v I J T → Q (some (.inl v)) (ix_mem 276 I J T)) : ix_W (ix_C (d + 1)) (12, ix_lk ix_l301, (some .int), 0, 0, Nat.blt 0 0, none) Q (14, [some (.inr (.inr (.inl (some (204))))), some (.inl (x1)), some (.inl (x2)), some (.inl (x3)), some (.inl (x4))], [], 0, 0, ix_mem 276 I J T) := by
  refine h (fun x1 x2 x3 x4 I J T => ix_W (ix_C (d + 1)) (12, ix_lk ix_l301, (some .int), 0, 0, Nat.blt 0 0, none) Q (14, [some (.inr (.inr (.inl (some (204))))), some (.inl (x1)), some (.inl (x2)), some (.inl (x3)), some (.inl (x4))], [], 0, 0, ix_mem 276 I J T)) ?_
  intro x1 x2 x3 x4 I J T hb
  unfold wb_X12_evenOf_14 at hb
  refine ix_go 4 (x' := (if x4 < I 204 6 then 23 else 78, [some (.inr (.inr (.inl (some (204))))), some (.inl (x1)), some (.inl (x2)), some (.inl (x3)), some (.inl (x4))], [], 0, 0, ix_mem 276 I J T)) rfl ⟨rfl, rfl⟩ ?_
  refine ix_br (fun c4 => ?_) (fun c4 => ?_)
  · have h5 := hb.1 c4
    refine ix_go 3 (x' := (if x4 = x2 then 72 else 29, [some (.inr (.inr (.inl (some (204))))), some (.inl (x1)), some (.inl (x2)), some (.inl (x3)), some (.inl (x4))], [], 0, 0, ix_mem 276 I J T)) rfl trivial ?_
    refine ix_br (fun c6 => ?_) (fun c6 => ?_)
    · have h7 := h5.1 c6
      refine ix_go 2 (x' := (14, [some (.inr (.inr (.inl (some (204))))), some (.inl (x1)), some (.inl (x2)), some (.inl (x3)), some (.inl (x4 + (1 : Int32)))], [], 0, 0, ix_mem 276 I J T)) rfl trivial ?_
      refine ix_subW ([some (.inr (.inr (.inl (some (204))))), some (.inl (x1)), some (.inl (x2)), some (.inl (x3)), some (.inl (x4 + (1 : Int32)))]) (ix_subS (ix_subS (ix_subS (ix_subS (ix_subS (ix_sub0)))))) ?_
      exact h7
    · have h7 := h5.2 c6
      refine ix_go 4 (x' := (36, [some (.inr (.inr (.inl (some (204))))), some (.inl (x1)), some (.inl (x2)), some (.inl (x3)), some (.inl (x4))], [.inl (x4), .inl (x1), .inr (.inr (.inl (some (245))))], 0, 0, ix_mem 276 I J T)) rfl ⟨rfl, rfl⟩ ?_
      refine ix_sp rfl ⟨rfl, trivial, ix_le rfl, Nat.le_refl _, Nat.le_refl _, tp_X12_pair h7 (fun v8 I8 J8 T8 h8 => ?_)⟩
      change ix_W _ _ _ (39, [some (.inr (.inr (.inl (some (204))))), some (.inl (x1)), some (.inl (x2)), some (.inl (x3)), some (.inl (x4))], [.inl (v8), .inr (.inr (.inl (some (245))))], 0, 0, ix_mem 276 I8 J8 T8)
      obtain ⟨p9, h10⟩ := h8
      refine ix_go 3 (x' := (if I8 245 (v8).toNatClampNeg = (-1 : Int32) then 72 else 44, [some (.inr (.inr (.inl (some (204))))), some (.inl (x1)), some (.inl (x2)), some (.inl (x3)), some (.inl (x4))], [], 0, 0, ix_mem 276 I8 J8 T8)) rfl ⟨rfl, rfl, p9⟩ ?_
      refine ix_br (fun c11 => ?_) (fun c11 => ?_)
      · have h12 := h10.1 c11
        refine ix_go 2 (x' := (14, [some (.inr (.inr (.inl (some (204))))), some (.inl (x1)), some (.inl (x2)), some (.inl (x3)), some (.inl (x4 + (1 : Int32)))], [], 0, 0, ix_mem 276 I8 J8 T8)) rfl trivial ?_
        refine ix_subW ([some (.inr (.inr (.inl (some (204))))), some (.inl (x1)), some (.inl (x2)), some (.inl (x3)), some (.inl (x4 + (1 : Int32)))]) (ix_subS (ix_subS (ix_subS (ix_subS (ix_subS (ix_sub0)))))) ?_
        exact h12
      · have h12 := h10.2 c11
        refine ix_go 5 (x' := (52, [some (.inr (.inr (.inl (some (204))))), some (.inl (x1)), some (.inl (x2)), some (.inl (x3)), some (.inl (x4))], [.inl (x4), .inl (x1), .inr (.inr (.inl (some (245)))), .inl (x3)], 0, 0, ix_mem 276 I8 J8 T8)) rfl ⟨rfl, rfl⟩ ?_
        refine ix_sp rfl ⟨rfl, trivial, ix_le rfl, Nat.le_refl _, Nat.le_refl _, tp_X12_pair h12 (fun v13 I13 J13 T13 h13 => ?_)⟩
        change ix_W _ _ _ (55, [some (.inr (.inr (.inl (some (204))))), some (.inl (x1)), some (.inl (x2)), some (.inl (x3)), some (.inl (x4))], [.inl (v13), .inr (.inr (.inl (some (245)))), .inl (x3)], 0, 0, ix_mem 276 I13 J13 T13)
        obtain ⟨p14, h15⟩ := h13
        refine ix_go 5 (x' := (63, [some (.inr (.inr (.inl (some (204))))), some (.inl (x1)), some (.inl (x2)), some (.inl (x3)), some (.inl (x4))], [.inl (x2), .inl (x4), .inr (.inr (.inl (some (246)))), .inl (I13 245 (v13).toNatClampNeg), .inl (x3)], 0, 0, ix_mem 276 I13 J13 T13)) rfl ⟨rfl, rfl, p14, rfl, rfl⟩ ?_
        refine ix_sp rfl ⟨rfl, trivial, ix_le rfl, Nat.le_refl _, Nat.le_refl _, tp_X12_pair h15 (fun v16 I16 J16 T16 h16 => ?_)⟩
        change ix_W _ _ _ (66, [some (.inr (.inr (.inl (some (204))))), some (.inl (x1)), some (.inl (x2)), some (.inl (x3)), some (.inl (x4))], [.inl (v16), .inr (.inr (.inl (some (246)))), .inl (I13 245 (v13).toNatClampNeg), .inl (x3)], 0, 0, ix_mem 276 I16 J16 T16)
        obtain ⟨p17, h18⟩ := h16
        refine ix_go 2 (x' := (68, [some (.inr (.inr (.inl (some (204))))), some (.inl (x1)), some (.inl (x2)), some (.inl (x3)), some (.inl (x4))], [.inl ((I13 245 (v13).toNatClampNeg) + (I16 246 (v16).toNatClampNeg)), .inl (x3)], 0, 0, ix_mem 276 I16 J16 T16)) rfl ⟨rfl, rfl, p17⟩ ?_
        refine ix_sp rfl ⟨rfl, trivial, ix_le rfl, Nat.le_refl _, Nat.le_refl _, tp_J9_min_7cf53 h18 (fun v19 I19 J19 T19 h19 => ?_)⟩
        change ix_W _ _ _ (71, [some (.inr (.inr (.inl (some (204))))), some (.inl (x1)), some (.inl (x2)), some (.inl (x3)), some (.inl (x4))], [.inl (v19)], 0, 0, ix_mem 276 I19 J19 T19)
        refine ix_go 3 (x' := (14, [some (.inr (.inr (.inl (some (204))))), some (.inl (x1)), some (.inl (x2)), some (.inl (v19)), some (.inl (x4 + (1 : Int32)))], [], 0, 0, ix_mem 276 I19 J19 T19)) rfl trivial ?_
        refine ix_subW ([some (.inr (.inr (.inl (some (204))))), some (.inl (x1)), some (.inl (x2)), some (.inl (v19)), some (.inl (x4 + (1 : Int32)))]) (ix_subS (ix_subS (ix_subS (ix_subS (ix_subS (ix_sub0)))))) ?_
        exact h19
  · have h5 := hb.2 c4
    refine ix_go 1 (x' := (79, [some (.inr (.inr (.inl (some (204))))), some (.inl (x1)), some (.inl (x2)), some (.inl (x3)), some (.inl (x4))], [.inl (x3)], 0, 0, ix_mem 276 I J T)) rfl trivial ?_
    exact ix_sp rfl ⟨Nat.le_refl _, Nat.le_refl _, trivial, hQ _ _ _ _ h5⟩
def wp_X12_evenOf (a0 : Int32) (a1 : Int32) (I : Nat → Nat → Int32) (J : Nat → Nat → Int64) (T : Option Nat) (P : Int32 → (Nat → Nat → Int32) → (Nat → Nat → Int64) → Option Nat → Prop) : Prop := wp_X12_pair (a0) (a1) I J T (fun v1 I1 J1 T1 => ix_inb (v1) 49 = true ∧ wl_X12_evenOf_14 (a0) (a1) (I1 246 (v1).toNatClampNeg) ((0 : Int32)) I1 J1 T1 P)
set_option maxRecDepth 20000 in
theorem tp_X12_evenOf {d : Nat} {a0 : Int32} {a1 : Int32} {I : Nat → Nat → Int32} {J : Nat → Nat → Int64} {T : Option Nat} {P : Int32 → (Nat → Nat → Int32) → (Nat → Nat → Int64) → Option Nat → Prop} {Q : ix_Q} (h : wp_X12_evenOf a0 a1 I J T P) (hQ : ∀ v I J T, P v I J T → Q (some (.inl v)) (ix_mem 276 I J T)) : ix_C (d + 2) 301 [.inr (.inr (.inl (some (204)))), .inl (a0), .inl (a1)] (ix_mem 276 I J T) Q := by
  unfold wp_X12_evenOf at h
  refine ix_enter (ls := [some (.inr (.inr (.inl (some (204))))), some (.inl (a0)), some (.inl (a1)), none, none]) rfl rfl rfl (Nat.le_of_ble_eq_true rfl) ?_
  refine ix_go 4 (x' := (6, [some (.inr (.inr (.inl (some (204))))), some (.inl (a0)), some (.inl (a1)), none, none], [.inl (a1), .inl (a0), .inr (.inr (.inl (some (246))))], 0, 0, ix_mem 276 I J T)) rfl ⟨rfl, rfl⟩ ?_
  refine ix_sp rfl ⟨rfl, trivial, ix_le rfl, Nat.le_refl _, Nat.le_refl _, tp_X12_pair h (fun v1 I1 J1 T1 h1 => ?_)⟩
  change ix_W _ _ _ (9, [some (.inr (.inr (.inl (some (204))))), some (.inl (a0)), some (.inl (a1)), none, none], [.inl (v1), .inr (.inr (.inl (some (246))))], 0, 0, ix_mem 276 I1 J1 T1)
  obtain ⟨p2, h3⟩ := h1
  refine ix_go 4 (x' := (14, [some (.inr (.inr (.inl (some (204))))), some (.inl (a0)), some (.inl (a1)), some (.inl (I1 246 (v1).toNatClampNeg)), some (.inl ((0 : Int32)))], [], 0, 0, ix_mem 276 I1 J1 T1)) rfl ⟨rfl, rfl, p2⟩ ?_
  refine ix_subW ([some (.inr (.inr (.inl (some (204))))), some (.inl (a0)), some (.inl (a1)), some (.inl (I1 246 (v1).toNatClampNeg)), some (.inl ((0 : Int32)))]) (ix_subS (ix_subS (ix_subS (ix_subS (ix_subS (ix_sub0)))))) ?_
  exact tl_X12_evenOf_14 h3 hQ
