def wp_X12_join (I : Nat → Nat → Int32) (J : Nat → Nat → Int64) (T : Option Nat) (P : Int32 → (Nat → Nat → Int32) → (Nat → Nat → Int64) → Option Nat → Prop) : Prop := wp_X12_pairing I J T (fun v1 I1 J1 T1 => wp_X12_gives (v1) I1 J1 T1 (fun v2 I2 J2 T2 => P (v2) I2 J2 T2))
set_option maxRecDepth 20000 in
theorem tp_X12_join {d : Nat} {I : Nat → Nat → Int32} {J : Nat → Nat → Int64} {T : Option Nat} {P : Int32 → (Nat → Nat → Int32) → (Nat → Nat → Int64) → Option Nat → Prop} {Q : ix_Q} (h : wp_X12_join I J T P) (hQ : ∀ v I J T, P v I J T → Q (some (.inl v)) (ix_mem 276 I J T)) : ix_C (d + 4) 334 [.inr (.inr (.inl (some (204))))] (ix_mem 276 I J T) Q := by
  unfold wp_X12_join at h
  refine ix_enter (ls := [some (.inr (.inr (.inl (some (204)))))]) rfl rfl rfl (Nat.le_of_ble_eq_true rfl) ?_
  refine ix_go 2 (x' := (2, [some (.inr (.inr (.inl (some (204)))))], [.inr (.inr (.inl (some (204)))), .inr (.inr (.inl (some (204))))], 0, 0, ix_mem 276 I J T)) rfl trivial ?_
  refine ix_sp rfl ⟨rfl, ⟨ix_lt rfl, ix_eq rfl, ix_lt rfl⟩, ix_le rfl, Nat.le_refl _, Nat.le_refl _, tp_X12_pairing h (fun v1 I1 J1 T1 h1 => ?_)⟩
  change ix_W _ _ _ (5, [some (.inr (.inr (.inl (some (204)))))], [.inl (v1), .inr (.inr (.inl (some (204))))], 0, 0, ix_mem 276 I1 J1 T1)
  refine ix_sp rfl ⟨rfl, ⟨ix_lt rfl, ix_eq rfl, ix_lt rfl⟩, ix_le rfl, Nat.le_refl _, Nat.le_refl _, tp_X12_gives h1 (fun v2 I2 J2 T2 h2 => ?_)⟩
  change ix_W _ _ _ (8, [some (.inr (.inr (.inl (some (204)))))], [.inl (v2)], 0, 0, ix_mem 276 I2 J2 T2)
  exact ix_sp rfl ⟨Nat.le_refl _, Nat.le_refl _, trivial, hQ _ _ _ _ h2⟩
def wp_X12_mate (a0 : Int32) (I : Nat → Nat → Int32) (J : Nat → Nat → Int64) (T : Option Nat) (P : Int32 → (Nat → Nat → Int32) → (Nat → Nat → Int64) → Option Nat → Prop) : Prop := ((a0 < 0 → wp_X12_refuse ((1 : Int32)) I J T (fun v3 I3 J3 T3 => P (v3) I3 J3 T3)) ∧ (¬ (a0 < 0) → ((a0 < I 267 ((0 : Int32)).toNatClampNeg → wp_X12_pairs I J T (fun I6 J6 T6 => ix_inb (a0) 12 = true ∧ ((I6 272 (a0).toNatClampNeg = (-1 : Int32) → wp_X12_refuse ((6 : Int32)) I6 J6 T6 (fun v11 I11 J11 T11 => P (v11) I11 J11 T11)) ∧ (¬ (I6 272 (a0).toNatClampNeg = (-1 : Int32)) → ix_inb (a0) 12 = true ∧ wp_X12_gives (I6 272 (a0).toNatClampNeg) I6 J6 T6 (fun v14 I14 J14 T14 => P (v14) I14 J14 T14))))) ∧ (¬ (a0 < I 267 ((0 : Int32)).toNatClampNeg) → wp_X12_refuse ((1 : Int32)) I J T (fun v15 I15 J15 T15 => P (v15) I15 J15 T15)))))
set_option maxRecDepth 20000 in
theorem tp_X12_mate {d : Nat} {a0 : Int32} {I : Nat → Nat → Int32} {J : Nat → Nat → Int64} {T : Option Nat} {P : Int32 → (Nat → Nat → Int32) → (Nat → Nat → Int64) → Option Nat → Prop} {Q : ix_Q} (h : wp_X12_mate a0 I J T P) (hQ : ∀ v I J T, P v I J T → Q (some (.inl v)) (ix_mem 276 I J T)) : ix_C (d + 5) 335 [.inr (.inr (.inl (some (204)))), .inl (a0)] (ix_mem 276 I J T) Q := by
  unfold wp_X12_mate at h
  refine ix_enter (ls := [some (.inr (.inr (.inl (some (204))))), some (.inl (a0))]) rfl rfl rfl (Nat.le_of_ble_eq_true rfl) ?_
  refine ix_go 2 (x' := (if a0 < 0 then 14 else 4, [some (.inr (.inr (.inl (some (204))))), some (.inl (a0))], [], 0, 0, ix_mem 276 I J T)) rfl trivial ?_
  refine ix_br (fun c1 => ?_) (fun c1 => ?_)
  · have h2 := h.1 c1
    refine ix_go 2 (x' := (16, [some (.inr (.inr (.inl (some (204))))), some (.inl (a0))], [.inl ((1 : Int32)), .inr (.inr (.inl (some (204))))], 0, 0, ix_mem 276 I J T)) rfl trivial ?_
    refine ix_sp rfl ⟨rfl, ⟨ix_lt rfl, ix_eq rfl, ix_lt rfl⟩, ix_le rfl, Nat.le_refl _, Nat.le_refl _, tp_X12_refuse h2 (fun v3 I3 J3 T3 h3 => ?_)⟩
    change ix_W _ _ _ (19, [some (.inr (.inr (.inl (some (204))))), some (.inl (a0))], [.inl (v3)], 0, 0, ix_mem 276 I3 J3 T3)
    exact ix_sp rfl ⟨Nat.le_refl _, Nat.le_refl _, trivial, hQ _ _ _ _ h3⟩
  · have h2 := h.2 c1
    refine ix_go 6 (x' := (if a0 < I 267 ((0 : Int32)).toNatClampNeg then 20 else 14, [some (.inr (.inr (.inl (some (204))))), some (.inl (a0))], [], 0, 0, ix_mem 276 I J T)) rfl ⟨rfl, rfl, rfl, rfl, rfl⟩ ?_
    refine ix_br (fun c4 => ?_) (fun c4 => ?_)
    · have h5 := h2.1 c4
      refine ix_go 1 (x' := (21, [some (.inr (.inr (.inl (some (204))))), some (.inl (a0))], [.inr (.inr (.inl (some (204))))], 0, 0, ix_mem 276 I J T)) rfl trivial ?_
      refine ix_sp rfl ⟨rfl, ⟨ix_lt rfl, ix_eq rfl, ix_lt rfl⟩, ix_le rfl, Nat.le_refl _, Nat.le_refl _, tp_X12_pairs h5 (fun I6 J6 T6 h6 => ?_)⟩
      change ix_W _ _ _ (24, [some (.inr (.inr (.inl (some (204))))), some (.inl (a0))], [], 0, 0, ix_mem 276 I6 J6 T6)
      obtain ⟨p7, h8⟩ := h6
      refine ix_go 6 (x' := (if I6 272 (a0).toNatClampNeg = (-1 : Int32) then 34 else 43, [some (.inr (.inr (.inl (some (204))))), some (.inl (a0))], [], 0, 0, ix_mem 276 I6 J6 T6)) rfl ⟨rfl, rfl, rfl, rfl, p7⟩ ?_
      refine ix_br (fun c9 => ?_) (fun c9 => ?_)
      · have h10 := h8.1 c9
        refine ix_go 2 (x' := (37, [some (.inr (.inr (.inl (some (204))))), some (.inl (a0))], [.inl ((6 : Int32)), .inr (.inr (.inl (some (204))))], 0, 0, ix_mem 276 I6 J6 T6)) rfl trivial ?_
        refine ix_sp rfl ⟨rfl, ⟨ix_lt rfl, ix_eq rfl, ix_lt rfl⟩, ix_le rfl, Nat.le_refl _, Nat.le_refl _, tp_X12_refuse h10 (fun v11 I11 J11 T11 h11 => ?_)⟩
        change ix_W _ _ _ (40, [some (.inr (.inr (.inl (some (204))))), some (.inl (a0))], [.inl (v11)], 0, 0, ix_mem 276 I11 J11 T11)
        refine ix_go 1 (x' := (53, [some (.inr (.inr (.inl (some (204))))), some (.inl (a0))], [.inl (v11)], 0, 0, ix_mem 276 I11 J11 T11)) rfl trivial ?_
        exact ix_sp rfl ⟨Nat.le_refl _, Nat.le_refl _, trivial, hQ _ _ _ _ h11⟩
      · have h10 := h8.2 c9
        obtain ⟨p12, h13⟩ := h10
        refine ix_go 5 (x' := (50, [some (.inr (.inr (.inl (some (204))))), some (.inl (a0))], [.inl (I6 272 (a0).toNatClampNeg), .inr (.inr (.inl (some (204))))], 0, 0, ix_mem 276 I6 J6 T6)) rfl ⟨rfl, rfl, rfl, rfl, p12⟩ ?_
        refine ix_sp rfl ⟨rfl, ⟨ix_lt rfl, ix_eq rfl, ix_lt rfl⟩, ix_le rfl, Nat.le_refl _, Nat.le_refl _, tp_X12_gives h13 (fun v14 I14 J14 T14 h14 => ?_)⟩
        change ix_W _ _ _ (53, [some (.inr (.inr (.inl (some (204))))), some (.inl (a0))], [.inl (v14)], 0, 0, ix_mem 276 I14 J14 T14)
        exact ix_sp rfl ⟨Nat.le_refl _, Nat.le_refl _, trivial, hQ _ _ _ _ h14⟩
    · have h5 := h2.2 c4
      refine ix_go 2 (x' := (16, [some (.inr (.inr (.inl (some (204))))), some (.inl (a0))], [.inl ((1 : Int32)), .inr (.inr (.inl (some (204))))], 0, 0, ix_mem 276 I J T)) rfl trivial ?_
      refine ix_sp rfl ⟨rfl, ⟨ix_lt rfl, ix_eq rfl, ix_lt rfl⟩, ix_le rfl, Nat.le_refl _, Nat.le_refl _, tp_X12_refuse h5 (fun v15 I15 J15 T15 h15 => ?_)⟩
      change ix_W _ _ _ (19, [some (.inr (.inr (.inl (some (204))))), some (.inl (a0))], [.inl (v15)], 0, 0, ix_mem 276 I15 J15 T15)
      exact ix_sp rfl ⟨Nat.le_refl _, Nat.le_refl _, trivial, hQ _ _ _ _ h15⟩
def wb_X12_leans_103_23 (x1 : Int32) (x2 : Int32) (x3 : Int32) (I : Nat → Nat → Int32) (J : Nat → Nat → Int64) (T : Option Nat) (V103 : Int32 → Int32 → Int32 → (Nat → Nat → Int32) → (Nat → Nat → Int64) → Option Nat → Prop) (V23 : Int32 → Int32 → Int32 → (Nat → Nat → Int32) → (Nat → Nat → Int64) → Option Nat → Prop) (P : Int32 → (Nat → Nat → Int32) → (Nat → Nat → Int64) → Option Nat → Prop) : Prop := ((x3 < I 267 ((1 : Int32)).toNatClampNeg → ((x1 = (1 : Int32) → ((((I 204 103) >>> ((x3) &&& 31)) &&& ((1 : Int32)) = 0 → ix_inb (((12 : Int32)) + (x3)) 24 = true ∧ V103 (x1) ((x2) - (I 270 (((12 : Int32)) + (x3)).toNatClampNeg)) (x3 + (1 : Int32)) I J T) ∧ (¬ (((I 204 103) >>> ((x3) &&& 31)) &&& ((1 : Int32)) = 0) → V103 (x1) ((x2) - ((0 : Int32))) (x3 + (1 : Int32)) I J T))) ∧ (¬ (x1 = (1 : Int32)) → V103 (x1) ((x2) - ((0 : Int32))) (x3 + (1 : Int32)) I J T))) ∧ (¬ (x3 < I 267 ((1 : Int32)).toNatClampNeg) → wp_X12_gives (x2) I J T (fun v53 I53 J53 T53 => P (v53) I53 J53 T53)))
def wl_X12_leans_103_23 (x1 : Int32) (x2 : Int32) (x3 : Int32) (I : Nat → Nat → Int32) (J : Nat → Nat → Int64) (T : Option Nat) (V23 : Int32 → Int32 → Int32 → (Nat → Nat → Int32) → (Nat → Nat → Int64) → Option Nat → Prop) (P : Int32 → (Nat → Nat → Int32) → (Nat → Nat → Int64) → Option Nat → Prop) : Prop := ∀ V : Int32 → Int32 → Int32 → (Nat → Nat → Int32) → (Nat → Nat → Int64) → Option Nat → Prop, (∀ (x1 : Int32) (x2 : Int32) (x3 : Int32) (I : Nat → Nat → Int32) (J : Nat → Nat → Int64) (T : Option Nat), wb_X12_leans_103_23 x1 x2 x3 I J T V V23 P → V x1 x2 x3 I J T) → V x1 x2 x3 I J T
set_option maxRecDepth 20000 in
theorem tl_X12_leans_103_23 {d : Nat} {x1 : Int32} {x2 : Int32} {x3 : Int32} {I : Nat → Nat → Int32} {J : Nat → Nat → Int64} {T : Option Nat} {V23 : Int32 → Int32 → Int32 → (Nat → Nat → Int32) → (Nat → Nat → Int64) → Option Nat → Prop} {P : Int32 → (Nat → Nat → Int32) → (Nat → Nat → Int64) → Option Nat → Prop} {Q : ix_Q} (h : wl_X12_leans_103_23 x1 x2 x3 I J T V23 P) (hV23 : ∀ (x1 : Int32) (x2 : Int32) (x3 : Int32) I J T, V23 x1 x2 x3 I J T → ix_W (ix_C (d + 1)) (12, ix_lk ix_l336, (some .int), 0, 0, Nat.blt 0 0, none) Q (23, [some (.inr (.inr (.inl (some (204))))), some (.inl (x1)), some (.inl (x2)), some (.inl (x3))], [], 0, 0, ix_mem 276 I J T)) (hQ : ∀ v I J T, P v I J T → Q (some (.inl v)) (ix_mem 276 I J T)) : ix_W (ix_C (d + 1)) (12, ix_lk ix_l336, (some .int), 0, 0, Nat.blt 0 0, none) Q (103, [some (.inr (.inr (.inl (some (204))))), some (.inl (x1)), some (.inl (x2)), some (.inl (x3))], [], 0, 0, ix_mem 276 I J T) := by
  refine h (fun x1 x2 x3 I J T => ix_W (ix_C (d + 1)) (12, ix_lk ix_l336, (some .int), 0, 0, Nat.blt 0 0, none) Q (103, [some (.inr (.inr (.inl (some (204))))), some (.inl (x1)), some (.inl (x2)), some (.inl (x3))], [], 0, 0, ix_mem 276 I J T)) ?_
  intro x1 x2 x3 I J T hb
  unfold wb_X12_leans_103_23 at hb
  refine ix_go 6 (x' := (if x3 < I 267 ((1 : Int32)).toNatClampNeg then 113 else 151, [some (.inr (.inr (.inl (some (204))))), some (.inl (x1)), some (.inl (x2)), some (.inl (x3))], [], 0, 0, ix_mem 276 I J T)) rfl ⟨rfl, rfl, rfl, rfl, rfl⟩ ?_
  refine ix_br (fun c45 => ?_) (fun c45 => ?_)
  · have h46 := hb.1 c45
    refine ix_go 4 (x' := (if x1 = (1 : Int32) then 119 else 142, [some (.inr (.inr (.inl (some (204))))), some (.inl (x1)), some (.inl (x2)), some (.inl (x3))], [.inl (x2)], 0, 0, ix_mem 276 I J T)) rfl trivial ?_
    refine ix_br (fun c47 => ?_) (fun c47 => ?_)
    · have h48 := h46.1 c47
      refine ix_go 7 (x' := (if ((I 204 103) >>> ((x3) &&& 31)) &&& ((1 : Int32)) = 0 then 130 else 142, [some (.inr (.inr (.inl (some (204))))), some (.inl (x1)), some (.inl (x2)), some (.inl (x3))], [.inl (x2)], 0, 0, ix_mem 276 I J T)) rfl ⟨rfl, rfl⟩ ?_
      refine ix_br (fun c49 => ?_) (fun c49 => ?_)
      · have h50 := h48.1 c49
        obtain ⟨p51, h52⟩ := h50
        refine ix_go 7 (x' := (143, [some (.inr (.inr (.inl (some (204))))), some (.inl (x1)), some (.inl (x2)), some (.inl (x3))], [.inl (I 270 (((12 : Int32)) + (x3)).toNatClampNeg), .inl (x2)], 0, 0, ix_mem 276 I J T)) rfl ⟨rfl, rfl, rfl, rfl, p51⟩ ?_
        refine ix_go 4 (x' := (103, [some (.inr (.inr (.inl (some (204))))), some (.inl (x1)), some (.inl ((x2) - (I 270 (((12 : Int32)) + (x3)).toNatClampNeg))), some (.inl (x3 + (1 : Int32)))], [], 0, 0, ix_mem 276 I J T)) rfl trivial ?_
        refine ix_subW ([some (.inr (.inr (.inl (some (204))))), some (.inl (x1)), some (.inl ((x2) - (I 270 (((12 : Int32)) + (x3)).toNatClampNeg))), some (.inl (x3 + (1 : Int32)))]) (ix_subS (ix_subS (ix_subS (ix_subS (ix_sub0))))) ?_
        exact h52
      · have h50 := h48.2 c49
        refine ix_go 5 (x' := (103, [some (.inr (.inr (.inl (some (204))))), some (.inl (x1)), some (.inl ((x2) - ((0 : Int32)))), some (.inl (x3 + (1 : Int32)))], [], 0, 0, ix_mem 276 I J T)) rfl trivial ?_
        refine ix_subW ([some (.inr (.inr (.inl (some (204))))), some (.inl (x1)), some (.inl ((x2) - ((0 : Int32)))), some (.inl (x3 + (1 : Int32)))]) (ix_subS (ix_subS (ix_subS (ix_subS (ix_sub0))))) ?_
        exact h50
    · have h48 := h46.2 c47
      refine ix_go 5 (x' := (103, [some (.inr (.inr (.inl (some (204))))), some (.inl (x1)), some (.inl ((x2) - ((0 : Int32)))), some (.inl (x3 + (1 : Int32)))], [], 0, 0, ix_mem 276 I J T)) rfl trivial ?_
      refine ix_subW ([some (.inr (.inr (.inl (some (204))))), some (.inl (x1)), some (.inl ((x2) - ((0 : Int32)))), some (.inl (x3 + (1 : Int32)))]) (ix_subS (ix_subS (ix_subS (ix_subS (ix_sub0))))) ?_
      exact h48
  · have h46 := hb.2 c45
    refine ix_go 2 (x' := (153, [some (.inr (.inr (.inl (some (204))))), some (.inl (x1)), some (.inl (x2)), some (.inl (x3))], [.inl (x2), .inr (.inr (.inl (some (204))))], 0, 0, ix_mem 276 I J T)) rfl trivial ?_
    refine ix_sp rfl ⟨rfl, ⟨ix_lt rfl, ix_eq rfl, ix_lt rfl⟩, ix_le rfl, Nat.le_refl _, Nat.le_refl _, tp_X12_gives h46 (fun v53 I53 J53 T53 h53 => ?_)⟩
    change ix_W _ _ _ (156, [some (.inr (.inr (.inl (some (204))))), some (.inl (x1)), some (.inl (x2)), some (.inl (x3))], [.inl (v53)], 0, 0, ix_mem 276 I53 J53 T53)
    exact ix_sp rfl ⟨Nat.le_refl _, Nat.le_refl _, trivial, hQ _ _ _ _ h53⟩
def wb_X12_leans_23 (x1 : Int32) (x2 : Int32) (x3 : Int32) (I : Nat → Nat → Int32) (J : Nat → Nat → Int64) (T : Option Nat) (V23 : Int32 → Int32 → Int32 → (Nat → Nat → Int32) → (Nat → Nat → Int64) → Option Nat → Prop) (P : Int32 → (Nat → Nat → Int32) → (Nat → Nat → Int64) → Option Nat → Prop) : Prop := ((x3 < I 267 ((0 : Int32)).toNatClampNeg → ((x1 = 0 → ix_inb (x3) 12 = true ∧ ((I 272 (x3).toNatClampNeg = (-1 : Int32) → ((x1 = (1 : Int32) → ix_inb (x3) 12 = true ∧ ((I 272 (x3).toNatClampNeg = (-1 : Int32) → ix_inb (x3) 24 = true ∧ V23 (x1) ((x2) + (I 270 (x3).toNatClampNeg)) (x3 + (1 : Int32)) I J T) ∧ (¬ (I 272 (x3).toNatClampNeg = (-1 : Int32)) → V23 (x1) (x2) (x3 + (1 : Int32)) I J T))) ∧ (¬ (x1 = (1 : Int32)) → V23 (x1) (x2) (x3 + (1 : Int32)) I J T))) ∧ (¬ (I 272 (x3).toNatClampNeg = (-1 : Int32)) → ix_inb (x3) 24 = true ∧ ix_inb (x3) 12 = true ∧ ix_inb (((12 : Int32)) + (I 272 (x3).toNatClampNeg)) 24 = true ∧ ((x1 = (1 : Int32) → ix_inb (x3) 12 = true ∧ ((I 272 (x3).toNatClampNeg = (-1 : Int32) → ix_inb (x3) 24 = true ∧ V23 (x1) (((x2) + ((I 270 (x3).toNatClampNeg) - (I 270 (((12 : Int32)) + (I 272 (x3).toNatClampNeg)).toNatClampNeg))) + (I 270 (x3).toNatClampNeg)) (x3 + (1 : Int32)) I J T) ∧ (¬ (I 272 (x3).toNatClampNeg = (-1 : Int32)) → V23 (x1) ((x2) + ((I 270 (x3).toNatClampNeg) - (I 270 (((12 : Int32)) + (I 272 (x3).toNatClampNeg)).toNatClampNeg))) (x3 + (1 : Int32)) I J T))) ∧ (¬ (x1 = (1 : Int32)) → V23 (x1) ((x2) + ((I 270 (x3).toNatClampNeg) - (I 270 (((12 : Int32)) + (I 272 (x3).toNatClampNeg)).toNatClampNeg))) (x3 + (1 : Int32)) I J T))))) ∧ (¬ (x1 = 0) → ((x1 = (1 : Int32) → ix_inb (x3) 12 = true ∧ ((I 272 (x3).toNatClampNeg = (-1 : Int32) → ix_inb (x3) 24 = true ∧ V23 (x1) ((x2) + (I 270 (x3).toNatClampNeg)) (x3 + (1 : Int32)) I J T) ∧ (¬ (I 272 (x3).toNatClampNeg = (-1 : Int32)) → V23 (x1) (x2) (x3 + (1 : Int32)) I J T))) ∧ (¬ (x1 = (1 : Int32)) → V23 (x1) (x2) (x3 + (1 : Int32)) I J T))))) ∧ (¬ (x3 < I 267 ((0 : Int32)).toNatClampNeg) → wl_X12_leans_103_23 (x1) (x2) ((0 : Int32)) I J T V23 P))
def wl_X12_leans_23 (x1 : Int32) (x2 : Int32) (x3 : Int32) (I : Nat → Nat → Int32) (J : Nat → Nat → Int64) (T : Option Nat) (P : Int32 → (Nat → Nat → Int32) → (Nat → Nat → Int64) → Option Nat → Prop) : Prop := ∀ V : Int32 → Int32 → Int32 → (Nat → Nat → Int32) → (Nat → Nat → Int64) → Option Nat → Prop, (∀ (x1 : Int32) (x2 : Int32) (x3 : Int32) (I : Nat → Nat → Int32) (J : Nat → Nat → Int64) (T : Option Nat), wb_X12_leans_23 x1 x2 x3 I J T V P → V x1 x2 x3 I J T) → V x1 x2 x3 I J T
set_option maxRecDepth 20000 in
theorem tl_X12_leans_23 {d : Nat} {x1 : Int32} {x2 : Int32} {x3 : Int32} {I : Nat → Nat → Int32} {J : Nat → Nat → Int64} {T : Option Nat} {P : Int32 → (Nat → Nat → Int32) → (Nat → Nat → Int64) → Option Nat → Prop} {Q : ix_Q} (h : wl_X12_leans_23 x1 x2 x3 I J T P) (hQ : ∀ v I J T, P v I J T → Q (some (.inl v)) (ix_mem 276 I J T)) : ix_W (ix_C (d + 1)) (12, ix_lk ix_l336, (some .int), 0, 0, Nat.blt 0 0, none) Q (23, [some (.inr (.inr (.inl (some (204))))), some (.inl (x1)), some (.inl (x2)), some (.inl (x3))], [], 0, 0, ix_mem 276 I J T) := by
  refine h (fun x1 x2 x3 I J T => ix_W (ix_C (d + 1)) (12, ix_lk ix_l336, (some .int), 0, 0, Nat.blt 0 0, none) Q (23, [some (.inr (.inr (.inl (some (204))))), some (.inl (x1)), some (.inl (x2)), some (.inl (x3))], [], 0, 0, ix_mem 276 I J T)) ?_
  intro x1 x2 x3 I J T hb
  unfold wb_X12_leans_23 at hb
  refine ix_go 6 (x' := (if x3 < I 267 ((0 : Int32)).toNatClampNeg then 33 else 101, [some (.inr (.inr (.inl (some (204))))), some (.inl (x1)), some (.inl (x2)), some (.inl (x3))], [], 0, 0, ix_mem 276 I J T)) rfl ⟨rfl, rfl, rfl, rfl, rfl⟩ ?_
  refine ix_br (fun c7 => ?_) (fun c7 => ?_)
  · have h8 := hb.1 c7
    refine ix_go 2 (x' := (if x1 = 0 then 37 else 71, [some (.inr (.inr (.inl (some (204))))), some (.inl (x1)), some (.inl (x2)), some (.inl (x3))], [], 0, 0, ix_mem 276 I J T)) rfl trivial ?_
    refine ix_br (fun c9 => ?_) (fun c9 => ?_)
    · have h10 := h8.1 c9
      obtain ⟨p11, h12⟩ := h10
      refine ix_go 6 (x' := (if I 272 (x3).toNatClampNeg = (-1 : Int32) then 71 else 47, [some (.inr (.inr (.inl (some (204))))), some (.inl (x1)), some (.inl (x2)), some (.inl (x3))], [], 0, 0, ix_mem 276 I J T)) rfl ⟨rfl, rfl, rfl, rfl, p11⟩ ?_
      refine ix_br (fun c13 => ?_) (fun c13 => ?_)
      · have h14 := h12.1 c13
        refine ix_go 3 (x' := (if x1 = (1 : Int32) then 76 else 95, [some (.inr (.inr (.inl (some (204))))), some (.inl (x1)), some (.inl (x2)), some (.inl (x3))], [], 0, 0, ix_mem 276 I J T)) rfl trivial ?_
        refine ix_br (fun c15 => ?_) (fun c15 => ?_)
        · have h16 := h14.1 c15
          obtain ⟨p17, h18⟩ := h16
          refine ix_go 6 (x' := (if I 272 (x3).toNatClampNeg = (-1 : Int32) then 86 else 95, [some (.inr (.inr (.inl (some (204))))), some (.inl (x1)), some (.inl (x2)), some (.inl (x3))], [], 0, 0, ix_mem 276 I J T)) rfl ⟨rfl, rfl, rfl, rfl, p17⟩ ?_
          refine ix_br (fun c19 => ?_) (fun c19 => ?_)
          · have h20 := h18.1 c19
            obtain ⟨p21, h22⟩ := h20
            refine ix_go 7 (x' := (95, [some (.inr (.inr (.inl (some (204))))), some (.inl (x1)), some (.inl ((x2) + (I 270 (x3).toNatClampNeg))), some (.inl (x3))], [], 0, 0, ix_mem 276 I J T)) rfl ⟨rfl, rfl, rfl, rfl, p21⟩ ?_
            refine ix_go 2 (x' := (23, [some (.inr (.inr (.inl (some (204))))), some (.inl (x1)), some (.inl ((x2) + (I 270 (x3).toNatClampNeg))), some (.inl (x3 + (1 : Int32)))], [], 0, 0, ix_mem 276 I J T)) rfl trivial ?_
            refine ix_subW ([some (.inr (.inr (.inl (some (204))))), some (.inl (x1)), some (.inl ((x2) + (I 270 (x3).toNatClampNeg))), some (.inl (x3 + (1 : Int32)))]) (ix_subS (ix_subS (ix_subS (ix_subS (ix_sub0))))) ?_
            exact h22
          · have h20 := h18.2 c19
            refine ix_go 2 (x' := (23, [some (.inr (.inr (.inl (some (204))))), some (.inl (x1)), some (.inl (x2)), some (.inl (x3 + (1 : Int32)))], [], 0, 0, ix_mem 276 I J T)) rfl trivial ?_
            refine ix_subW ([some (.inr (.inr (.inl (some (204))))), some (.inl (x1)), some (.inl (x2)), some (.inl (x3 + (1 : Int32)))]) (ix_subS (ix_subS (ix_subS (ix_subS (ix_sub0))))) ?_
            exact h20
        · have h16 := h14.2 c15
          refine ix_go 2 (x' := (23, [some (.inr (.inr (.inl (some (204))))), some (.inl (x1)), some (.inl (x2)), some (.inl (x3 + (1 : Int32)))], [], 0, 0, ix_mem 276 I J T)) rfl trivial ?_
          refine ix_subW ([some (.inr (.inr (.inl (some (204))))), some (.inl (x1)), some (.inl (x2)), some (.inl (x3 + (1 : Int32)))]) (ix_subS (ix_subS (ix_subS (ix_subS (ix_sub0))))) ?_
          exact h16
      · have h14 := h12.2 c13
        obtain ⟨p23, h24⟩ := h14
        refine ix_go 7 (x' := (58, [some (.inr (.inr (.inl (some (204))))), some (.inl (x1)), some (.inl (x2)), some (.inl (x3))], [.inr (.inr (.inl (some (270)))), .inl (I 270 (x3).toNatClampNeg), .inl (x2)], 0, 0, ix_mem 276 I J T)) rfl ⟨rfl, rfl, rfl, rfl, p23, rfl, rfl⟩ ?_
        obtain ⟨p25, h26⟩ := h24
        obtain ⟨p27, h28⟩ := h26
        refine ix_go 7 (x' := (68, [some (.inr (.inr (.inl (some (204))))), some (.inl (x1)), some (.inl (x2)), some (.inl (x3))], [.inl (I 270 (((12 : Int32)) + (I 272 (x3).toNatClampNeg)).toNatClampNeg), .inl (I 270 (x3).toNatClampNeg), .inl (x2)], 0, 0, ix_mem 276 I J T)) rfl ⟨rfl, rfl, rfl, rfl, p25, rfl, rfl, p27⟩ ?_
        refine ix_go 6 (x' := (if x1 = (1 : Int32) then 76 else 95, [some (.inr (.inr (.inl (some (204))))), some (.inl (x1)), some (.inl ((x2) + ((I 270 (x3).toNatClampNeg) - (I 270 (((12 : Int32)) + (I 272 (x3).toNatClampNeg)).toNatClampNeg)))), some (.inl (x3))], [], 0, 0, ix_mem 276 I J T)) rfl trivial ?_
        refine ix_br (fun c29 => ?_) (fun c29 => ?_)
        · have h30 := h28.1 c29
          obtain ⟨p31, h32⟩ := h30
          refine ix_go 6 (x' := (if I 272 (x3).toNatClampNeg = (-1 : Int32) then 86 else 95, [some (.inr (.inr (.inl (some (204))))), some (.inl (x1)), some (.inl ((x2) + ((I 270 (x3).toNatClampNeg) - (I 270 (((12 : Int32)) + (I 272 (x3).toNatClampNeg)).toNatClampNeg)))), some (.inl (x3))], [], 0, 0, ix_mem 276 I J T)) rfl ⟨rfl, rfl, rfl, rfl, p31⟩ ?_
          refine ix_br (fun c33 => ?_) (fun c33 => ?_)
          · have h34 := h32.1 c33
            obtain ⟨p35, h36⟩ := h34
            refine ix_go 7 (x' := (95, [some (.inr (.inr (.inl (some (204))))), some (.inl (x1)), some (.inl (((x2) + ((I 270 (x3).toNatClampNeg) - (I 270 (((12 : Int32)) + (I 272 (x3).toNatClampNeg)).toNatClampNeg))) + (I 270 (x3).toNatClampNeg))), some (.inl (x3))], [], 0, 0, ix_mem 276 I J T)) rfl ⟨rfl, rfl, rfl, rfl, p35⟩ ?_
            refine ix_go 2 (x' := (23, [some (.inr (.inr (.inl (some (204))))), some (.inl (x1)), some (.inl (((x2) + ((I 270 (x3).toNatClampNeg) - (I 270 (((12 : Int32)) + (I 272 (x3).toNatClampNeg)).toNatClampNeg))) + (I 270 (x3).toNatClampNeg))), some (.inl (x3 + (1 : Int32)))], [], 0, 0, ix_mem 276 I J T)) rfl trivial ?_
            refine ix_subW ([some (.inr (.inr (.inl (some (204))))), some (.inl (x1)), some (.inl (((x2) + ((I 270 (x3).toNatClampNeg) - (I 270 (((12 : Int32)) + (I 272 (x3).toNatClampNeg)).toNatClampNeg))) + (I 270 (x3).toNatClampNeg))), some (.inl (x3 + (1 : Int32)))]) (ix_subS (ix_subS (ix_subS (ix_subS (ix_sub0))))) ?_
            exact h36
          · have h34 := h32.2 c33
            refine ix_go 2 (x' := (23, [some (.inr (.inr (.inl (some (204))))), some (.inl (x1)), some (.inl ((x2) + ((I 270 (x3).toNatClampNeg) - (I 270 (((12 : Int32)) + (I 272 (x3).toNatClampNeg)).toNatClampNeg)))), some (.inl (x3 + (1 : Int32)))], [], 0, 0, ix_mem 276 I J T)) rfl trivial ?_
            refine ix_subW ([some (.inr (.inr (.inl (some (204))))), some (.inl (x1)), some (.inl ((x2) + ((I 270 (x3).toNatClampNeg) - (I 270 (((12 : Int32)) + (I 272 (x3).toNatClampNeg)).toNatClampNeg)))), some (.inl (x3 + (1 : Int32)))]) (ix_subS (ix_subS (ix_subS (ix_subS (ix_sub0))))) ?_
            exact h34
        · have h30 := h28.2 c29
          refine ix_go 2 (x' := (23, [some (.inr (.inr (.inl (some (204))))), some (.inl (x1)), some (.inl ((x2) + ((I 270 (x3).toNatClampNeg) - (I 270 (((12 : Int32)) + (I 272 (x3).toNatClampNeg)).toNatClampNeg)))), some (.inl (x3 + (1 : Int32)))], [], 0, 0, ix_mem 276 I J T)) rfl trivial ?_
          refine ix_subW ([some (.inr (.inr (.inl (some (204))))), some (.inl (x1)), some (.inl ((x2) + ((I 270 (x3).toNatClampNeg) - (I 270 (((12 : Int32)) + (I 272 (x3).toNatClampNeg)).toNatClampNeg)))), some (.inl (x3 + (1 : Int32)))]) (ix_subS (ix_subS (ix_subS (ix_subS (ix_sub0))))) ?_
          exact h30
    · have h10 := h8.2 c9
      refine ix_go 3 (x' := (if x1 = (1 : Int32) then 76 else 95, [some (.inr (.inr (.inl (some (204))))), some (.inl (x1)), some (.inl (x2)), some (.inl (x3))], [], 0, 0, ix_mem 276 I J T)) rfl trivial ?_
      refine ix_br (fun c37 => ?_) (fun c37 => ?_)
      · have h38 := h10.1 c37
        obtain ⟨p39, h40⟩ := h38
        refine ix_go 6 (x' := (if I 272 (x3).toNatClampNeg = (-1 : Int32) then 86 else 95, [some (.inr (.inr (.inl (some (204))))), some (.inl (x1)), some (.inl (x2)), some (.inl (x3))], [], 0, 0, ix_mem 276 I J T)) rfl ⟨rfl, rfl, rfl, rfl, p39⟩ ?_
        refine ix_br (fun c41 => ?_) (fun c41 => ?_)
        · have h42 := h40.1 c41
          obtain ⟨p43, h44⟩ := h42
          refine ix_go 7 (x' := (95, [some (.inr (.inr (.inl (some (204))))), some (.inl (x1)), some (.inl ((x2) + (I 270 (x3).toNatClampNeg))), some (.inl (x3))], [], 0, 0, ix_mem 276 I J T)) rfl ⟨rfl, rfl, rfl, rfl, p43⟩ ?_
          refine ix_go 2 (x' := (23, [some (.inr (.inr (.inl (some (204))))), some (.inl (x1)), some (.inl ((x2) + (I 270 (x3).toNatClampNeg))), some (.inl (x3 + (1 : Int32)))], [], 0, 0, ix_mem 276 I J T)) rfl trivial ?_
          refine ix_subW ([some (.inr (.inr (.inl (some (204))))), some (.inl (x1)), some (.inl ((x2) + (I 270 (x3).toNatClampNeg))), some (.inl (x3 + (1 : Int32)))]) (ix_subS (ix_subS (ix_subS (ix_subS (ix_sub0))))) ?_
          exact h44
        · have h42 := h40.2 c41
          refine ix_go 2 (x' := (23, [some (.inr (.inr (.inl (some (204))))), some (.inl (x1)), some (.inl (x2)), some (.inl (x3 + (1 : Int32)))], [], 0, 0, ix_mem 276 I J T)) rfl trivial ?_
          refine ix_subW ([some (.inr (.inr (.inl (some (204))))), some (.inl (x1)), some (.inl (x2)), some (.inl (x3 + (1 : Int32)))]) (ix_subS (ix_subS (ix_subS (ix_subS (ix_sub0))))) ?_
          exact h42
      · have h38 := h10.2 c37
        refine ix_go 2 (x' := (23, [some (.inr (.inr (.inl (some (204))))), some (.inl (x1)), some (.inl (x2)), some (.inl (x3 + (1 : Int32)))], [], 0, 0, ix_mem 276 I J T)) rfl trivial ?_
        refine ix_subW ([some (.inr (.inr (.inl (some (204))))), some (.inl (x1)), some (.inl (x2)), some (.inl (x3 + (1 : Int32)))]) (ix_subS (ix_subS (ix_subS (ix_subS (ix_sub0))))) ?_
        exact h38
  · have h8 := hb.2 c7
    refine ix_go 2 (x' := (103, [some (.inr (.inr (.inl (some (204))))), some (.inl (x1)), some (.inl (x2)), some (.inl ((0 : Int32)))], [], 0, 0, ix_mem 276 I J T)) rfl trivial ?_
    refine ix_subW ([some (.inr (.inr (.inl (some (204))))), some (.inl (x1)), some (.inl (x2)), some (.inl ((0 : Int32)))]) (ix_subS (ix_subS (ix_subS (ix_subS (ix_sub0))))) ?_
    exact tl_X12_leans_103_23 h8 (fun _ _ _ I J T hv => hv) hQ
def wp_X12_leans (a0 : Int32) (I : Nat → Nat → Int32) (J : Nat → Nat → Int64) (T : Option Nat) (P : Int32 → (Nat → Nat → Int32) → (Nat → Nat → Int64) → Option Nat → Prop) : Prop := ((a0 < 0 → wp_X12_refuse ((1 : Int32)) I J T (fun v3 I3 J3 T3 => P (v3) I3 J3 T3)) ∧ (¬ (a0 < 0) → ((a0 ≤ (1 : Int32) → wp_X12_pairs I J T (fun I6 J6 T6 => wl_X12_leans_23 (a0) ((0 : Int32)) ((0 : Int32)) I6 J6 T6 P)) ∧ (¬ (a0 ≤ (1 : Int32)) → wp_X12_refuse ((1 : Int32)) I J T (fun v54 I54 J54 T54 => P (v54) I54 J54 T54)))))
set_option maxRecDepth 20000 in
theorem tp_X12_leans {d : Nat} {a0 : Int32} {I : Nat → Nat → Int32} {J : Nat → Nat → Int64} {T : Option Nat} {P : Int32 → (Nat → Nat → Int32) → (Nat → Nat → Int64) → Option Nat → Prop} {Q : ix_Q} (h : wp_X12_leans a0 I J T P) (hQ : ∀ v I J T, P v I J T → Q (some (.inl v)) (ix_mem 276 I J T)) : ix_C (d + 5) 336 [.inr (.inr (.inl (some (204)))), .inl (a0)] (ix_mem 276 I J T) Q := by
  unfold wp_X12_leans at h
  refine ix_enter (ls := [some (.inr (.inr (.inl (some (204))))), some (.inl (a0)), none, none]) rfl rfl rfl (Nat.le_of_ble_eq_true rfl) ?_
  refine ix_go 2 (x' := (if a0 < 0 then 9 else 4, [some (.inr (.inr (.inl (some (204))))), some (.inl (a0)), none, none], [], 0, 0, ix_mem 276 I J T)) rfl trivial ?_
  refine ix_br (fun c1 => ?_) (fun c1 => ?_)
  · have h2 := h.1 c1
    refine ix_go 2 (x' := (11, [some (.inr (.inr (.inl (some (204))))), some (.inl (a0)), none, none], [.inl ((1 : Int32)), .inr (.inr (.inl (some (204))))], 0, 0, ix_mem 276 I J T)) rfl trivial ?_
    refine ix_sp rfl ⟨rfl, ⟨ix_lt rfl, ix_eq rfl, ix_lt rfl⟩, ix_le rfl, Nat.le_refl _, Nat.le_refl _, tp_X12_refuse h2 (fun v3 I3 J3 T3 h3 => ?_)⟩
    change ix_W _ _ _ (14, [some (.inr (.inr (.inl (some (204))))), some (.inl (a0)), none, none], [.inl (v3)], 0, 0, ix_mem 276 I3 J3 T3)
    exact ix_sp rfl ⟨Nat.le_refl _, Nat.le_refl _, trivial, hQ _ _ _ _ h3⟩
  · have h2 := h.2 c1
    refine ix_go 3 (x' := (if a0 ≤ (1 : Int32) then 15 else 9, [some (.inr (.inr (.inl (some (204))))), some (.inl (a0)), none, none], [], 0, 0, ix_mem 276 I J T)) rfl trivial ?_
    refine ix_br (fun c4 => ?_) (fun c4 => ?_)
    · have h5 := h2.1 c4
      refine ix_go 1 (x' := (16, [some (.inr (.inr (.inl (some (204))))), some (.inl (a0)), none, none], [.inr (.inr (.inl (some (204))))], 0, 0, ix_mem 276 I J T)) rfl trivial ?_
      refine ix_sp rfl ⟨rfl, ⟨ix_lt rfl, ix_eq rfl, ix_lt rfl⟩, ix_le rfl, Nat.le_refl _, Nat.le_refl _, tp_X12_pairs h5 (fun I6 J6 T6 h6 => ?_)⟩
      change ix_W _ _ _ (19, [some (.inr (.inr (.inl (some (204))))), some (.inl (a0)), none, none], [], 0, 0, ix_mem 276 I6 J6 T6)
      refine ix_go 4 (x' := (23, [some (.inr (.inr (.inl (some (204))))), some (.inl (a0)), some (.inl ((0 : Int32))), some (.inl ((0 : Int32)))], [], 0, 0, ix_mem 276 I6 J6 T6)) rfl trivial ?_
      refine ix_subW ([some (.inr (.inr (.inl (some (204))))), some (.inl (a0)), some (.inl ((0 : Int32))), some (.inl ((0 : Int32)))]) (ix_subS (ix_subS (ix_subS (ix_subS (ix_sub0))))) ?_
      exact tl_X12_leans_23 h6 hQ
    · have h5 := h2.2 c4
      refine ix_go 2 (x' := (11, [some (.inr (.inr (.inl (some (204))))), some (.inl (a0)), none, none], [.inl ((1 : Int32)), .inr (.inr (.inl (some (204))))], 0, 0, ix_mem 276 I J T)) rfl trivial ?_
      refine ix_sp rfl ⟨rfl, ⟨ix_lt rfl, ix_eq rfl, ix_lt rfl⟩, ix_le rfl, Nat.le_refl _, Nat.le_refl _, tp_X12_refuse h5 (fun v54 I54 J54 T54 h54 => ?_)⟩
      change ix_W _ _ _ (14, [some (.inr (.inr (.inl (some (204))))), some (.inl (a0)), none, none], [.inl (v54)], 0, 0, ix_mem 276 I54 J54 T54)
      exact ix_sp rfl ⟨Nat.le_refl _, Nat.le_refl _, trivial, hQ _ _ _ _ h54⟩
def wb_X12_interest_58 (x4 : Int64) (x6 : Int64) (x8 : Int64) (I : Nat → Nat → Int32) (J : Nat → Nat → Int64) (T : Option Nat) (V58 : Int64 → Int64 → Int64 → (Nat → Nat → Int32) → (Nat → Nat → Int64) → Option Nat → Prop) (P : Int32 → (Nat → Nat → Int32) → (Nat → Nat → Int64) → Option Nat → Prop) : Prop := ((lg_cmp (x8) ((0 : Int64)) = 0 → ix_nzl (x6) = true ∧ ix_nzl (x6) = true ∧ ((lg_cmp (x4) ((0 : Int64)) ≤ 0 → wp_X12_gives ((0 : Int32)) I (ix_u2 (ix_u2 J 204 1 ((x4) / (x6))) 204 2 (((365000 : Int64)) / (x6))) T (fun v24 I24 J24 T24 => P (v24) I24 J24 T24)) ∧ (¬ (lg_cmp (x4) ((0 : Int64)) ≤ 0) → wp_X12_gives ((1 : Int32)) I (ix_u2 (ix_u2 J 204 1 ((x4) / (x6))) 204 2 (((365000 : Int64)) / (x6))) T (fun v25 I25 J25 T25 => P (v25) I25 J25 T25)))) ∧ (¬ (lg_cmp (x8) ((0 : Int64)) = 0) → ix_nzl (x8) = true ∧ V58 (x4) (x8) ((x6) - (x6) / (x8) * (x8)) I J T))
def wl_X12_interest_58 (x4 : Int64) (x6 : Int64) (x8 : Int64) (I : Nat → Nat → Int32) (J : Nat → Nat → Int64) (T : Option Nat) (P : Int32 → (Nat → Nat → Int32) → (Nat → Nat → Int64) → Option Nat → Prop) : Prop := ∀ V : Int64 → Int64 → Int64 → (Nat → Nat → Int32) → (Nat → Nat → Int64) → Option Nat → Prop, (∀ (x4 : Int64) (x6 : Int64) (x8 : Int64) (I : Nat → Nat → Int32) (J : Nat → Nat → Int64) (T : Option Nat), wb_X12_interest_58 x4 x6 x8 I J T V P → V x4 x6 x8 I J T) → V x4 x6 x8 I J T
set_option maxRecDepth 20000 in
theorem tl_X12_interest_58 {d : Nat} {x4 : Int64} {x6 : Int64} {x8 : Int64} {I : Nat → Nat → Int32} {J : Nat → Nat → Int64} {T : Option Nat} {P : Int32 → (Nat → Nat → Int32) → (Nat → Nat → Int64) → Option Nat → Prop} {Q : ix_Q} (h : wl_X12_interest_58 x4 x6 x8 I J T P) (hQ : ∀ v I J T, P v I J T → Q (some (.inl v)) (ix_mem 276 I J T)) : ix_W (ix_C (d + 1)) (12, ix_lk ix_l337, (some .int), 0, 0, Nat.blt 0 0, none) Q (58, [some (.inr (.inr (.inl (some (204))))), none, none, none, some (.inr (.inl (x4))), none, some (.inr (.inl (x6))), none, some (.inr (.inl (x8))), none, none, none], [], 0, 0, ix_mem 276 I J T) := by
  refine h (fun x4 x6 x8 I J T => ix_W (ix_C (d + 1)) (12, ix_lk ix_l337, (some .int), 0, 0, Nat.blt 0 0, none) Q (58, [some (.inr (.inr (.inl (some (204))))), none, none, none, some (.inr (.inl (x4))), none, some (.inr (.inl (x6))), none, some (.inr (.inl (x8))), none, none, none], [], 0, 0, ix_mem 276 I J T)) ?_
  intro x4 x6 x8 I J T hb
  unfold wb_X12_interest_58 at hb
  refine ix_go 4 (x' := (if lg_cmp (x8) ((0 : Int64)) = 0 then 83 else 65, [some (.inr (.inr (.inl (some (204))))), none, none, none, some (.inr (.inl (x4))), none, some (.inr (.inl (x6))), none, some (.inr (.inl (x8))), none, none, none], [], 0, 0, ix_mem 276 I J T)) rfl trivial ?_
  refine ix_br (fun c16 => ?_) (fun c16 => ?_)
  · have h17 := hb.1 c16
    obtain ⟨p18, h19⟩ := h17
    refine ix_go 7 (x' := (96, [some (.inr (.inr (.inl (some (204))))), none, none, none, some (.inr (.inl (x4))), none, some (.inr (.inl (x6))), none, some (.inr (.inl (x8))), none, none, none], [.inr (.inl ((365000 : Int64))), .inr (.inr (.inl (some (204))))], 0, 0, ix_mem 276 I (ix_u2 J 204 1 ((x4) / (x6))) T)) rfl ⟨p18, rfl, rfl⟩ ?_
    obtain ⟨p20, h21⟩ := h19
    refine ix_go 7 (x' := (107, [some (.inr (.inr (.inl (some (204))))), none, none, none, some (.inr (.inl (x4))), none, some (.inr (.inl (x6))), none, some (.inr (.inl (x8))), none, none, none], [.inl (lg_cmp (x4) ((0 : Int64))), .inr (.inr (.inl (some (204))))], 0, 0, ix_mem 276 I (ix_u2 (ix_u2 J 204 1 ((x4) / (x6))) 204 2 (((365000 : Int64)) / (x6))) T)) rfl ⟨p20, rfl, rfl⟩ ?_
    refine ix_go 1 (x' := (if lg_cmp (x4) ((0 : Int64)) ≤ 0 then 114 else 110, [some (.inr (.inr (.inl (some (204))))), none, none, none, some (.inr (.inl (x4))), none, some (.inr (.inl (x6))), none, some (.inr (.inl (x8))), none, none, none], [.inr (.inr (.inl (some (204))))], 0, 0, ix_mem 276 I (ix_u2 (ix_u2 J 204 1 ((x4) / (x6))) 204 2 (((365000 : Int64)) / (x6))) T)) rfl trivial ?_
    refine ix_br (fun c22 => ?_) (fun c22 => ?_)
    · have h23 := h21.1 c22
      refine ix_go 1 (x' := (115, [some (.inr (.inr (.inl (some (204))))), none, none, none, some (.inr (.inl (x4))), none, some (.inr (.inl (x6))), none, some (.inr (.inl (x8))), none, none, none], [.inl ((0 : Int32)), .inr (.inr (.inl (some (204))))], 0, 0, ix_mem 276 I (ix_u2 (ix_u2 J 204 1 ((x4) / (x6))) 204 2 (((365000 : Int64)) / (x6))) T)) rfl trivial ?_
      refine ix_sp rfl ⟨rfl, ⟨ix_lt rfl, ix_eq rfl, ix_lt rfl⟩, ix_le rfl, Nat.le_refl _, Nat.le_refl _, tp_X12_gives h23 (fun v24 I24 J24 T24 h24 => ?_)⟩
      change ix_W _ _ _ (118, [some (.inr (.inr (.inl (some (204))))), none, none, none, some (.inr (.inl (x4))), none, some (.inr (.inl (x6))), none, some (.inr (.inl (x8))), none, none, none], [.inl (v24)], 0, 0, ix_mem 276 I24 J24 T24)
      exact ix_sp rfl ⟨Nat.le_refl _, Nat.le_refl _, trivial, hQ _ _ _ _ h24⟩
    · have h23 := h21.2 c22
      refine ix_go 2 (x' := (115, [some (.inr (.inr (.inl (some (204))))), none, none, none, some (.inr (.inl (x4))), none, some (.inr (.inl (x6))), none, some (.inr (.inl (x8))), none, none, none], [.inl ((1 : Int32)), .inr (.inr (.inl (some (204))))], 0, 0, ix_mem 276 I (ix_u2 (ix_u2 J 204 1 ((x4) / (x6))) 204 2 (((365000 : Int64)) / (x6))) T)) rfl trivial ?_
      refine ix_sp rfl ⟨rfl, ⟨ix_lt rfl, ix_eq rfl, ix_lt rfl⟩, ix_le rfl, Nat.le_refl _, Nat.le_refl _, tp_X12_gives h23 (fun v25 I25 J25 T25 h25 => ?_)⟩
      change ix_W _ _ _ (118, [some (.inr (.inr (.inl (some (204))))), none, none, none, some (.inr (.inl (x4))), none, some (.inr (.inl (x6))), none, some (.inr (.inl (x8))), none, none, none], [.inl (v25)], 0, 0, ix_mem 276 I25 J25 T25)
      exact ix_sp rfl ⟨Nat.le_refl _, Nat.le_refl _, trivial, hQ _ _ _ _ h25⟩
  · have h17 := hb.2 c16
    obtain ⟨p26, h27⟩ := h17
    refine ix_go 7 (x' := (78, [some (.inr (.inr (.inl (some (204))))), none, none, none, some (.inr (.inl (x4))), none, some (.inr (.inl (x8))), none, some (.inr (.inl (x8))), none, some (.inr (.inl ((x6) - (x6) / (x8) * (x8)))), none], [.inr (.inl ((x6) - (x6) / (x8) * (x8)))], 0, 0, ix_mem 276 I J T)) rfl p26 ?_
    refine ix_go 2 (x' := (58, [some (.inr (.inr (.inl (some (204))))), none, none, none, some (.inr (.inl (x4))), none, some (.inr (.inl (x8))), none, some (.inr (.inl ((x6) - (x6) / (x8) * (x8)))), none, some (.inr (.inl ((x6) - (x6) / (x8) * (x8)))), none], [], 0, 0, ix_mem 276 I J T)) rfl trivial ?_
    refine ix_subW ([some (.inr (.inr (.inl (some (204))))), none, none, none, some (.inr (.inl (x4))), none, some (.inr (.inl (x8))), none, some (.inr (.inl ((x6) - (x6) / (x8) * (x8)))), none, none, none]) (ix_subS (ix_subS (ix_subS (ix_subS (ix_subS (ix_subS (ix_subS (ix_subS (ix_subS (ix_subS (ix_subN (ix_subS (ix_sub0))))))))))))) ?_
    exact h27
def wp_X12_interest (a0 : Int32) (a1 : Int32) (a2 : Int32) (I : Nat → Nat → Int32) (J : Nat → Nat → Int64) (T : Option Nat) (P : Int32 → (Nat → Nat → Int32) → (Nat → Nat → Int64) → Option Nat → Prop) : Prop := ((a0 < 0 → wp_X12_refuse ((1 : Int32)) I J T (fun v3 I3 J3 T3 => P (v3) I3 J3 T3)) ∧ (¬ (a0 < 0) → ((a0 ≤ (1000000000 : Int32) → ((a1 < 0 → wp_X12_refuse ((1 : Int32)) I J T (fun v8 I8 J8 T8 => P (v8) I8 J8 T8)) ∧ (¬ (a1 < 0) → ((a1 ≤ (1000 : Int32) → ((a2 < 0 → wp_X12_refuse ((1 : Int32)) I J T (fun v13 I13 J13 T13 => P (v13) I13 J13 T13)) ∧ (¬ (a2 < 0) → ((a2 ≤ (10000 : Int32) → wl_X12_interest_58 ((((a0).toInt64) * ((a1).toInt64)) * ((a2).toInt64)) ((((a0).toInt64) * ((a1).toInt64)) * ((a2).toInt64)) ((365000 : Int64)) I J T P) ∧ (¬ (a2 ≤ (10000 : Int32)) → wp_X12_refuse ((1 : Int32)) I J T (fun v28 I28 J28 T28 => P (v28) I28 J28 T28)))))) ∧ (¬ (a1 ≤ (1000 : Int32)) → wp_X12_refuse ((1 : Int32)) I J T (fun v29 I29 J29 T29 => P (v29) I29 J29 T29)))))) ∧ (¬ (a0 ≤ (1000000000 : Int32)) → wp_X12_refuse ((1 : Int32)) I J T (fun v30 I30 J30 T30 => P (v30) I30 J30 T30)))))
set_option maxRecDepth 20000 in
theorem tp_X12_interest {d : Nat} {a0 : Int32} {a1 : Int32} {a2 : Int32} {I : Nat → Nat → Int32} {J : Nat → Nat → Int64} {T : Option Nat} {P : Int32 → (Nat → Nat → Int32) → (Nat → Nat → Int64) → Option Nat → Prop} {Q : ix_Q} (h : wp_X12_interest a0 a1 a2 I J T P) (hQ : ∀ v I J T, P v I J T → Q (some (.inl v)) (ix_mem 276 I J T)) : ix_C (d + 2) 337 [.inr (.inr (.inl (some (204)))), .inl (a0), .inl (a1), .inl (a2)] (ix_mem 276 I J T) Q := by
  unfold wp_X12_interest at h
  refine ix_enter (ls := [some (.inr (.inr (.inl (some (204))))), some (.inl (a0)), some (.inl (a1)), some (.inl (a2)), none, none, none, none, none, none, none, none]) rfl rfl rfl (Nat.le_of_ble_eq_true rfl) ?_
  refine ix_go 2 (x' := (if a0 < 0 then 33 else 4, [some (.inr (.inr (.inl (some (204))))), some (.inl (a0)), some (.inl (a1)), some (.inl (a2)), none, none, none, none, none, none, none, none], [], 0, 0, ix_mem 276 I J T)) rfl trivial ?_
  refine ix_br (fun c1 => ?_) (fun c1 => ?_)
  · have h2 := h.1 c1
    refine ix_go 2 (x' := (35, [some (.inr (.inr (.inl (some (204))))), some (.inl (a0)), some (.inl (a1)), some (.inl (a2)), none, none, none, none, none, none, none, none], [.inl ((1 : Int32)), .inr (.inr (.inl (some (204))))], 0, 0, ix_mem 276 I J T)) rfl trivial ?_
    refine ix_sp rfl ⟨rfl, ⟨ix_lt rfl, ix_eq rfl, ix_lt rfl⟩, ix_le rfl, Nat.le_refl _, Nat.le_refl _, tp_X12_refuse h2 (fun v3 I3 J3 T3 h3 => ?_)⟩
    change ix_W _ _ _ (38, [some (.inr (.inr (.inl (some (204))))), some (.inl (a0)), some (.inl (a1)), some (.inl (a2)), none, none, none, none, none, none, none, none], [.inl (v3)], 0, 0, ix_mem 276 I3 J3 T3)
    exact ix_sp rfl ⟨Nat.le_refl _, Nat.le_refl _, trivial, hQ _ _ _ _ h3⟩
  · have h2 := h.2 c1
    refine ix_go 3 (x' := (if a0 ≤ (1000000000 : Int32) then 11 else 33, [some (.inr (.inr (.inl (some (204))))), some (.inl (a0)), some (.inl (a1)), some (.inl (a2)), none, none, none, none, none, none, none, none], [], 0, 0, ix_mem 276 I J T)) rfl trivial ?_
    refine ix_br (fun c4 => ?_) (fun c4 => ?_)
    · have h5 := h2.1 c4
      refine ix_go 2 (x' := (if a1 < 0 then 33 else 15, [some (.inr (.inr (.inl (some (204))))), some (.inl (a0)), some (.inl (a1)), some (.inl (a2)), none, none, none, none, none, none, none, none], [], 0, 0, ix_mem 276 I J T)) rfl trivial ?_
      refine ix_br (fun c6 => ?_) (fun c6 => ?_)
      · have h7 := h5.1 c6
        refine ix_go 2 (x' := (35, [some (.inr (.inr (.inl (some (204))))), some (.inl (a0)), some (.inl (a1)), some (.inl (a2)), none, none, none, none, none, none, none, none], [.inl ((1 : Int32)), .inr (.inr (.inl (some (204))))], 0, 0, ix_mem 276 I J T)) rfl trivial ?_
        refine ix_sp rfl ⟨rfl, ⟨ix_lt rfl, ix_eq rfl, ix_lt rfl⟩, ix_le rfl, Nat.le_refl _, Nat.le_refl _, tp_X12_refuse h7 (fun v8 I8 J8 T8 h8 => ?_)⟩
        change ix_W _ _ _ (38, [some (.inr (.inr (.inl (some (204))))), some (.inl (a0)), some (.inl (a1)), some (.inl (a2)), none, none, none, none, none, none, none, none], [.inl (v8)], 0, 0, ix_mem 276 I8 J8 T8)
        exact ix_sp rfl ⟨Nat.le_refl _, Nat.le_refl _, trivial, hQ _ _ _ _ h8⟩
      · have h7 := h5.2 c6
        refine ix_go 3 (x' := (if a1 ≤ (1000 : Int32) then 22 else 33, [some (.inr (.inr (.inl (some (204))))), some (.inl (a0)), some (.inl (a1)), some (.inl (a2)), none, none, none, none, none, none, none, none], [], 0, 0, ix_mem 276 I J T)) rfl trivial ?_
        refine ix_br (fun c9 => ?_) (fun c9 => ?_)
        · have h10 := h7.1 c9
          refine ix_go 2 (x' := (if a2 < 0 then 33 else 26, [some (.inr (.inr (.inl (some (204))))), some (.inl (a0)), some (.inl (a1)), some (.inl (a2)), none, none, none, none, none, none, none, none], [], 0, 0, ix_mem 276 I J T)) rfl trivial ?_
          refine ix_br (fun c11 => ?_) (fun c11 => ?_)
          · have h12 := h10.1 c11
            refine ix_go 2 (x' := (35, [some (.inr (.inr (.inl (some (204))))), some (.inl (a0)), some (.inl (a1)), some (.inl (a2)), none, none, none, none, none, none, none, none], [.inl ((1 : Int32)), .inr (.inr (.inl (some (204))))], 0, 0, ix_mem 276 I J T)) rfl trivial ?_
            refine ix_sp rfl ⟨rfl, ⟨ix_lt rfl, ix_eq rfl, ix_lt rfl⟩, ix_le rfl, Nat.le_refl _, Nat.le_refl _, tp_X12_refuse h12 (fun v13 I13 J13 T13 h13 => ?_)⟩
            change ix_W _ _ _ (38, [some (.inr (.inr (.inl (some (204))))), some (.inl (a0)), some (.inl (a1)), some (.inl (a2)), none, none, none, none, none, none, none, none], [.inl (v13)], 0, 0, ix_mem 276 I13 J13 T13)
            exact ix_sp rfl ⟨Nat.le_refl _, Nat.le_refl _, trivial, hQ _ _ _ _ h13⟩
          · have h12 := h10.2 c11
            refine ix_go 3 (x' := (if a2 ≤ (10000 : Int32) then 39 else 33, [some (.inr (.inr (.inl (some (204))))), some (.inl (a0)), some (.inl (a1)), some (.inl (a2)), none, none, none, none, none, none, none, none], [], 0, 0, ix_mem 276 I J T)) rfl trivial ?_
            refine ix_br (fun c14 => ?_) (fun c14 => ?_)
            · have h15 := h12.1 c14
              refine ix_go 7 (x' := (46, [some (.inr (.inr (.inl (some (204))))), some (.inl (a0)), some (.inl (a1)), some (.inl (a2)), none, none, none, none, none, none, none, none], [.inr (.inl ((a2).toInt64)), .inr (.inl (((a0).toInt64) * ((a1).toInt64)))], 0, 0, ix_mem 276 I J T)) rfl trivial ?_
              refine ix_go 6 (x' := (58, [some (.inr (.inr (.inl (some (204))))), some (.inl (a0)), some (.inl (a1)), some (.inl (a2)), some (.inr (.inl ((((a0).toInt64) * ((a1).toInt64)) * ((a2).toInt64)))), none, some (.inr (.inl ((((a0).toInt64) * ((a1).toInt64)) * ((a2).toInt64)))), none, some (.inr (.inl ((365000 : Int64)))), none, none, none], [], 0, 0, ix_mem 276 I J T)) rfl trivial ?_
              refine ix_subW ([some (.inr (.inr (.inl (some (204))))), none, none, none, some (.inr (.inl ((((a0).toInt64) * ((a1).toInt64)) * ((a2).toInt64)))), none, some (.inr (.inl ((((a0).toInt64) * ((a1).toInt64)) * ((a2).toInt64)))), none, some (.inr (.inl ((365000 : Int64)))), none, none, none]) (ix_subS (ix_subN (ix_subN (ix_subN (ix_subS (ix_subS (ix_subS (ix_subS (ix_subS (ix_subS (ix_subS (ix_subS (ix_sub0))))))))))))) ?_
              exact tl_X12_interest_58 h15 hQ
            · have h15 := h12.2 c14
              refine ix_go 2 (x' := (35, [some (.inr (.inr (.inl (some (204))))), some (.inl (a0)), some (.inl (a1)), some (.inl (a2)), none, none, none, none, none, none, none, none], [.inl ((1 : Int32)), .inr (.inr (.inl (some (204))))], 0, 0, ix_mem 276 I J T)) rfl trivial ?_
              refine ix_sp rfl ⟨rfl, ⟨ix_lt rfl, ix_eq rfl, ix_lt rfl⟩, ix_le rfl, Nat.le_refl _, Nat.le_refl _, tp_X12_refuse h15 (fun v28 I28 J28 T28 h28 => ?_)⟩
              change ix_W _ _ _ (38, [some (.inr (.inr (.inl (some (204))))), some (.inl (a0)), some (.inl (a1)), some (.inl (a2)), none, none, none, none, none, none, none, none], [.inl (v28)], 0, 0, ix_mem 276 I28 J28 T28)
              exact ix_sp rfl ⟨Nat.le_refl _, Nat.le_refl _, trivial, hQ _ _ _ _ h28⟩
        · have h10 := h7.2 c9
          refine ix_go 2 (x' := (35, [some (.inr (.inr (.inl (some (204))))), some (.inl (a0)), some (.inl (a1)), some (.inl (a2)), none, none, none, none, none, none, none, none], [.inl ((1 : Int32)), .inr (.inr (.inl (some (204))))], 0, 0, ix_mem 276 I J T)) rfl trivial ?_
          refine ix_sp rfl ⟨rfl, ⟨ix_lt rfl, ix_eq rfl, ix_lt rfl⟩, ix_le rfl, Nat.le_refl _, Nat.le_refl _, tp_X12_refuse h10 (fun v29 I29 J29 T29 h29 => ?_)⟩
          change ix_W _ _ _ (38, [some (.inr (.inr (.inl (some (204))))), some (.inl (a0)), some (.inl (a1)), some (.inl (a2)), none, none, none, none, none, none, none, none], [.inl (v29)], 0, 0, ix_mem 276 I29 J29 T29)
          exact ix_sp rfl ⟨Nat.le_refl _, Nat.le_refl _, trivial, hQ _ _ _ _ h29⟩
    · have h5 := h2.2 c4
      refine ix_go 2 (x' := (35, [some (.inr (.inr (.inl (some (204))))), some (.inl (a0)), some (.inl (a1)), some (.inl (a2)), none, none, none, none, none, none, none, none], [.inl ((1 : Int32)), .inr (.inr (.inl (some (204))))], 0, 0, ix_mem 276 I J T)) rfl trivial ?_
      refine ix_sp rfl ⟨rfl, ⟨ix_lt rfl, ix_eq rfl, ix_lt rfl⟩, ix_le rfl, Nat.le_refl _, Nat.le_refl _, tp_X12_refuse h5 (fun v30 I30 J30 T30 h30 => ?_)⟩
      change ix_W _ _ _ (38, [some (.inr (.inr (.inl (some (204))))), some (.inl (a0)), some (.inl (a1)), some (.inl (a2)), none, none, none, none, none, none, none, none], [.inl (v30)], 0, 0, ix_mem 276 I30 J30 T30)
      exact ix_sp rfl ⟨Nat.le_refl _, Nat.le_refl _, trivial, hQ _ _ _ _ h30⟩
def wp_X12_weigh (a0 : Int32) (a1 : Int32) (I : Nat → Nat → Int32) (J : Nat → Nat → Int64) (T : Option Nat) (P : Int32 → (Nat → Nat → Int32) → (Nat → Nat → Int64) → Option Nat → Prop) : Prop := ((a0 < 0 → wp_X12_is ((1 : Int32)) I J T (fun v3 I3 J3 T3 => ix_01 (v3) = true ∧ P (v3) I3 J3 T3)) ∧ (¬ (a0 < 0) → ((a0 ≤ (5 : Int32) → ((a1 < 0 → wp_X12_is ((1 : Int32)) I J T (fun v8 I8 J8 T8 => ix_01 (v8) = true ∧ P (v8) I8 J8 T8)) ∧ (¬ (a1 < 0) → ((a1 ≤ (9 : Int32) → ix_inb (a0) 6 = true ∧ wp_X12_is ((0 : Int32)) (ix_u2 I 273 (a0).toNatClampNeg (a1)) J T (fun v13 I13 J13 T13 => ix_01 (v13) = true ∧ P (v13) I13 J13 T13)) ∧ (¬ (a1 ≤ (9 : Int32)) → wp_X12_is ((1 : Int32)) I J T (fun v14 I14 J14 T14 => ix_01 (v14) = true ∧ P (v14) I14 J14 T14)))))) ∧ (¬ (a0 ≤ (5 : Int32)) → wp_X12_is ((1 : Int32)) I J T (fun v15 I15 J15 T15 => ix_01 (v15) = true ∧ P (v15) I15 J15 T15)))))
set_option maxRecDepth 20000 in
theorem tp_X12_weigh {d : Nat} {a0 : Int32} {a1 : Int32} {I : Nat → Nat → Int32} {J : Nat → Nat → Int64} {T : Option Nat} {P : Int32 → (Nat → Nat → Int32) → (Nat → Nat → Int64) → Option Nat → Prop} {Q : ix_Q} (h : wp_X12_weigh a0 a1 I J T P) (hQ : ∀ v I J T, P v I J T → Q (some (.inl v)) (ix_mem 276 I J T)) : ix_C (d + 2) 338 [.inr (.inr (.inl (some (204)))), .inl (a0), .inl (a1)] (ix_mem 276 I J T) Q := by
  unfold wp_X12_weigh at h
  refine ix_enter (ls := [some (.inr (.inr (.inl (some (204))))), some (.inl (a0)), some (.inl (a1))]) rfl rfl rfl (Nat.le_of_ble_eq_true rfl) ?_
  refine ix_go 2 (x' := (if a0 < 0 then 19 else 4, [some (.inr (.inr (.inl (some (204))))), some (.inl (a0)), some (.inl (a1))], [], 0, 0, ix_mem 276 I J T)) rfl trivial ?_
  refine ix_br (fun c1 => ?_) (fun c1 => ?_)
  · have h2 := h.1 c1
    refine ix_go 2 (x' := (21, [some (.inr (.inr (.inl (some (204))))), some (.inl (a0)), some (.inl (a1))], [.inl ((1 : Int32)), .inr (.inr (.inl (some (204))))], 0, 0, ix_mem 276 I J T)) rfl trivial ?_
    refine ix_sp rfl ⟨rfl, ⟨ix_lt rfl, ix_eq rfl, ix_lt rfl⟩, ix_le rfl, Nat.le_refl _, Nat.le_refl _, tp_X12_is h2 (fun v3 I3 J3 T3 h3 => ?_)⟩
    change ix_W _ _ _ (24, [some (.inr (.inr (.inl (some (204))))), some (.inl (a0)), some (.inl (a1))], [.inl (v3)], 0, 0, ix_mem 276 I3 J3 T3)
    exact ix_sp rfl ⟨Nat.le_refl _, Nat.le_refl _, ix_01_ok h3.1, hQ _ _ _ _ h3.2⟩
  · have h2 := h.2 c1
    refine ix_go 3 (x' := (if a0 ≤ (5 : Int32) then 9 else 19, [some (.inr (.inr (.inl (some (204))))), some (.inl (a0)), some (.inl (a1))], [], 0, 0, ix_mem 276 I J T)) rfl trivial ?_
    refine ix_br (fun c4 => ?_) (fun c4 => ?_)
    · have h5 := h2.1 c4
      refine ix_go 2 (x' := (if a1 < 0 then 19 else 13, [some (.inr (.inr (.inl (some (204))))), some (.inl (a0)), some (.inl (a1))], [], 0, 0, ix_mem 276 I J T)) rfl trivial ?_
      refine ix_br (fun c6 => ?_) (fun c6 => ?_)
      · have h7 := h5.1 c6
        refine ix_go 2 (x' := (21, [some (.inr (.inr (.inl (some (204))))), some (.inl (a0)), some (.inl (a1))], [.inl ((1 : Int32)), .inr (.inr (.inl (some (204))))], 0, 0, ix_mem 276 I J T)) rfl trivial ?_
        refine ix_sp rfl ⟨rfl, ⟨ix_lt rfl, ix_eq rfl, ix_lt rfl⟩, ix_le rfl, Nat.le_refl _, Nat.le_refl _, tp_X12_is h7 (fun v8 I8 J8 T8 h8 => ?_)⟩
        change ix_W _ _ _ (24, [some (.inr (.inr (.inl (some (204))))), some (.inl (a0)), some (.inl (a1))], [.inl (v8)], 0, 0, ix_mem 276 I8 J8 T8)
        exact ix_sp rfl ⟨Nat.le_refl _, Nat.le_refl _, ix_01_ok h8.1, hQ _ _ _ _ h8.2⟩
      · have h7 := h5.2 c6
        refine ix_go 3 (x' := (if a1 ≤ (9 : Int32) then 25 else 19, [some (.inr (.inr (.inl (some (204))))), some (.inl (a0)), some (.inl (a1))], [], 0, 0, ix_mem 276 I J T)) rfl trivial ?_
        refine ix_br (fun c9 => ?_) (fun c9 => ?_)
        · have h10 := h7.1 c9
          obtain ⟨p11, h12⟩ := h10
          refine ix_go 7 (x' := (34, [some (.inr (.inr (.inl (some (204))))), some (.inl (a0)), some (.inl (a1))], [.inl ((0 : Int32)), .inr (.inr (.inl (some (204))))], 0, 0, ix_mem 276 (ix_u2 I 273 (a0).toNatClampNeg (a1)) J T)) rfl ⟨rfl, rfl, rfl, rfl, p11⟩ ?_
          refine ix_sp rfl ⟨rfl, ⟨ix_lt rfl, ix_eq rfl, ix_lt rfl⟩, ix_le rfl, Nat.le_refl _, Nat.le_refl _, tp_X12_is h12 (fun v13 I13 J13 T13 h13 => ?_)⟩
          change ix_W _ _ _ (37, [some (.inr (.inr (.inl (some (204))))), some (.inl (a0)), some (.inl (a1))], [.inl (v13)], 0, 0, ix_mem 276 I13 J13 T13)
          exact ix_sp rfl ⟨Nat.le_refl _, Nat.le_refl _, ix_01_ok h13.1, hQ _ _ _ _ h13.2⟩
        · have h10 := h7.2 c9
          refine ix_go 2 (x' := (21, [some (.inr (.inr (.inl (some (204))))), some (.inl (a0)), some (.inl (a1))], [.inl ((1 : Int32)), .inr (.inr (.inl (some (204))))], 0, 0, ix_mem 276 I J T)) rfl trivial ?_
          refine ix_sp rfl ⟨rfl, ⟨ix_lt rfl, ix_eq rfl, ix_lt rfl⟩, ix_le rfl, Nat.le_refl _, Nat.le_refl _, tp_X12_is h10 (fun v14 I14 J14 T14 h14 => ?_)⟩
          change ix_W _ _ _ (24, [some (.inr (.inr (.inl (some (204))))), some (.inl (a0)), some (.inl (a1))], [.inl (v14)], 0, 0, ix_mem 276 I14 J14 T14)
          exact ix_sp rfl ⟨Nat.le_refl _, Nat.le_refl _, ix_01_ok h14.1, hQ _ _ _ _ h14.2⟩
    · have h5 := h2.2 c4
      refine ix_go 2 (x' := (21, [some (.inr (.inr (.inl (some (204))))), some (.inl (a0)), some (.inl (a1))], [.inl ((1 : Int32)), .inr (.inr (.inl (some (204))))], 0, 0, ix_mem 276 I J T)) rfl trivial ?_
      refine ix_sp rfl ⟨rfl, ⟨ix_lt rfl, ix_eq rfl, ix_lt rfl⟩, ix_le rfl, Nat.le_refl _, Nat.le_refl _, tp_X12_is h5 (fun v15 I15 J15 T15 h15 => ?_)⟩
      change ix_W _ _ _ (24, [some (.inr (.inr (.inl (some (204))))), some (.inl (a0)), some (.inl (a1))], [.inl (v15)], 0, 0, ix_mem 276 I15 J15 T15)
      exact ix_sp rfl ⟨Nat.le_refl _, Nat.le_refl _, ix_01_ok h15.1, hQ _ _ _ _ h15.2⟩
def wp_X12_rule (a0 : Int32) (a1 : Int32) (I : Nat → Nat → Int32) (J : Nat → Nat → Int64) (T : Option Nat) (P : Int32 → (Nat → Nat → Int32) → (Nat → Nat → Int64) → Option Nat → Prop) : Prop := ((a0 < 0 → wp_X12_refuse ((1 : Int32)) I J T (fun v3 I3 J3 T3 => P (v3) I3 J3 T3)) ∧ (¬ (a0 < 0) → ((a0 ≤ (999999 : Int32) → ((a1 < 0 → wp_X12_refuse ((1 : Int32)) I J T (fun v8 I8 J8 T8 => P (v8) I8 J8 T8)) ∧ (¬ (a1 < 0) → ((a1 ≤ (9 : Int32) → ((I 204 107 = (20 : Int32) → wp_X12_refuse ((4 : Int32)) I J T (fun v13 I13 J13 T13 => P (v13) I13 J13 T13)) ∧ (¬ (I 204 107 = (20 : Int32)) → ix_inb (I 204 107) 20 = true ∧ ix_inb (I 204 107) 20 = true ∧ wp_X12_gives ((((I 204 107) + ((1 : Int32)))) - ((1 : Int32))) (ix_u2 (ix_u2 (ix_u2 I 274 (I 204 107).toNatClampNeg (a0)) 275 (I 204 107).toNatClampNeg (a1)) 204 107 ((I 204 107) + ((1 : Int32)))) J T (fun v18 I18 J18 T18 => P (v18) I18 J18 T18)))) ∧ (¬ (a1 ≤ (9 : Int32)) → wp_X12_refuse ((1 : Int32)) I J T (fun v19 I19 J19 T19 => P (v19) I19 J19 T19)))))) ∧ (¬ (a0 ≤ (999999 : Int32)) → wp_X12_refuse ((1 : Int32)) I J T (fun v20 I20 J20 T20 => P (v20) I20 J20 T20)))))
set_option maxRecDepth 20000 in
theorem tp_X12_rule {d : Nat} {a0 : Int32} {a1 : Int32} {I : Nat → Nat → Int32} {J : Nat → Nat → Int64} {T : Option Nat} {P : Int32 → (Nat → Nat → Int32) → (Nat → Nat → Int64) → Option Nat → Prop} {Q : ix_Q} (h : wp_X12_rule a0 a1 I J T P) (hQ : ∀ v I J T, P v I J T → Q (some (.inl v)) (ix_mem 276 I J T)) : ix_C (d + 2) 339 [.inr (.inr (.inl (some (204)))), .inl (a0), .inl (a1)] (ix_mem 276 I J T) Q := by
  unfold wp_X12_rule at h
  refine ix_enter (ls := [some (.inr (.inr (.inl (some (204))))), some (.inl (a0)), some (.inl (a1))]) rfl rfl rfl (Nat.le_of_ble_eq_true rfl) ?_
  refine ix_go 2 (x' := (if a0 < 0 then 21 else 4, [some (.inr (.inr (.inl (some (204))))), some (.inl (a0)), some (.inl (a1))], [], 0, 0, ix_mem 276 I J T)) rfl trivial ?_
  refine ix_br (fun c1 => ?_) (fun c1 => ?_)
  · have h2 := h.1 c1
    refine ix_go 2 (x' := (23, [some (.inr (.inr (.inl (some (204))))), some (.inl (a0)), some (.inl (a1))], [.inl ((1 : Int32)), .inr (.inr (.inl (some (204))))], 0, 0, ix_mem 276 I J T)) rfl trivial ?_
    refine ix_sp rfl ⟨rfl, ⟨ix_lt rfl, ix_eq rfl, ix_lt rfl⟩, ix_le rfl, Nat.le_refl _, Nat.le_refl _, tp_X12_refuse h2 (fun v3 I3 J3 T3 h3 => ?_)⟩
    change ix_W _ _ _ (26, [some (.inr (.inr (.inl (some (204))))), some (.inl (a0)), some (.inl (a1))], [.inl (v3)], 0, 0, ix_mem 276 I3 J3 T3)
    exact ix_sp rfl ⟨Nat.le_refl _, Nat.le_refl _, trivial, hQ _ _ _ _ h3⟩
  · have h2 := h.2 c1
    refine ix_go 3 (x' := (if a0 ≤ (999999 : Int32) then 11 else 21, [some (.inr (.inr (.inl (some (204))))), some (.inl (a0)), some (.inl (a1))], [], 0, 0, ix_mem 276 I J T)) rfl trivial ?_
    refine ix_br (fun c4 => ?_) (fun c4 => ?_)
    · have h5 := h2.1 c4
      refine ix_go 2 (x' := (if a1 < 0 then 21 else 15, [some (.inr (.inr (.inl (some (204))))), some (.inl (a0)), some (.inl (a1))], [], 0, 0, ix_mem 276 I J T)) rfl trivial ?_
      refine ix_br (fun c6 => ?_) (fun c6 => ?_)
      · have h7 := h5.1 c6
        refine ix_go 2 (x' := (23, [some (.inr (.inr (.inl (some (204))))), some (.inl (a0)), some (.inl (a1))], [.inl ((1 : Int32)), .inr (.inr (.inl (some (204))))], 0, 0, ix_mem 276 I J T)) rfl trivial ?_
        refine ix_sp rfl ⟨rfl, ⟨ix_lt rfl, ix_eq rfl, ix_lt rfl⟩, ix_le rfl, Nat.le_refl _, Nat.le_refl _, tp_X12_refuse h7 (fun v8 I8 J8 T8 h8 => ?_)⟩
        change ix_W _ _ _ (26, [some (.inr (.inr (.inl (some (204))))), some (.inl (a0)), some (.inl (a1))], [.inl (v8)], 0, 0, ix_mem 276 I8 J8 T8)
        exact ix_sp rfl ⟨Nat.le_refl _, Nat.le_refl _, trivial, hQ _ _ _ _ h8⟩
      · have h7 := h5.2 c6
        refine ix_go 3 (x' := (if a1 ≤ (9 : Int32) then 27 else 21, [some (.inr (.inr (.inl (some (204))))), some (.inl (a0)), some (.inl (a1))], [], 0, 0, ix_mem 276 I J T)) rfl trivial ?_
        refine ix_br (fun c9 => ?_) (fun c9 => ?_)
        · have h10 := h7.1 c9
          refine ix_go 4 (x' := (if I 204 107 = (20 : Int32) then 36 else 42, [some (.inr (.inr (.inl (some (204))))), some (.inl (a0)), some (.inl (a1))], [], 0, 0, ix_mem 276 I J T)) rfl ⟨rfl, rfl⟩ ?_
          refine ix_br (fun c11 => ?_) (fun c11 => ?_)
          · have h12 := h10.1 c11
            refine ix_go 2 (x' := (38, [some (.inr (.inr (.inl (some (204))))), some (.inl (a0)), some (.inl (a1))], [.inl ((4 : Int32)), .inr (.inr (.inl (some (204))))], 0, 0, ix_mem 276 I J T)) rfl trivial ?_
            refine ix_sp rfl ⟨rfl, ⟨ix_lt rfl, ix_eq rfl, ix_lt rfl⟩, ix_le rfl, Nat.le_refl _, Nat.le_refl _, tp_X12_refuse h12 (fun v13 I13 J13 T13 h13 => ?_)⟩
            change ix_W _ _ _ (41, [some (.inr (.inr (.inl (some (204))))), some (.inl (a0)), some (.inl (a1))], [.inl (v13)], 0, 0, ix_mem 276 I13 J13 T13)
            exact ix_sp rfl ⟨Nat.le_refl _, Nat.le_refl _, trivial, hQ _ _ _ _ h13⟩
          · have h12 := h10.2 c11
            obtain ⟨p14, h15⟩ := h12
            refine ix_go 7 (x' := (53, [some (.inr (.inr (.inl (some (204))))), some (.inl (a0)), some (.inl (a1))], [.inr (.inr (.inl (some (204))))], 0, 0, ix_mem 276 (ix_u2 I 274 (I 204 107).toNatClampNeg (a0)) J T)) rfl ⟨rfl, rfl, rfl, rfl, rfl, rfl, p14⟩ ?_
            obtain ⟨p16, h17⟩ := h15
            refine ix_go 7 (x' := (64, [some (.inr (.inr (.inl (some (204))))), some (.inl (a0)), some (.inl (a1))], [.inr (.inr (.inl (some (204)))), .inr (.inr (.inl (some (204))))], 0, 0, ix_mem 276 (ix_u2 (ix_u2 I 274 (I 204 107).toNatClampNeg (a0)) 275 (I 204 107).toNatClampNeg (a1)) J T)) rfl ⟨rfl, rfl, rfl, rfl, rfl, rfl, p16⟩ ?_
            refine ix_go 7 (x' := (77, [some (.inr (.inr (.inl (some (204))))), some (.inl (a0)), some (.inl (a1))], [.inl (((I 204 107) + ((1 : Int32)))), .inr (.inr (.inl (some (204))))], 0, 0, ix_mem 276 (ix_u2 (ix_u2 (ix_u2 I 274 (I 204 107).toNatClampNeg (a0)) 275 (I 204 107).toNatClampNeg (a1)) 204 107 ((I 204 107) + ((1 : Int32)))) J T)) rfl ⟨rfl, rfl, rfl, rfl, rfl, rfl⟩ ?_
            refine ix_go 2 (x' := (79, [some (.inr (.inr (.inl (some (204))))), some (.inl (a0)), some (.inl (a1))], [.inl ((((I 204 107) + ((1 : Int32)))) - ((1 : Int32))), .inr (.inr (.inl (some (204))))], 0, 0, ix_mem 276 (ix_u2 (ix_u2 (ix_u2 I 274 (I 204 107).toNatClampNeg (a0)) 275 (I 204 107).toNatClampNeg (a1)) 204 107 ((I 204 107) + ((1 : Int32)))) J T)) rfl trivial ?_
            refine ix_sp rfl ⟨rfl, ⟨ix_lt rfl, ix_eq rfl, ix_lt rfl⟩, ix_le rfl, Nat.le_refl _, Nat.le_refl _, tp_X12_gives h17 (fun v18 I18 J18 T18 h18 => ?_)⟩
            change ix_W _ _ _ (82, [some (.inr (.inr (.inl (some (204))))), some (.inl (a0)), some (.inl (a1))], [.inl (v18)], 0, 0, ix_mem 276 I18 J18 T18)
            exact ix_sp rfl ⟨Nat.le_refl _, Nat.le_refl _, trivial, hQ _ _ _ _ h18⟩
        · have h10 := h7.2 c9
          refine ix_go 2 (x' := (23, [some (.inr (.inr (.inl (some (204))))), some (.inl (a0)), some (.inl (a1))], [.inl ((1 : Int32)), .inr (.inr (.inl (some (204))))], 0, 0, ix_mem 276 I J T)) rfl trivial ?_
          refine ix_sp rfl ⟨rfl, ⟨ix_lt rfl, ix_eq rfl, ix_lt rfl⟩, ix_le rfl, Nat.le_refl _, Nat.le_refl _, tp_X12_refuse h10 (fun v19 I19 J19 T19 h19 => ?_)⟩
          change ix_W _ _ _ (26, [some (.inr (.inr (.inl (some (204))))), some (.inl (a0)), some (.inl (a1))], [.inl (v19)], 0, 0, ix_mem 276 I19 J19 T19)
          exact ix_sp rfl ⟨Nat.le_refl _, Nat.le_refl _, trivial, hQ _ _ _ _ h19⟩
    · have h5 := h2.2 c4
      refine ix_go 2 (x' := (23, [some (.inr (.inr (.inl (some (204))))), some (.inl (a0)), some (.inl (a1))], [.inl ((1 : Int32)), .inr (.inr (.inl (some (204))))], 0, 0, ix_mem 276 I J T)) rfl trivial ?_
      refine ix_sp rfl ⟨rfl, ⟨ix_lt rfl, ix_eq rfl, ix_lt rfl⟩, ix_le rfl, Nat.le_refl _, Nat.le_refl _, tp_X12_refuse h5 (fun v20 I20 J20 T20 h20 => ?_)⟩
      change ix_W _ _ _ (26, [some (.inr (.inr (.inl (some (204))))), some (.inl (a0)), some (.inl (a1))], [.inl (v20)], 0, 0, ix_mem 276 I20 J20 T20)
      exact ix_sp rfl ⟨Nat.le_refl _, Nat.le_refl _, trivial, hQ _ _ _ _ h20⟩
def wb_X12_judge_65_38 (x1 : Int32) (x2 : Int32) (x3 : Int32) (x4 : Int32) (x5 : Int32) (x6 : Int32) (x7 : Int32) (x8 : Int32) (I : Nat → Nat → Int32) (J : Nat → Nat → Int64) (T : Option Nat) (V65 : Int32 → Int32 → Int32 → Int32 → Int32 → Int32 → Int32 → Int32 → (Nat → Nat → Int32) → (Nat → Nat → Int64) → Option Nat → Prop) (V38 : Int32 → Int32 → Int32 → Int32 → (Nat → Nat → Int32) → (Nat → Nat → Int64) → Option Nat → Prop) (P : Int32 → (Nat → Nat → Int32) → (Nat → Nat → Int64) → Option Nat → Prop) : Prop := ((x8 < (6 : Int32) → ix_inb (x8) 6 = true ∧ wp_J9_abs_0f7a4 (((x6) - (x6) / ((10 : Int32)) * ((10 : Int32))) - ((x7) - (x7) / ((10 : Int32)) * ((10 : Int32)))) I J T (fun v17 I17 J17 T17 => V65 (x1) (x2) (x3) (x4) ((x5) + ((I 273 (x8).toNatClampNeg) * (v17))) ((x6) / ((10 : Int32))) ((x7) / ((10 : Int32))) (x8 + (1 : Int32)) I17 J17 T17)) ∧ (¬ (x8 < (6 : Int32)) → ((x3 = (-1 : Int32) → V38 (x1) (x4) (x5) (x4 + (1 : Int32)) I J T) ∧ (¬ (x3 = (-1 : Int32)) → ((x5 ≤ x3 → V38 (x1) (x4) (x5) (x4 + (1 : Int32)) I J T) ∧ (¬ (x5 ≤ x3) → V38 (x1) (x2) (x3) (x4 + (1 : Int32)) I J T))))))
def wl_X12_judge_65_38 (x1 : Int32) (x2 : Int32) (x3 : Int32) (x4 : Int32) (x5 : Int32) (x6 : Int32) (x7 : Int32) (x8 : Int32) (I : Nat → Nat → Int32) (J : Nat → Nat → Int64) (T : Option Nat) (V38 : Int32 → Int32 → Int32 → Int32 → (Nat → Nat → Int32) → (Nat → Nat → Int64) → Option Nat → Prop) (P : Int32 → (Nat → Nat → Int32) → (Nat → Nat → Int64) → Option Nat → Prop) : Prop := ∀ V : Int32 → Int32 → Int32 → Int32 → Int32 → Int32 → Int32 → Int32 → (Nat → Nat → Int32) → (Nat → Nat → Int64) → Option Nat → Prop, (∀ (x1 : Int32) (x2 : Int32) (x3 : Int32) (x4 : Int32) (x5 : Int32) (x6 : Int32) (x7 : Int32) (x8 : Int32) (I : Nat → Nat → Int32) (J : Nat → Nat → Int64) (T : Option Nat), wb_X12_judge_65_38 x1 x2 x3 x4 x5 x6 x7 x8 I J T V V38 P → V x1 x2 x3 x4 x5 x6 x7 x8 I J T) → V x1 x2 x3 x4 x5 x6 x7 x8 I J T
set_option maxRecDepth 20000 in
theorem tl_X12_judge_65_38 {d : Nat} {x1 : Int32} {x2 : Int32} {x3 : Int32} {x4 : Int32} {x5 : Int32} {x6 : Int32} {x7 : Int32} {x8 : Int32} {I : Nat → Nat → Int32} {J : Nat → Nat → Int64} {T : Option Nat} {V38 : Int32 → Int32 → Int32 → Int32 → (Nat → Nat → Int32) → (Nat → Nat → Int64) → Option Nat → Prop} {P : Int32 → (Nat → Nat → Int32) → (Nat → Nat → Int64) → Option Nat → Prop} {Q : ix_Q} (h : wl_X12_judge_65_38 x1 x2 x3 x4 x5 x6 x7 x8 I J T V38 P) (hV38 : ∀ (x1 : Int32) (x2 : Int32) (x3 : Int32) (x4 : Int32) I J T, V38 x1 x2 x3 x4 I J T → ix_W (ix_C (d + 1)) (12, ix_lk ix_l340, (some .int), 0, 0, Nat.blt 0 0, none) Q (38, [some (.inr (.inr (.inl (some (204))))), some (.inl (x1)), some (.inl (x2)), some (.inl (x3)), some (.inl (x4)), none, none, none, none], [], 0, 0, ix_mem 276 I J T)) (hQ : ∀ v I J T, P v I J T → Q (some (.inl v)) (ix_mem 276 I J T)) : ix_W (ix_C (d + 1)) (12, ix_lk ix_l340, (some .int), 0, 0, Nat.blt 0 0, none) Q (65, [some (.inr (.inr (.inl (some (204))))), some (.inl (x1)), some (.inl (x2)), some (.inl (x3)), some (.inl (x4)), some (.inl (x5)), some (.inl (x6)), some (.inl (x7)), some (.inl (x8))], [], 0, 0, ix_mem 276 I J T) := by
  refine h (fun x1 x2 x3 x4 x5 x6 x7 x8 I J T => ix_W (ix_C (d + 1)) (12, ix_lk ix_l340, (some .int), 0, 0, Nat.blt 0 0, none) Q (65, [some (.inr (.inr (.inl (some (204))))), some (.inl (x1)), some (.inl (x2)), some (.inl (x3)), some (.inl (x4)), some (.inl (x5)), some (.inl (x6)), some (.inl (x7)), some (.inl (x8))], [], 0, 0, ix_mem 276 I J T)) ?_
  intro x1 x2 x3 x4 x5 x6 x7 x8 I J T hb
  unfold wb_X12_judge_65_38 at hb
  refine ix_go 3 (x' := (if x8 < (6 : Int32) then 72 else 119, [some (.inr (.inr (.inl (some (204))))), some (.inl (x1)), some (.inl (x2)), some (.inl (x3)), some (.inl (x4)), some (.inl (x5)), some (.inl (x6)), some (.inl (x7)), some (.inl (x8))], [], 0, 0, ix_mem 276 I J T)) rfl trivial ?_
  refine ix_br (fun c13 => ?_) (fun c13 => ?_)
  · have h14 := hb.1 c13
    obtain ⟨p15, h16⟩ := h14
    refine ix_go 7 (x' := (85, [some (.inr (.inr (.inl (some (204))))), some (.inl (x1)), some (.inl (x2)), some (.inl (x3)), some (.inl (x4)), some (.inl (x5)), some (.inl (x6)), some (.inl (x7)), some (.inl (x8))], [.inl ((10 : Int32)), .inl (x6), .inl (I 273 (x8).toNatClampNeg), .inl (x5)], 0, 0, ix_mem 276 I J T)) rfl ⟨rfl, rfl, rfl, rfl, p15⟩ ?_
    refine ix_go 5 (x' := (92, [some (.inr (.inr (.inl (some (204))))), some (.inl (x1)), some (.inl (x2)), some (.inl (x3)), some (.inl (x4)), some (.inl (x5)), some (.inl (x6)), some (.inl (x7)), some (.inl (x8))], [.inl (((x6) - (x6) / ((10 : Int32)) * ((10 : Int32))) - ((x7) - (x7) / ((10 : Int32)) * ((10 : Int32)))), .inl (I 273 (x8).toNatClampNeg), .inl (x5)], 0, 0, ix_mem 276 I J T)) rfl ⟨rfl, rfl⟩ ?_
    refine ix_sp rfl ⟨rfl, trivial, ix_le rfl, Nat.le_refl _, Nat.le_refl _, tp_J9_abs_0f7a4 h16 (fun v17 I17 J17 T17 h17 => ?_)⟩
    change ix_W _ _ _ (95, [some (.inr (.inr (.inl (some (204))))), some (.inl (x1)), some (.inl (x2)), some (.inl (x3)), some (.inl (x4)), some (.inl (x5)), some (.inl (x6)), some (.inl (x7)), some (.inl (x8))], [.inl (v17), .inl (I 273 (x8).toNatClampNeg), .inl (x5)], 0, 0, ix_mem 276 I17 J17 T17)
    refine ix_go 7 (x' := (106, [some (.inr (.inr (.inl (some (204))))), some (.inl (x1)), some (.inl (x2)), some (.inl (x3)), some (.inl (x4)), some (.inl ((x5) + ((I 273 (x8).toNatClampNeg) * (v17)))), some (.inl ((x6) / ((10 : Int32)))), some (.inl (x7)), some (.inl (x8))], [], 0, 0, ix_mem 276 I17 J17 T17)) rfl rfl ?_
    refine ix_go 6 (x' := (65, [some (.inr (.inr (.inl (some (204))))), some (.inl (x1)), some (.inl (x2)), some (.inl (x3)), some (.inl (x4)), some (.inl ((x5) + ((I 273 (x8).toNatClampNeg) * (v17)))), some (.inl ((x6) / ((10 : Int32)))), some (.inl ((x7) / ((10 : Int32)))), some (.inl (x8 + (1 : Int32)))], [], 0, 0, ix_mem 276 I17 J17 T17)) rfl rfl ?_
    refine ix_subW ([some (.inr (.inr (.inl (some (204))))), some (.inl (x1)), some (.inl (x2)), some (.inl (x3)), some (.inl (x4)), some (.inl ((x5) + ((I 273 (x8).toNatClampNeg) * (v17)))), some (.inl ((x6) / ((10 : Int32)))), some (.inl ((x7) / ((10 : Int32)))), some (.inl (x8 + (1 : Int32)))]) (ix_subS (ix_subS (ix_subS (ix_subS (ix_subS (ix_subS (ix_subS (ix_subS (ix_subS (ix_sub0)))))))))) ?_
    exact h17
  · have h14 := hb.2 c13
    refine ix_go 3 (x' := (if x3 = (-1 : Int32) then 133 else 124, [some (.inr (.inr (.inl (some (204))))), some (.inl (x1)), some (.inl (x2)), some (.inl (x3)), some (.inl (x4)), some (.inl (x5)), some (.inl (x6)), some (.inl (x7)), some (.inl (x8))], [], 0, 0, ix_mem 276 I J T)) rfl trivial ?_
    refine ix_br (fun c18 => ?_) (fun c18 => ?_)
    · have h19 := h14.1 c18
      refine ix_go 6 (x' := (38, [some (.inr (.inr (.inl (some (204))))), some (.inl (x1)), some (.inl (x4)), some (.inl (x5)), some (.inl (x4 + (1 : Int32))), some (.inl (x5)), some (.inl (x6)), some (.inl (x7)), some (.inl (x8))], [], 0, 0, ix_mem 276 I J T)) rfl trivial ?_
      refine ix_subW ([some (.inr (.inr (.inl (some (204))))), some (.inl (x1)), some (.inl (x4)), some (.inl (x5)), some (.inl (x4 + (1 : Int32))), none, none, none, none]) (ix_subS (ix_subS (ix_subS (ix_subS (ix_subS (ix_subN (ix_subN (ix_subN (ix_subN (ix_sub0)))))))))) ?_
      exact hV38 _ _ _ _ _ _ _ h19
    · have h19 := h14.2 c18
      refine ix_go 3 (x' := (if x5 ≤ x3 then 133 else 130, [some (.inr (.inr (.inl (some (204))))), some (.inl (x1)), some (.inl (x2)), some (.inl (x3)), some (.inl (x4)), some (.inl (x5)), some (.inl (x6)), some (.inl (x7)), some (.inl (x8))], [], 0, 0, ix_mem 276 I J T)) rfl trivial ?_
      refine ix_br (fun c20 => ?_) (fun c20 => ?_)
      · have h21 := h19.1 c20
        refine ix_go 6 (x' := (38, [some (.inr (.inr (.inl (some (204))))), some (.inl (x1)), some (.inl (x4)), some (.inl (x5)), some (.inl (x4 + (1 : Int32))), some (.inl (x5)), some (.inl (x6)), some (.inl (x7)), some (.inl (x8))], [], 0, 0, ix_mem 276 I J T)) rfl trivial ?_
        refine ix_subW ([some (.inr (.inr (.inl (some (204))))), some (.inl (x1)), some (.inl (x4)), some (.inl (x5)), some (.inl (x4 + (1 : Int32))), none, none, none, none]) (ix_subS (ix_subS (ix_subS (ix_subS (ix_subS (ix_subN (ix_subN (ix_subN (ix_subN (ix_sub0)))))))))) ?_
        exact hV38 _ _ _ _ _ _ _ h21
      · have h21 := h19.2 c20
        refine ix_go 3 (x' := (38, [some (.inr (.inr (.inl (some (204))))), some (.inl (x1)), some (.inl (x2)), some (.inl (x3)), some (.inl (x4 + (1 : Int32))), some (.inl (x5)), some (.inl (x6)), some (.inl (x7)), some (.inl (x8))], [], 0, 0, ix_mem 276 I J T)) rfl trivial ?_
        refine ix_subW ([some (.inr (.inr (.inl (some (204))))), some (.inl (x1)), some (.inl (x2)), some (.inl (x3)), some (.inl (x4 + (1 : Int32))), none, none, none, none]) (ix_subS (ix_subS (ix_subS (ix_subS (ix_subS (ix_subN (ix_subN (ix_subN (ix_subN (ix_sub0)))))))))) ?_
        exact hV38 _ _ _ _ _ _ _ h21
def wb_X12_judge_38 (x1 : Int32) (x2 : Int32) (x3 : Int32) (x4 : Int32) (I : Nat → Nat → Int32) (J : Nat → Nat → Int64) (T : Option Nat) (V38 : Int32 → Int32 → Int32 → Int32 → (Nat → Nat → Int32) → (Nat → Nat → Int64) → Option Nat → Prop) (P : Int32 → (Nat → Nat → Int32) → (Nat → Nat → Int64) → Option Nat → Prop) : Prop := ((x4 < I 204 107 → ix_inb (x4) 20 = true ∧ wl_X12_judge_65_38 (x1) (x2) (x3) (x4) ((0 : Int32)) (x1) (I 274 (x4).toNatClampNeg) ((0 : Int32)) I J T V38 P) ∧ (¬ (x4 < I 204 107) → ix_inb (x2) 20 = true ∧ wp_X12_gives (I 275 (x2).toNatClampNeg) I J T (fun v24 I24 J24 T24 => P (v24) I24 J24 T24)))
def wl_X12_judge_38 (x1 : Int32) (x2 : Int32) (x3 : Int32) (x4 : Int32) (I : Nat → Nat → Int32) (J : Nat → Nat → Int64) (T : Option Nat) (P : Int32 → (Nat → Nat → Int32) → (Nat → Nat → Int64) → Option Nat → Prop) : Prop := ∀ V : Int32 → Int32 → Int32 → Int32 → (Nat → Nat → Int32) → (Nat → Nat → Int64) → Option Nat → Prop, (∀ (x1 : Int32) (x2 : Int32) (x3 : Int32) (x4 : Int32) (I : Nat → Nat → Int32) (J : Nat → Nat → Int64) (T : Option Nat), wb_X12_judge_38 x1 x2 x3 x4 I J T V P → V x1 x2 x3 x4 I J T) → V x1 x2 x3 x4 I J T
set_option maxRecDepth 20000 in
theorem tl_X12_judge_38 {d : Nat} {x1 : Int32} {x2 : Int32} {x3 : Int32} {x4 : Int32} {I : Nat → Nat → Int32} {J : Nat → Nat → Int64} {T : Option Nat} {P : Int32 → (Nat → Nat → Int32) → (Nat → Nat → Int64) → Option Nat → Prop} {Q : ix_Q} (h : wl_X12_judge_38 x1 x2 x3 x4 I J T P) (hQ : ∀ v I J T, P v I J T → Q (some (.inl v)) (ix_mem 276 I J T)) : ix_W (ix_C (d + 1)) (12, ix_lk ix_l340, (some .int), 0, 0, Nat.blt 0 0, none) Q (38, [some (.inr (.inr (.inl (some (204))))), some (.inl (x1)), some (.inl (x2)), some (.inl (x3)), some (.inl (x4)), none, none, none, none], [], 0, 0, ix_mem 276 I J T) := by
  refine h (fun x1 x2 x3 x4 I J T => ix_W (ix_C (d + 1)) (12, ix_lk ix_l340, (some .int), 0, 0, Nat.blt 0 0, none) Q (38, [some (.inr (.inr (.inl (some (204))))), some (.inl (x1)), some (.inl (x2)), some (.inl (x3)), some (.inl (x4)), none, none, none, none], [], 0, 0, ix_mem 276 I J T)) ?_
  intro x1 x2 x3 x4 I J T hb
  unfold wb_X12_judge_38 at hb
  refine ix_go 4 (x' := (if x4 < I 204 107 then 47 else 145, [some (.inr (.inr (.inl (some (204))))), some (.inl (x1)), some (.inl (x2)), some (.inl (x3)), some (.inl (x4)), none, none, none, none], [], 0, 0, ix_mem 276 I J T)) rfl ⟨rfl, rfl⟩ ?_
  refine ix_br (fun c9 => ?_) (fun c9 => ?_)
  · have h10 := hb.1 c9
    refine ix_go 7 (x' := (59, [some (.inr (.inr (.inl (some (204))))), some (.inl (x1)), some (.inl (x2)), some (.inl (x3)), some (.inl (x4)), some (.inl ((0 : Int32))), some (.inl (x1)), none, none], [.inl (x4), .inr (.inr (.inl (some (274))))], 0, 0, ix_mem 276 I J T)) rfl ⟨rfl, rfl⟩ ?_
    obtain ⟨p11, h12⟩ := h10
    refine ix_go 4 (x' := (65, [some (.inr (.inr (.inl (some (204))))), some (.inl (x1)), some (.inl (x2)), some (.inl (x3)), some (.inl (x4)), some (.inl ((0 : Int32))), some (.inl (x1)), some (.inl (I 274 (x4).toNatClampNeg)), some (.inl ((0 : Int32)))], [], 0, 0, ix_mem 276 I J T)) rfl ⟨rfl, rfl, p11⟩ ?_
    refine ix_subW ([some (.inr (.inr (.inl (some (204))))), some (.inl (x1)), some (.inl (x2)), some (.inl (x3)), some (.inl (x4)), some (.inl ((0 : Int32))), some (.inl (x1)), some (.inl (I 274 (x4).toNatClampNeg)), some (.inl ((0 : Int32)))]) (ix_subS (ix_subS (ix_subS (ix_subS (ix_subS (ix_subS (ix_subS (ix_subS (ix_subS (ix_sub0)))))))))) ?_
    exact tl_X12_judge_65_38 h12 (fun _ _ _ _ I J T hv => hv) hQ
  · have h10 := hb.2 c9
    obtain ⟨p22, h23⟩ := h10
    refine ix_go 5 (x' := (152, [some (.inr (.inr (.inl (some (204))))), some (.inl (x1)), some (.inl (x2)), some (.inl (x3)), some (.inl (x4)), none, none, none, none], [.inl (I 275 (x2).toNatClampNeg), .inr (.inr (.inl (some (204))))], 0, 0, ix_mem 276 I J T)) rfl ⟨rfl, rfl, rfl, rfl, p22⟩ ?_
    refine ix_sp rfl ⟨rfl, ⟨ix_lt rfl, ix_eq rfl, ix_lt rfl⟩, ix_le rfl, Nat.le_refl _, Nat.le_refl _, tp_X12_gives h23 (fun v24 I24 J24 T24 h24 => ?_)⟩
    change ix_W _ _ _ (155, [some (.inr (.inr (.inl (some (204))))), some (.inl (x1)), some (.inl (x2)), some (.inl (x3)), some (.inl (x4)), none, none, none, none], [.inl (v24)], 0, 0, ix_mem 276 I24 J24 T24)
    exact ix_sp rfl ⟨Nat.le_refl _, Nat.le_refl _, trivial, hQ _ _ _ _ h24⟩
def wp_X12_judge (a0 : Int32) (I : Nat → Nat → Int32) (J : Nat → Nat → Int64) (T : Option Nat) (P : Int32 → (Nat → Nat → Int32) → (Nat → Nat → Int64) → Option Nat → Prop) : Prop := ((a0 < 0 → wp_X12_refuse ((1 : Int32)) I J T (fun v3 I3 J3 T3 => P (v3) I3 J3 T3)) ∧ (¬ (a0 < 0) → ((a0 ≤ (999999 : Int32) → ((I 204 107 = 0 → wp_X12_refuse ((6 : Int32)) I J T (fun v8 I8 J8 T8 => P (v8) I8 J8 T8)) ∧ (¬ (I 204 107 = 0) → wl_X12_judge_38 (a0) ((0 : Int32)) ((-1 : Int32)) ((0 : Int32)) I J T P))) ∧ (¬ (a0 ≤ (999999 : Int32)) → wp_X12_refuse ((1 : Int32)) I J T (fun v25 I25 J25 T25 => P (v25) I25 J25 T25)))))
set_option maxRecDepth 20000 in
theorem tp_X12_judge {d : Nat} {a0 : Int32} {I : Nat → Nat → Int32} {J : Nat → Nat → Int64} {T : Option Nat} {P : Int32 → (Nat → Nat → Int32) → (Nat → Nat → Int64) → Option Nat → Prop} {Q : ix_Q} (h : wp_X12_judge a0 I J T P) (hQ : ∀ v I J T, P v I J T → Q (some (.inl v)) (ix_mem 276 I J T)) : ix_C (d + 2) 340 [.inr (.inr (.inl (some (204)))), .inl (a0)] (ix_mem 276 I J T) Q := by
  unfold wp_X12_judge at h
  refine ix_enter (ls := [some (.inr (.inr (.inl (some (204))))), some (.inl (a0)), none, none, none, none, none, none, none]) rfl rfl rfl (Nat.le_of_ble_eq_true rfl) ?_
  refine ix_go 2 (x' := (if a0 < 0 then 11 else 4, [some (.inr (.inr (.inl (some (204))))), some (.inl (a0)), none, none, none, none, none, none, none], [], 0, 0, ix_mem 276 I J T)) rfl trivial ?_
  refine ix_br (fun c1 => ?_) (fun c1 => ?_)
  · have h2 := h.1 c1
    refine ix_go 2 (x' := (13, [some (.inr (.inr (.inl (some (204))))), some (.inl (a0)), none, none, none, none, none, none, none], [.inl ((1 : Int32)), .inr (.inr (.inl (some (204))))], 0, 0, ix_mem 276 I J T)) rfl trivial ?_
    refine ix_sp rfl ⟨rfl, ⟨ix_lt rfl, ix_eq rfl, ix_lt rfl⟩, ix_le rfl, Nat.le_refl _, Nat.le_refl _, tp_X12_refuse h2 (fun v3 I3 J3 T3 h3 => ?_)⟩
    change ix_W _ _ _ (16, [some (.inr (.inr (.inl (some (204))))), some (.inl (a0)), none, none, none, none, none, none, none], [.inl (v3)], 0, 0, ix_mem 276 I3 J3 T3)
    exact ix_sp rfl ⟨Nat.le_refl _, Nat.le_refl _, trivial, hQ _ _ _ _ h3⟩
  · have h2 := h.2 c1
    refine ix_go 3 (x' := (if a0 ≤ (999999 : Int32) then 17 else 11, [some (.inr (.inr (.inl (some (204))))), some (.inl (a0)), none, none, none, none, none, none, none], [], 0, 0, ix_mem 276 I J T)) rfl trivial ?_
    refine ix_br (fun c4 => ?_) (fun c4 => ?_)
    · have h5 := h2.1 c4
      refine ix_go 3 (x' := (if I 204 107 = 0 then 24 else 31, [some (.inr (.inr (.inl (some (204))))), some (.inl (a0)), none, none, none, none, none, none, none], [], 0, 0, ix_mem 276 I J T)) rfl ⟨rfl, rfl⟩ ?_
      refine ix_br (fun c6 => ?_) (fun c6 => ?_)
      · have h7 := h5.1 c6
        refine ix_go 2 (x' := (27, [some (.inr (.inr (.inl (some (204))))), some (.inl (a0)), none, none, none, none, none, none, none], [.inl ((6 : Int32)), .inr (.inr (.inl (some (204))))], 0, 0, ix_mem 276 I J T)) rfl trivial ?_
        refine ix_sp rfl ⟨rfl, ⟨ix_lt rfl, ix_eq rfl, ix_lt rfl⟩, ix_le rfl, Nat.le_refl _, Nat.le_refl _, tp_X12_refuse h7 (fun v8 I8 J8 T8 h8 => ?_)⟩
        change ix_W _ _ _ (30, [some (.inr (.inr (.inl (some (204))))), some (.inl (a0)), none, none, none, none, none, none, none], [.inl (v8)], 0, 0, ix_mem 276 I8 J8 T8)
        exact ix_sp rfl ⟨Nat.le_refl _, Nat.le_refl _, trivial, hQ _ _ _ _ h8⟩
      · have h7 := h5.2 c6
        refine ix_go 6 (x' := (38, [some (.inr (.inr (.inl (some (204))))), some (.inl (a0)), some (.inl ((0 : Int32))), some (.inl ((-1 : Int32))), some (.inl ((0 : Int32))), none, none, none, none], [], 0, 0, ix_mem 276 I J T)) rfl trivial ?_
        refine ix_subW ([some (.inr (.inr (.inl (some (204))))), some (.inl (a0)), some (.inl ((0 : Int32))), some (.inl ((-1 : Int32))), some (.inl ((0 : Int32))), none, none, none, none]) (ix_subS (ix_subS (ix_subS (ix_subS (ix_subS (ix_subS (ix_subS (ix_subS (ix_subS (ix_sub0)))))))))) ?_
        exact tl_X12_judge_38 h7 hQ
    · have h5 := h2.2 c4
      refine ix_go 2 (x' := (13, [some (.inr (.inr (.inl (some (204))))), some (.inl (a0)), none, none, none, none, none, none, none], [.inl ((1 : Int32)), .inr (.inr (.inl (some (204))))], 0, 0, ix_mem 276 I J T)) rfl trivial ?_
      refine ix_sp rfl ⟨rfl, ⟨ix_lt rfl, ix_eq rfl, ix_lt rfl⟩, ix_le rfl, Nat.le_refl _, Nat.le_refl _, tp_X12_refuse h5 (fun v25 I25 J25 T25 h25 => ?_)⟩
      change ix_W _ _ _ (16, [some (.inr (.inr (.inl (some (204))))), some (.inl (a0)), none, none, none, none, none, none, none], [.inl (v25)], 0, 0, ix_mem 276 I25 J25 T25)
      exact ix_sp rfl ⟨Nat.le_refl _, Nat.le_refl _, trivial, hQ _ _ _ _ h25⟩
