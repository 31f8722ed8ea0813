def wp_X12_drawn (a0 : Int32) (I : Nat → Nat → Int32) (J : Nat → Nat → Int64) (T : Option Nat) (P : Int32 → (Nat → Nat → Int32) → (Nat → Nat → Int64) → Option Nat → Prop) : Prop := ((a0 < 0 → wp_X12_refuse ((1 : Int32)) I J T (fun v3 I3 J3 T3 => P (v3) I3 J3 T3)) ∧ (¬ (a0 < 0) → ((a0 < I 204 66 → ix_inb (a0) 52 = true ∧ wp_X12_gives (I 252 (a0).toNatClampNeg) I J T (fun v8 I8 J8 T8 => P (v8) I8 J8 T8)) ∧ (¬ (a0 < I 204 66) → wp_X12_refuse ((6 : Int32)) I J T (fun v9 I9 J9 T9 => P (v9) I9 J9 T9)))))
set_option maxRecDepth 20000 in
theorem tp_X12_drawn {d : Nat} {a0 : Int32} {I : Nat → Nat → Int32} {J : Nat → Nat → Int64} {T : Option Nat} {P : Int32 → (Nat → Nat → Int32) → (Nat → Nat → Int64) → Option Nat → Prop} {Q : ix_Q} (h : wp_X12_drawn a0 I J T P) (hQ : ∀ v I J T, P v I J T → Q (some (.inl v)) (ix_mem 276 I J T)) : ix_C (d + 2) 309 [.inr (.inr (.inl (some (204)))), .inl (a0)] (ix_mem 276 I J T) Q := by
  unfold wp_X12_drawn at h
  refine ix_enter (ls := [some (.inr (.inr (.inl (some (204))))), some (.inl (a0))]) rfl rfl rfl (Nat.le_of_ble_eq_true rfl) ?_
  refine ix_go 2 (x' := (if a0 < 0 then 4 else 12, [some (.inr (.inr (.inl (some (204))))), some (.inl (a0))], [], 0, 0, ix_mem 276 I J T)) rfl trivial ?_
  refine ix_br (fun c1 => ?_) (fun c1 => ?_)
  · have h2 := h.1 c1
    refine ix_go 2 (x' := (6, [some (.inr (.inr (.inl (some (204))))), some (.inl (a0))], [.inl ((1 : Int32)), .inr (.inr (.inl (some (204))))], 0, 0, ix_mem 276 I J T)) rfl trivial ?_
    refine ix_sp rfl ⟨rfl, ⟨ix_lt rfl, ix_eq rfl, ix_lt rfl⟩, ix_le rfl, Nat.le_refl _, Nat.le_refl _, tp_X12_refuse h2 (fun v3 I3 J3 T3 h3 => ?_)⟩
    change ix_W _ _ _ (9, [some (.inr (.inr (.inl (some (204))))), some (.inl (a0))], [.inl (v3)], 0, 0, ix_mem 276 I3 J3 T3)
    refine ix_go 1 (x' := (39, [some (.inr (.inr (.inl (some (204))))), some (.inl (a0))], [.inl (v3)], 0, 0, ix_mem 276 I3 J3 T3)) rfl trivial ?_
    exact ix_sp rfl ⟨Nat.le_refl _, Nat.le_refl _, trivial, hQ _ _ _ _ h3⟩
  · have h2 := h.2 c1
    refine ix_go 4 (x' := (if a0 < I 204 66 then 29 else 20, [some (.inr (.inr (.inl (some (204))))), some (.inl (a0))], [], 0, 0, ix_mem 276 I J T)) rfl ⟨rfl, rfl⟩ ?_
    refine ix_br (fun c4 => ?_) (fun c4 => ?_)
    · have h5 := h2.1 c4
      obtain ⟨p6, h7⟩ := h5
      refine ix_go 5 (x' := (36, [some (.inr (.inr (.inl (some (204))))), some (.inl (a0))], [.inl (I 252 (a0).toNatClampNeg), .inr (.inr (.inl (some (204))))], 0, 0, ix_mem 276 I J T)) rfl ⟨rfl, rfl, rfl, rfl, p6⟩ ?_
      refine ix_sp rfl ⟨rfl, ⟨ix_lt rfl, ix_eq rfl, ix_lt rfl⟩, ix_le rfl, Nat.le_refl _, Nat.le_refl _, tp_X12_gives h7 (fun v8 I8 J8 T8 h8 => ?_)⟩
      change ix_W _ _ _ (39, [some (.inr (.inr (.inl (some (204))))), some (.inl (a0))], [.inl (v8)], 0, 0, ix_mem 276 I8 J8 T8)
      exact ix_sp rfl ⟨Nat.le_refl _, Nat.le_refl _, trivial, hQ _ _ _ _ h8⟩
    · have h5 := h2.2 c4
      refine ix_go 2 (x' := (23, [some (.inr (.inr (.inl (some (204))))), some (.inl (a0))], [.inl ((6 : Int32)), .inr (.inr (.inl (some (204))))], 0, 0, ix_mem 276 I J T)) rfl trivial ?_
      refine ix_sp rfl ⟨rfl, ⟨ix_lt rfl, ix_eq rfl, ix_lt rfl⟩, ix_le rfl, Nat.le_refl _, Nat.le_refl _, tp_X12_refuse h5 (fun v9 I9 J9 T9 h9 => ?_)⟩
      change ix_W _ _ _ (26, [some (.inr (.inr (.inl (some (204))))), some (.inl (a0))], [.inl (v9)], 0, 0, ix_mem 276 I9 J9 T9)
      refine ix_go 1 (x' := (39, [some (.inr (.inr (.inl (some (204))))), some (.inl (a0))], [.inl (v9)], 0, 0, ix_mem 276 I9 J9 T9)) rfl trivial ?_
      exact ix_sp rfl ⟨Nat.le_refl _, Nat.le_refl _, trivial, hQ _ _ _ _ h9⟩
def wb_X12_toldOf_4 (x1 : Int32) (x2 : Int32) (x3 : Int32) (I : Nat → Nat → Int32) (J : Nat → Nat → Int64) (T : Option Nat) (V4 : Int32 → Int32 → Int32 → (Nat → Nat → Int32) → (Nat → Nat → Int64) → Option Nat → Prop) (P : Int32 → (Nat → Nat → Int32) → (Nat → Nat → Int64) → Option Nat → Prop) : Prop := ((x3 < I 204 66 → ix_inb (x3) 52 = true ∧ ix_inb ((((52 : Int32)) * (x1)) + (I 252 (x3).toNatClampNeg)) 416 = true ∧ V4 (x1) ((x2) + (I 251 ((((52 : Int32)) * (x1)) + (I 252 (x3).toNatClampNeg)).toNatClampNeg)) (x3 + (1 : Int32)) I J T) ∧ (¬ (x3 < I 204 66) → ix_nz (I 204 66) = true ∧ P ((((52 : Int32)) * (x2)) / (I 204 66)) I J T))
def wl_X12_toldOf_4 (x1 : Int32) (x2 : Int32) (x3 : Int32) (I : Nat → Nat → Int32) (J : Nat → Nat → Int64) (T : Option Nat) (P : Int32 → (Nat → Nat → Int32) → (Nat → Nat → Int64) → Option Nat → Prop) : Prop := ∀ V : Int32 → Int32 → Int32 → (Nat → Nat → Int32) → (Nat → Nat → Int64) → Option Nat → Prop, (∀ (x1 : Int32) (x2 : Int32) (x3 : Int32) (I : Nat → Nat → Int32) (J : Nat → Nat → Int64) (T : Option Nat), wb_X12_toldOf_4 x1 x2 x3 I J T V P → V x1 x2 x3 I J T) → V x1 x2 x3 I J T
set_option maxRecDepth 20000 in
theorem tl_X12_toldOf_4 {d : Nat} {x1 : Int32} {x2 : Int32} {x3 : Int32} {I : Nat → Nat → Int32} {J : Nat → Nat → Int64} {T : Option Nat} {P : Int32 → (Nat → Nat → Int32) → (Nat → Nat → Int64) → Option Nat → Prop} {Q : ix_Q} (h : wl_X12_toldOf_4 x1 x2 x3 I J T P) (hQ : ∀ v I J T, P v I J T → Q (some (.inl v)) (ix_mem 276 I J T)) : ix_W (ix_C d) (12, ix_lk ix_l310, (some .int), 0, 0, Nat.blt 0 0, none) Q (4, [some (.inr (.inr (.inl (some (204))))), some (.inl (x1)), some (.inl (x2)), some (.inl (x3))], [], 0, 0, ix_mem 276 I J T) := by
  refine h (fun x1 x2 x3 I J T => ix_W (ix_C d) (12, ix_lk ix_l310, (some .int), 0, 0, Nat.blt 0 0, none) Q (4, [some (.inr (.inr (.inl (some (204))))), some (.inl (x1)), some (.inl (x2)), some (.inl (x3))], [], 0, 0, ix_mem 276 I J T)) ?_
  intro x1 x2 x3 I J T hb
  unfold wb_X12_toldOf_4 at hb
  refine ix_go 4 (x' := (if x3 < I 204 66 then 12 else 37, [some (.inr (.inr (.inl (some (204))))), some (.inl (x1)), some (.inl (x2)), some (.inl (x3))], [], 0, 0, ix_mem 276 I J T)) rfl ⟨rfl, rfl⟩ ?_
  refine ix_br (fun c1 => ?_) (fun c1 => ?_)
  · have h2 := hb.1 c1
    refine ix_go 7 (x' := (22, [some (.inr (.inr (.inl (some (204))))), some (.inl (x1)), some (.inl (x2)), some (.inl (x3))], [.inr (.inr (.inl (some (204)))), .inl (((52 : Int32)) * (x1)), .inr (.inr (.inl (some (251)))), .inl (x2)], 0, 0, ix_mem 276 I J T)) rfl ⟨rfl, rfl⟩ ?_
    obtain ⟨p3, h4⟩ := h2
    obtain ⟨p5, h6⟩ := h4
    refine ix_go 7 (x' := (31, [some (.inr (.inr (.inl (some (204))))), some (.inl (x1)), some (.inl ((x2) + (I 251 ((((52 : Int32)) * (x1)) + (I 252 (x3).toNatClampNeg)).toNatClampNeg))), some (.inl (x3))], [], 0, 0, ix_mem 276 I J T)) rfl ⟨rfl, rfl, rfl, rfl, p3, rfl, rfl, p5⟩ ?_
    refine ix_go 2 (x' := (4, [some (.inr (.inr (.inl (some (204))))), some (.inl (x1)), some (.inl ((x2) + (I 251 ((((52 : Int32)) * (x1)) + (I 252 (x3).toNatClampNeg)).toNatClampNeg))), some (.inl (x3 + (1 : Int32)))], [], 0, 0, ix_mem 276 I J T)) rfl trivial ?_
    refine ix_subW ([some (.inr (.inr (.inl (some (204))))), some (.inl (x1)), some (.inl ((x2) + (I 251 ((((52 : Int32)) * (x1)) + (I 252 (x3).toNatClampNeg)).toNatClampNeg))), some (.inl (x3 + (1 : Int32)))]) (ix_subS (ix_subS (ix_subS (ix_subS (ix_sub0))))) ?_
    exact h6
  · have h2 := hb.2 c1
    obtain ⟨p7, h8⟩ := h2
    refine ix_go 6 (x' := (46, [some (.inr (.inr (.inl (some (204))))), some (.inl (x1)), some (.inl (x2)), some (.inl (x3))], [.inl ((((52 : Int32)) * (x2)) / (I 204 66))], 0, 0, ix_mem 276 I J T)) rfl ⟨rfl, rfl, p7⟩ ?_
    exact ix_sp rfl ⟨Nat.le_refl _, Nat.le_refl _, trivial, hQ _ _ _ _ h8⟩
def wp_X12_toldOf (a0 : Int32) (I : Nat → Nat → Int32) (J : Nat → Nat → Int64) (T : Option Nat) (P : Int32 → (Nat → Nat → Int32) → (Nat → Nat → Int64) → Option Nat → Prop) : Prop := wl_X12_toldOf_4 (a0) ((0 : Int32)) ((0 : Int32)) I J T P
set_option maxRecDepth 20000 in
theorem tp_X12_toldOf {d : Nat} {a0 : Int32} {I : Nat → Nat → Int32} {J : Nat → Nat → Int64} {T : Option Nat} {P : Int32 → (Nat → Nat → Int32) → (Nat → Nat → Int64) → Option Nat → Prop} {Q : ix_Q} (h : wp_X12_toldOf a0 I J T P) (hQ : ∀ v I J T, P v I J T → Q (some (.inl v)) (ix_mem 276 I J T)) : ix_C (d + 1) 310 [.inr (.inr (.inl (some (204)))), .inl (a0)] (ix_mem 276 I J T) Q := by
  unfold wp_X12_toldOf at h
  refine ix_enter (ls := [some (.inr (.inr (.inl (some (204))))), some (.inl (a0)), none, none]) rfl rfl rfl (Nat.le_of_ble_eq_true rfl) ?_
  refine ix_go 4 (x' := (4, [some (.inr (.inr (.inl (some (204))))), some (.inl (a0)), some (.inl ((0 : Int32))), some (.inl ((0 : Int32)))], [], 0, 0, ix_mem 276 I J T)) rfl trivial ?_
  refine ix_subW ([some (.inr (.inr (.inl (some (204))))), some (.inl (a0)), some (.inl ((0 : Int32))), some (.inl ((0 : Int32)))]) (ix_subS (ix_subS (ix_subS (ix_subS (ix_sub0))))) ?_
  exact tl_X12_toldOf_4 h hQ
def wp_X12_told (a0 : Int32) (I : Nat → Nat → Int32) (J : Nat → Nat → Int64) (T : Option Nat) (P : Int32 → (Nat → Nat → Int32) → (Nat → Nat → Int64) → Option Nat → Prop) : Prop := wp_X12_isFlow (a0) I J T (fun v1 I1 J1 T1 => ((v1 = 0 → wp_X12_refuse ((1 : Int32)) I1 J1 T1 (fun v4 I4 J4 T4 => P (v4) I4 J4 T4)) ∧ (¬ (v1 = 0) → ((I1 204 66 = 0 → wp_X12_refuse ((6 : Int32)) I1 J1 T1 (fun v7 I7 J7 T7 => P (v7) I7 J7 T7)) ∧ (¬ (I1 204 66 = 0) → wp_X12_toldOf (a0) I1 J1 T1 (fun v8 I8 J8 T8 => wp_X12_gives (v8) I8 J8 T8 (fun v9 I9 J9 T9 => P (v9) I9 J9 T9)))))))
set_option maxRecDepth 20000 in
theorem tp_X12_told {d : Nat} {a0 : Int32} {I : Nat → Nat → Int32} {J : Nat → Nat → Int64} {T : Option Nat} {P : Int32 → (Nat → Nat → Int32) → (Nat → Nat → Int64) → Option Nat → Prop} {Q : ix_Q} (h : wp_X12_told a0 I J T P) (hQ : ∀ v I J T, P v I J T → Q (some (.inl v)) (ix_mem 276 I J T)) : ix_C (d + 2) 311 [.inr (.inr (.inl (some (204)))), .inl (a0)] (ix_mem 276 I J T) Q := by
  unfold wp_X12_told at h
  refine ix_enter (ls := [some (.inr (.inr (.inl (some (204))))), some (.inl (a0))]) rfl rfl rfl (Nat.le_of_ble_eq_true rfl) ?_
  refine ix_go 2 (x' := (2, [some (.inr (.inr (.inl (some (204))))), some (.inl (a0))], [.inl (a0), .inr (.inr (.inl (some (204))))], 0, 0, ix_mem 276 I J T)) rfl trivial ?_
  refine ix_sp rfl ⟨rfl, ⟨ix_lt rfl, ix_eq rfl, ix_lt rfl⟩, ix_le rfl, Nat.le_refl _, Nat.le_refl _, tp_X12_isFlow h (fun v1 I1 J1 T1 h1 => ?_)⟩
  change ix_W _ _ _ (5, [some (.inr (.inr (.inl (some (204))))), some (.inl (a0))], [.inl (v1)], 0, 0, ix_mem 276 I1 J1 T1)
  refine ix_go 1 (x' := (if v1 = 0 then 8 else 16, [some (.inr (.inr (.inl (some (204))))), some (.inl (a0))], [], 0, 0, ix_mem 276 I1 J1 T1)) rfl trivial ?_
  refine ix_br (fun c2 => ?_) (fun c2 => ?_)
  · have h3 := h1.1 c2
    refine ix_go 2 (x' := (10, [some (.inr (.inr (.inl (some (204))))), some (.inl (a0))], [.inl ((1 : Int32)), .inr (.inr (.inl (some (204))))], 0, 0, ix_mem 276 I1 J1 T1)) rfl trivial ?_
    refine ix_sp rfl ⟨rfl, ⟨ix_lt rfl, ix_eq rfl, ix_lt rfl⟩, ix_le rfl, Nat.le_refl _, Nat.le_refl _, tp_X12_refuse h3 (fun v4 I4 J4 T4 h4 => ?_)⟩
    change ix_W _ _ _ (13, [some (.inr (.inr (.inl (some (204))))), some (.inl (a0))], [.inl (v4)], 0, 0, ix_mem 276 I4 J4 T4)
    refine ix_go 1 (x' := (41, [some (.inr (.inr (.inl (some (204))))), some (.inl (a0))], [.inl (v4)], 0, 0, ix_mem 276 I4 J4 T4)) rfl trivial ?_
    exact ix_sp rfl ⟨Nat.le_refl _, Nat.le_refl _, trivial, hQ _ _ _ _ h4⟩
  · have h3 := h1.2 c2
    refine ix_go 3 (x' := (if I1 204 66 = 0 then 23 else 32, [some (.inr (.inr (.inl (some (204))))), some (.inl (a0))], [], 0, 0, ix_mem 276 I1 J1 T1)) rfl ⟨rfl, rfl⟩ ?_
    refine ix_br (fun c5 => ?_) (fun c5 => ?_)
    · have h6 := h3.1 c5
      refine ix_go 2 (x' := (26, [some (.inr (.inr (.inl (some (204))))), some (.inl (a0))], [.inl ((6 : Int32)), .inr (.inr (.inl (some (204))))], 0, 0, ix_mem 276 I1 J1 T1)) rfl trivial ?_
      refine ix_sp rfl ⟨rfl, ⟨ix_lt rfl, ix_eq rfl, ix_lt rfl⟩, ix_le rfl, Nat.le_refl _, Nat.le_refl _, tp_X12_refuse h6 (fun v7 I7 J7 T7 h7 => ?_)⟩
      change ix_W _ _ _ (29, [some (.inr (.inr (.inl (some (204))))), some (.inl (a0))], [.inl (v7)], 0, 0, ix_mem 276 I7 J7 T7)
      refine ix_go 1 (x' := (41, [some (.inr (.inr (.inl (some (204))))), some (.inl (a0))], [.inl (v7)], 0, 0, ix_mem 276 I7 J7 T7)) rfl trivial ?_
      exact ix_sp rfl ⟨Nat.le_refl _, Nat.le_refl _, trivial, hQ _ _ _ _ h7⟩
    · have h6 := h3.2 c5
      refine ix_go 3 (x' := (35, [some (.inr (.inr (.inl (some (204))))), some (.inl (a0))], [.inl (a0), .inr (.inr (.inl (some (204)))), .inr (.inr (.inl (some (204))))], 0, 0, ix_mem 276 I1 J1 T1)) rfl trivial ?_
      refine ix_sp rfl ⟨rfl, ⟨ix_lt rfl, ix_eq rfl, ix_lt rfl⟩, ix_le rfl, Nat.le_refl _, Nat.le_refl _, tp_X12_toldOf h6 (fun v8 I8 J8 T8 h8 => ?_)⟩
      change ix_W _ _ _ (38, [some (.inr (.inr (.inl (some (204))))), some (.inl (a0))], [.inl (v8), .inr (.inr (.inl (some (204))))], 0, 0, ix_mem 276 I8 J8 T8)
      refine ix_sp rfl ⟨rfl, ⟨ix_lt rfl, ix_eq rfl, ix_lt rfl⟩, ix_le rfl, Nat.le_refl _, Nat.le_refl _, tp_X12_gives h8 (fun v9 I9 J9 T9 h9 => ?_)⟩
      change ix_W _ _ _ (41, [some (.inr (.inr (.inl (some (204))))), some (.inl (a0))], [.inl (v9)], 0, 0, ix_mem 276 I9 J9 T9)
      exact ix_sp rfl ⟨Nat.le_refl _, Nat.le_refl _, trivial, hQ _ _ _ _ h9⟩
def wb_X12_farOff_18_4 (x1 : Int32) (x2 : Int32) (x3 : Int32) (x4 : Int32) (x5 : Int32) (I : Nat → Nat → Int32) (J : Nat → Nat → Int64) (T : Option Nat) (V18 : Int32 → Int32 → Int32 → Int32 → Int32 → (Nat → Nat → Int32) → (Nat → Nat → Int64) → Option Nat → Prop) (V4 : Int32 → Int32 → Int32 → (Nat → Nat → Int32) → (Nat → Nat → Int64) → Option Nat → Prop) (P : Int32 → (Nat → Nat → Int32) → (Nat → Nat → Int64) → Option Nat → Prop) : Prop := ((x5 < x1 → ix_inb (x5) 3 = true ∧ ix_inb ((((52 : Int32)) * (x3)) + (I 254 (x5).toNatClampNeg)) 416 = true ∧ V18 (x1) (x2) (x3) ((x4) + (I 251 ((((52 : Int32)) * (x3)) + (I 254 (x5).toNatClampNeg)).toNatClampNeg)) (x5 + (1 : Int32)) I J T) ∧ (¬ (x5 < x1) → ix_nz (x1) = true ∧ wp_X12_trueOf (x3) I J T (fun v11 I11 J11 T11 => wp_J9_abs_0f7a4 (((((52 : Int32)) * (x4)) / (x1)) - (v11)) I11 J11 T11 (fun v12 I12 J12 T12 => V4 (x1) ((x2) + (v12)) (x3 + (1 : Int32)) I12 J12 T12))))
def wl_X12_farOff_18_4 (x1 : Int32) (x2 : Int32) (x3 : Int32) (x4 : Int32) (x5 : Int32) (I : Nat → Nat → Int32) (J : Nat → Nat → Int64) (T : Option Nat) (V4 : Int32 → Int32 → Int32 → (Nat → Nat → Int32) → (Nat → Nat → Int64) → Option Nat → Prop) (P : Int32 → (Nat → Nat → Int32) → (Nat → Nat → Int64) → Option Nat → Prop) : Prop := ∀ V : Int32 → Int32 → Int32 → Int32 → Int32 → (Nat → Nat → Int32) → (Nat → Nat → Int64) → Option Nat → Prop, (∀ (x1 : Int32) (x2 : Int32) (x3 : Int32) (x4 : Int32) (x5 : Int32) (I : Nat → Nat → Int32) (J : Nat → Nat → Int64) (T : Option Nat), wb_X12_farOff_18_4 x1 x2 x3 x4 x5 I J T V V4 P → V x1 x2 x3 x4 x5 I J T) → V x1 x2 x3 x4 x5 I J T
set_option maxRecDepth 20000 in
theorem tl_X12_farOff_18_4 {d : Nat} {x1 : Int32} {x2 : Int32} {x3 : Int32} {x4 : Int32} {x5 : Int32} {I : Nat → Nat → Int32} {J : Nat → Nat → Int64} {T : Option Nat} {V4 : Int32 → Int32 → Int32 → (Nat → Nat → Int32) → (Nat → Nat → Int64) → Option Nat → Prop} {P : Int32 → (Nat → Nat → Int32) → (Nat → Nat → Int64) → Option Nat → Prop} {Q : ix_Q} (h : wl_X12_farOff_18_4 x1 x2 x3 x4 x5 I J T V4 P) (hV4 : ∀ (x1 : Int32) (x2 : Int32) (x3 : Int32) I J T, V4 x1 x2 x3 I J T → ix_W (ix_C (d + 1)) (12, ix_lk ix_l312, (some .int), 0, 0, Nat.blt 0 0, none) Q (4, [some (.inr (.inr (.inl (some (204))))), some (.inl (x1)), some (.inl (x2)), some (.inl (x3)), none, none], [], 0, 0, ix_mem 276 I J T)) (hQ : ∀ v I J T, P v I J T → Q (some (.inl v)) (ix_mem 276 I J T)) : ix_W (ix_C (d + 1)) (12, ix_lk ix_l312, (some .int), 0, 0, Nat.blt 0 0, none) Q (18, [some (.inr (.inr (.inl (some (204))))), some (.inl (x1)), some (.inl (x2)), some (.inl (x3)), some (.inl (x4)), some (.inl (x5))], [], 0, 0, ix_mem 276 I J T) := by
  refine h (fun x1 x2 x3 x4 x5 I J T => ix_W (ix_C (d + 1)) (12, ix_lk ix_l312, (some .int), 0, 0, Nat.blt 0 0, none) Q (18, [some (.inr (.inr (.inl (some (204))))), some (.inl (x1)), some (.inl (x2)), some (.inl (x3)), some (.inl (x4)), some (.inl (x5))], [], 0, 0, ix_mem 276 I J T)) ?_
  intro x1 x2 x3 x4 x5 I J T hb
  unfold wb_X12_farOff_18_4 at hb
  refine ix_go 3 (x' := (if x5 < x1 then 24 else 52, [some (.inr (.inr (.inl (some (204))))), some (.inl (x1)), some (.inl (x2)), some (.inl (x3)), some (.inl (x4)), some (.inl (x5))], [], 0, 0, ix_mem 276 I J T)) rfl trivial ?_
  refine ix_br (fun c3 => ?_) (fun c3 => ?_)
  · have h4 := hb.1 c3
    refine ix_go 7 (x' := (35, [some (.inr (.inr (.inl (some (204))))), some (.inl (x1)), some (.inl (x2)), some (.inl (x3)), some (.inl (x4)), some (.inl (x5))], [.inr (.inr (.inl (some (204)))), .inl (((52 : Int32)) * (x3)), .inr (.inr (.inl (some (251)))), .inl (x4)], 0, 0, ix_mem 276 I J T)) rfl ⟨rfl, rfl⟩ ?_
    obtain ⟨p5, h6⟩ := h4
    obtain ⟨p7, h8⟩ := h6
    refine ix_go 7 (x' := (46, [some (.inr (.inr (.inl (some (204))))), some (.inl (x1)), some (.inl (x2)), some (.inl (x3)), some (.inl ((x4) + (I 251 ((((52 : Int32)) * (x3)) + (I 254 (x5).toNatClampNeg)).toNatClampNeg))), some (.inl (x5))], [], 0, 0, ix_mem 276 I J T)) rfl ⟨rfl, rfl, rfl, rfl, p5, rfl, rfl, p7⟩ ?_
    refine ix_go 2 (x' := (18, [some (.inr (.inr (.inl (some (204))))), some (.inl (x1)), some (.inl (x2)), some (.inl (x3)), some (.inl ((x4) + (I 251 ((((52 : Int32)) * (x3)) + (I 254 (x5).toNatClampNeg)).toNatClampNeg))), some (.inl (x5 + (1 : Int32)))], [], 0, 0, ix_mem 276 I J T)) rfl trivial ?_
    refine ix_subW ([some (.inr (.inr (.inl (some (204))))), some (.inl (x1)), some (.inl (x2)), some (.inl (x3)), some (.inl ((x4) + (I 251 ((((52 : Int32)) * (x3)) + (I 254 (x5).toNatClampNeg)).toNatClampNeg))), some (.inl (x5 + (1 : Int32)))]) (ix_subS (ix_subS (ix_subS (ix_subS (ix_subS (ix_subS (ix_sub0))))))) ?_
    exact h8
  · have h4 := hb.2 c3
    obtain ⟨p9, h10⟩ := h4
    refine ix_go 7 (x' := (61, [some (.inr (.inr (.inl (some (204))))), some (.inl (x1)), some (.inl (x2)), some (.inl (x3)), some (.inl (x4)), some (.inl (x5))], [.inr (.inr (.inl (some (204)))), .inl ((((52 : Int32)) * (x4)) / (x1)), .inl (x2)], 0, 0, ix_mem 276 I J T)) rfl p9 ?_
    refine ix_go 1 (x' := (62, [some (.inr (.inr (.inl (some (204))))), some (.inl (x1)), some (.inl (x2)), some (.inl (x3)), some (.inl (x4)), some (.inl (x5))], [.inl (x3), .inr (.inr (.inl (some (204)))), .inl ((((52 : Int32)) * (x4)) / (x1)), .inl (x2)], 0, 0, ix_mem 276 I J T)) rfl trivial ?_
    refine ix_sp rfl ⟨rfl, ⟨ix_lt rfl, ix_eq rfl, ix_lt rfl⟩, ix_le rfl, Nat.le_refl _, Nat.le_refl _, tp_X12_trueOf h10 (fun v11 I11 J11 T11 h11 => ?_)⟩
    change ix_W _ _ _ (65, [some (.inr (.inr (.inl (some (204))))), some (.inl (x1)), some (.inl (x2)), some (.inl (x3)), some (.inl (x4)), some (.inl (x5))], [.inl (v11), .inl ((((52 : Int32)) * (x4)) / (x1)), .inl (x2)], 0, 0, ix_mem 276 I11 J11 T11)
    refine ix_go 1 (x' := (66, [some (.inr (.inr (.inl (some (204))))), some (.inl (x1)), some (.inl (x2)), some (.inl (x3)), some (.inl (x4)), some (.inl (x5))], [.inl (((((52 : Int32)) * (x4)) / (x1)) - (v11)), .inl (x2)], 0, 0, ix_mem 276 I11 J11 T11)) rfl trivial ?_
    refine ix_sp rfl ⟨rfl, trivial, ix_le rfl, Nat.le_refl _, Nat.le_refl _, tp_J9_abs_0f7a4 h11 (fun v12 I12 J12 T12 h12 => ?_)⟩
    change ix_W _ _ _ (69, [some (.inr (.inr (.inl (some (204))))), some (.inl (x1)), some (.inl (x2)), some (.inl (x3)), some (.inl (x4)), some (.inl (x5))], [.inl (v12), .inl (x2)], 0, 0, ix_mem 276 I12 J12 T12)
    refine ix_go 4 (x' := (4, [some (.inr (.inr (.inl (some (204))))), some (.inl (x1)), some (.inl ((x2) + (v12))), some (.inl (x3 + (1 : Int32))), some (.inl (x4)), some (.inl (x5))], [], 0, 0, ix_mem 276 I12 J12 T12)) rfl trivial ?_
    refine ix_subW ([some (.inr (.inr (.inl (some (204))))), some (.inl (x1)), some (.inl ((x2) + (v12))), some (.inl (x3 + (1 : Int32))), none, none]) (ix_subS (ix_subS (ix_subS (ix_subS (ix_subN (ix_subN (ix_sub0))))))) ?_
    exact hV4 _ _ _ _ _ _ h12
def wb_X12_farOff_4 (x1 : Int32) (x2 : Int32) (x3 : Int32) (I : Nat → Nat → Int32) (J : Nat → Nat → Int64) (T : Option Nat) (V4 : Int32 → Int32 → Int32 → (Nat → Nat → Int32) → (Nat → Nat → Int64) → Option Nat → Prop) (P : Int32 → (Nat → Nat → Int32) → (Nat → Nat → Int64) → Option Nat → Prop) : Prop := ((x3 < I 204 65 → wl_X12_farOff_18_4 (x1) (x2) (x3) ((0 : Int32)) ((0 : Int32)) I J T V4 P) ∧ (¬ (x3 < I 204 65) → P (x2) I J T))
def wl_X12_farOff_4 (x1 : Int32) (x2 : Int32) (x3 : Int32) (I : Nat → Nat → Int32) (J : Nat → Nat → Int64) (T : Option Nat) (P : Int32 → (Nat → Nat → Int32) → (Nat → Nat → Int64) → Option Nat → Prop) : Prop := ∀ V : Int32 → Int32 → Int32 → (Nat → Nat → Int32) → (Nat → Nat → Int64) → Option Nat → Prop, (∀ (x1 : Int32) (x2 : Int32) (x3 : Int32) (I : Nat → Nat → Int32) (J : Nat → Nat → Int64) (T : Option Nat), wb_X12_farOff_4 x1 x2 x3 I J T V P → V x1 x2 x3 I J T) → V x1 x2 x3 I J T
set_option maxRecDepth 20000 in
theorem tl_X12_farOff_4 {d : Nat} {x1 : Int32} {x2 : Int32} {x3 : Int32} {I : Nat → Nat → Int32} {J : Nat → Nat → Int64} {T : Option Nat} {P : Int32 → (Nat → Nat → Int32) → (Nat → Nat → Int64) → Option Nat → Prop} {Q : ix_Q} (h : wl_X12_farOff_4 x1 x2 x3 I J T P) (hQ : ∀ v I J T, P v I J T → Q (some (.inl v)) (ix_mem 276 I J T)) : ix_W (ix_C (d + 1)) (12, ix_lk ix_l312, (some .int), 0, 0, Nat.blt 0 0, none) Q (4, [some (.inr (.inr (.inl (some (204))))), some (.inl (x1)), some (.inl (x2)), some (.inl (x3)), none, none], [], 0, 0, ix_mem 276 I J T) := by
  refine h (fun x1 x2 x3 I J T => ix_W (ix_C (d + 1)) (12, ix_lk ix_l312, (some .int), 0, 0, Nat.blt 0 0, none) Q (4, [some (.inr (.inr (.inl (some (204))))), some (.inl (x1)), some (.inl (x2)), some (.inl (x3)), none, none], [], 0, 0, ix_mem 276 I J T)) ?_
  intro x1 x2 x3 I J T hb
  unfold wb_X12_farOff_4 at hb
  refine ix_go 4 (x' := (if x3 < I 204 65 then 12 else 77, [some (.inr (.inr (.inl (some (204))))), some (.inl (x1)), some (.inl (x2)), some (.inl (x3)), none, none], [], 0, 0, ix_mem 276 I J T)) rfl ⟨rfl, rfl⟩ ?_
  refine ix_br (fun c1 => ?_) (fun c1 => ?_)
  · have h2 := hb.1 c1
    refine ix_go 4 (x' := (18, [some (.inr (.inr (.inl (some (204))))), some (.inl (x1)), some (.inl (x2)), some (.inl (x3)), some (.inl ((0 : Int32))), some (.inl ((0 : Int32)))], [], 0, 0, ix_mem 276 I J T)) rfl trivial ?_
    refine ix_subW ([some (.inr (.inr (.inl (some (204))))), some (.inl (x1)), some (.inl (x2)), some (.inl (x3)), some (.inl ((0 : Int32))), some (.inl ((0 : Int32)))]) (ix_subS (ix_subS (ix_subS (ix_subS (ix_subS (ix_subS (ix_sub0))))))) ?_
    exact tl_X12_farOff_18_4 h2 (fun _ _ _ I J T hv => hv) hQ
  · have h2 := hb.2 c1
    refine ix_go 1 (x' := (78, [some (.inr (.inr (.inl (some (204))))), some (.inl (x1)), some (.inl (x2)), some (.inl (x3)), none, none], [.inl (x2)], 0, 0, ix_mem 276 I J T)) rfl trivial ?_
    exact ix_sp rfl ⟨Nat.le_refl _, Nat.le_refl _, trivial, hQ _ _ _ _ h2⟩
def wp_X12_farOff (a0 : Int32) (I : Nat → Nat → Int32) (J : Nat → Nat → Int64) (T : Option Nat) (P : Int32 → (Nat → Nat → Int32) → (Nat → Nat → Int64) → Option Nat → Prop) : Prop := wl_X12_farOff_4 (a0) ((0 : Int32)) ((0 : Int32)) I J T P
set_option maxRecDepth 20000 in
theorem tp_X12_farOff {d : Nat} {a0 : Int32} {I : Nat → Nat → Int32} {J : Nat → Nat → Int64} {T : Option Nat} {P : Int32 → (Nat → Nat → Int32) → (Nat → Nat → Int64) → Option Nat → Prop} {Q : ix_Q} (h : wp_X12_farOff a0 I J T P) (hQ : ∀ v I J T, P v I J T → Q (some (.inl v)) (ix_mem 276 I J T)) : ix_C (d + 2) 312 [.inr (.inr (.inl (some (204)))), .inl (a0)] (ix_mem 276 I J T) Q := by
  unfold wp_X12_farOff at h
  refine ix_enter (ls := [some (.inr (.inr (.inl (some (204))))), some (.inl (a0)), none, none, none, none]) rfl rfl rfl (Nat.le_of_ble_eq_true rfl) ?_
  refine ix_go 4 (x' := (4, [some (.inr (.inr (.inl (some (204))))), some (.inl (a0)), some (.inl ((0 : Int32))), some (.inl ((0 : Int32))), none, none], [], 0, 0, ix_mem 276 I J T)) rfl trivial ?_
  refine ix_subW ([some (.inr (.inr (.inl (some (204))))), some (.inl (a0)), some (.inl ((0 : Int32))), some (.inl ((0 : Int32))), none, none]) (ix_subS (ix_subS (ix_subS (ix_subS (ix_subS (ix_subS (ix_sub0))))))) ?_
  exact tl_X12_farOff_4 h hQ
def wb_X12_telling_137_20_40_71 (x1 : Int32) (x2 : Int32) (x3 : Int32) (x4 : Int32) (x5 : Int32) (x7 : Int32) (I : Nat → Nat → Int32) (J : Nat → Nat → Int64) (T : Option Nat) (V137 : Int32 → Int32 → Int32 → Int32 → Int32 → Int32 → (Nat → Nat → Int32) → (Nat → Nat → Int64) → Option Nat → Prop) (V20 : Int32 → Int32 → Int32 → (Nat → Nat → Int32) → (Nat → Nat → Int64) → Option Nat → Prop) (V40 : Int32 → Int32 → Int32 → Int32 → (Nat → Nat → Int32) → (Nat → Nat → Int64) → Option Nat → Prop) (V71 : Int32 → Int32 → Int32 → Int32 → Int32 → (Nat → Nat → Int32) → (Nat → Nat → Int64) → Option Nat → Prop) (P : Int32 → (Nat → Nat → Int32) → (Nat → Nat → Int64) → Option Nat → Prop) : Prop := ((x7 < (3 : Int32) → ix_inb (x7) 3 = true ∧ ix_inb (x7) 3 = true ∧ V137 (x1) (x2) (x3) (x4) (x5) (x7 + (1 : Int32)) (ix_u2 I 253 (x7).toNatClampNeg (I 254 (x7).toNatClampNeg)) J T) ∧ (¬ (x7 < (3 : Int32)) → V71 (x1) (x2) (x3) (x4) (x5 + (1 : Int32)) I J T))
def wl_X12_telling_137_20_40_71 (x1 : Int32) (x2 : Int32) (x3 : Int32) (x4 : Int32) (x5 : Int32) (x7 : Int32) (I : Nat → Nat → Int32) (J : Nat → Nat → Int64) (T : Option Nat) (V20 : Int32 → Int32 → Int32 → (Nat → Nat → Int32) → (Nat → Nat → Int64) → Option Nat → Prop) (V40 : Int32 → Int32 → Int32 → Int32 → (Nat → Nat → Int32) → (Nat → Nat → Int64) → Option Nat → Prop) (V71 : Int32 → Int32 → Int32 → Int32 → Int32 → (Nat → Nat → Int32) → (Nat → Nat → Int64) → Option Nat → Prop) (P : Int32 → (Nat → Nat → Int32) → (Nat → Nat → Int64) → Option Nat → Prop) : Prop := ∀ V : Int32 → Int32 → Int32 → Int32 → Int32 → Int32 → (Nat → Nat → Int32) → (Nat → Nat → Int64) → Option Nat → Prop, (∀ (x1 : Int32) (x2 : Int32) (x3 : Int32) (x4 : Int32) (x5 : Int32) (x7 : Int32) (I : Nat → Nat → Int32) (J : Nat → Nat → Int64) (T : Option Nat), wb_X12_telling_137_20_40_71 x1 x2 x3 x4 x5 x7 I J T V V20 V40 V71 P → V x1 x2 x3 x4 x5 x7 I J T) → V x1 x2 x3 x4 x5 x7 I J T
set_option maxRecDepth 20000 in
theorem tl_X12_telling_137_20_40_71 {d : Nat} {x1 : Int32} {x2 : Int32} {x3 : Int32} {x4 : Int32} {x5 : Int32} {x7 : Int32} {I : Nat → Nat → Int32} {J : Nat → Nat → Int64} {T : Option Nat} {V20 : Int32 → Int32 → Int32 → (Nat → Nat → Int32) → (Nat → Nat → Int64) → Option Nat → Prop} {V40 : Int32 → Int32 → Int32 → Int32 → (Nat → Nat → Int32) → (Nat → Nat → Int64) → Option Nat → Prop} {V71 : Int32 → Int32 → Int32 → Int32 → Int32 → (Nat → Nat → Int32) → (Nat → Nat → Int64) → Option Nat → Prop} {P : Int32 → (Nat → Nat → Int32) → (Nat → Nat → Int64) → Option Nat → Prop} {Q : ix_Q} (h : wl_X12_telling_137_20_40_71 x1 x2 x3 x4 x5 x7 I J T V20 V40 V71 P) (hV20 : ∀ (x1 : Int32) (x2 : Int32) (x3 : Int32) I J T, V20 x1 x2 x3 I J T → ix_W (ix_C d) (12, ix_lk ix_l313, (some .int), 0, 0, Nat.blt 0 0, none) Q (20, [some (.inr (.inr (.inl (some (204))))), some (.inl (x1)), some (.inl (x2)), some (.inl (x3)), none, none, none, none], [], 0, 0, ix_mem 276 I J T)) (hV40 : ∀ (x1 : Int32) (x2 : Int32) (x3 : Int32) (x4 : Int32) I J T, V40 x1 x2 x3 x4 I J T → ix_W (ix_C d) (12, ix_lk ix_l313, (some .int), 0, 0, Nat.blt 0 0, none) Q (40, [some (.inr (.inr (.inl (some (204))))), some (.inl (x1)), some (.inl (x2)), some (.inl (x3)), some (.inl (x4)), none, none, none], [], 0, 0, ix_mem 276 I J T)) (hV71 : ∀ (x1 : Int32) (x2 : Int32) (x3 : Int32) (x4 : Int32) (x5 : Int32) I J T, V71 x1 x2 x3 x4 x5 I J T → ix_W (ix_C d) (12, ix_lk ix_l313, (some .int), 0, 0, Nat.blt 0 0, none) Q (71, [some (.inr (.inr (.inl (some (204))))), some (.inl (x1)), some (.inl (x2)), some (.inl (x3)), some (.inl (x4)), some (.inl (x5)), none, none], [], 0, 0, ix_mem 276 I J T)) (hQ : ∀ v I J T, P v I J T → Q (some (.inl v)) (ix_mem 276 I J T)) : ix_W (ix_C d) (12, ix_lk ix_l313, (some .int), 0, 0, Nat.blt 0 0, none) Q (137, [some (.inr (.inr (.inl (some (204))))), some (.inl (x1)), some (.inl (x2)), some (.inl (x3)), some (.inl (x4)), some (.inl (x5)), none, some (.inl (x7))], [], 0, 0, ix_mem 276 I J T) := by
  refine h (fun x1 x2 x3 x4 x5 x7 I J T => ix_W (ix_C d) (12, ix_lk ix_l313, (some .int), 0, 0, Nat.blt 0 0, none) Q (137, [some (.inr (.inr (.inl (some (204))))), some (.inl (x1)), some (.inl (x2)), some (.inl (x3)), some (.inl (x4)), some (.inl (x5)), none, some (.inl (x7))], [], 0, 0, ix_mem 276 I J T)) ?_
  intro x1 x2 x3 x4 x5 x7 I J T hb
  unfold wb_X12_telling_137_20_40_71 at hb
  refine ix_go 3 (x' := (if x7 < (3 : Int32) then 143 else 163, [some (.inr (.inr (.inl (some (204))))), some (.inl (x1)), some (.inl (x2)), some (.inl (x3)), some (.inl (x4)), some (.inl (x5)), none, some (.inl (x7))], [], 0, 0, ix_mem 276 I J T)) rfl trivial ?_
  refine ix_br (fun c23 => ?_) (fun c23 => ?_)
  · have h24 := hb.1 c23
    obtain ⟨p25, h26⟩ := h24
    refine ix_go 7 (x' := (156, [some (.inr (.inr (.inl (some (204))))), some (.inl (x1)), some (.inl (x2)), some (.inl (x3)), some (.inl (x4)), some (.inl (x5)), none, some (.inl (x7))], [.inl (I 254 (x7).toNatClampNeg), .inl (x7), .inr (.inr (.inl (some (253))))], 0, 0, ix_mem 276 I J T)) rfl ⟨rfl, rfl, rfl, rfl, rfl, rfl, p25⟩ ?_
    obtain ⟨p27, h28⟩ := h26
    refine ix_go 3 (x' := (137, [some (.inr (.inr (.inl (some (204))))), some (.inl (x1)), some (.inl (x2)), some (.inl (x3)), some (.inl (x4)), some (.inl (x5)), none, some (.inl (x7 + (1 : Int32)))], [], 0, 0, ix_mem 276 (ix_u2 I 253 (x7).toNatClampNeg (I 254 (x7).toNatClampNeg)) J T)) rfl ⟨rfl, rfl, p27⟩ ?_
    refine ix_subW ([some (.inr (.inr (.inl (some (204))))), some (.inl (x1)), some (.inl (x2)), some (.inl (x3)), some (.inl (x4)), some (.inl (x5)), none, some (.inl (x7 + (1 : Int32)))]) (ix_subS (ix_subS (ix_subS (ix_subS (ix_subS (ix_subS (ix_subS (ix_subS (ix_sub0))))))))) ?_
    exact h28
  · have h24 := hb.2 c23
    refine ix_go 2 (x' := (71, [some (.inr (.inr (.inl (some (204))))), some (.inl (x1)), some (.inl (x2)), some (.inl (x3)), some (.inl (x4)), some (.inl (x5 + (1 : Int32))), none, some (.inl (x7))], [], 0, 0, ix_mem 276 I J T)) rfl trivial ?_
    refine ix_subW ([some (.inr (.inr (.inl (some (204))))), some (.inl (x1)), some (.inl (x2)), some (.inl (x3)), some (.inl (x4)), some (.inl (x5 + (1 : Int32))), none, none]) (ix_subS (ix_subS (ix_subS (ix_subS (ix_subS (ix_subS (ix_subS (ix_subN (ix_sub0))))))))) ?_
    exact hV71 _ _ _ _ _ _ _ _ h24
def wb_X12_telling_71_20_40 (x1 : Int32) (x2 : Int32) (x3 : Int32) (x4 : Int32) (x5 : Int32) (I : Nat → Nat → Int32) (J : Nat → Nat → Int64) (T : Option Nat) (V71 : Int32 → Int32 → Int32 → Int32 → Int32 → (Nat → Nat → Int32) → (Nat → Nat → Int64) → Option Nat → Prop) (V20 : Int32 → Int32 → Int32 → (Nat → Nat → Int32) → (Nat → Nat → Int64) → Option Nat → Prop) (V40 : Int32 → Int32 → Int32 → Int32 → (Nat → Nat → Int32) → (Nat → Nat → Int64) → Option Nat → Prop) (P : Int32 → (Nat → Nat → Int32) → (Nat → Nat → Int64) → Option Nat → Prop) : Prop := ((x1 < (3 : Int32) → ((x5 < (1 : Int32) → wp_X12_farOff (x1) (ix_u2 (ix_u2 (ix_u2 I 254 ((0 : Int32)).toNatClampNeg (x3)) 254 ((1 : Int32)).toNatClampNeg (x4)) 254 ((2 : Int32)).toNatClampNeg (x5)) J T (fun v20 I20 J20 T20 => ((x2 = (-1 : Int32) → wl_X12_telling_137_20_40_71 (x1) (v20) (x3) (x4) (x5) ((0 : Int32)) I20 J20 T20 V20 V40 V71 P) ∧ (¬ (x2 = (-1 : Int32)) → ((v20 < x2 → wl_X12_telling_137_20_40_71 (x1) (v20) (x3) (x4) (x5) ((0 : Int32)) I20 J20 T20 V20 V40 V71 P) ∧ (¬ (v20 < x2) → V71 (x1) (x2) (x3) (x4) (x5 + (1 : Int32)) I20 J20 T20)))))) ∧ (¬ (x5 < (1 : Int32)) → V40 (x1) (x2) (x3) (x4 + (1 : Int32)) I J T))) ∧ (¬ (x1 < (3 : Int32)) → ((x5 < (52 : Int32) → wp_X12_farOff (x1) (ix_u2 (ix_u2 (ix_u2 I 254 ((0 : Int32)).toNatClampNeg (x3)) 254 ((1 : Int32)).toNatClampNeg (x4)) 254 ((2 : Int32)).toNatClampNeg (x5)) J T (fun v33 I33 J33 T33 => ((x2 = (-1 : Int32) → wl_X12_telling_137_20_40_71 (x1) (v33) (x3) (x4) (x5) ((0 : Int32)) I33 J33 T33 V20 V40 V71 P) ∧ (¬ (x2 = (-1 : Int32)) → ((v33 < x2 → wl_X12_telling_137_20_40_71 (x1) (v33) (x3) (x4) (x5) ((0 : Int32)) I33 J33 T33 V20 V40 V71 P) ∧ (¬ (v33 < x2) → V71 (x1) (x2) (x3) (x4) (x5 + (1 : Int32)) I33 J33 T33)))))) ∧ (¬ (x5 < (52 : Int32)) → V40 (x1) (x2) (x3) (x4 + (1 : Int32)) I J T))))
def wl_X12_telling_71_20_40 (x1 : Int32) (x2 : Int32) (x3 : Int32) (x4 : Int32) (x5 : Int32) (I : Nat → Nat → Int32) (J : Nat → Nat → Int64) (T : Option Nat) (V20 : Int32 → Int32 → Int32 → (Nat → Nat → Int32) → (Nat → Nat → Int64) → Option Nat → Prop) (V40 : Int32 → Int32 → Int32 → Int32 → (Nat → Nat → Int32) → (Nat → Nat → Int64) → Option Nat → Prop) (P : Int32 → (Nat → Nat → Int32) → (Nat → Nat → Int64) → Option Nat → Prop) : Prop := ∀ V : Int32 → Int32 → Int32 → Int32 → Int32 → (Nat → Nat → Int32) → (Nat → Nat → Int64) → Option Nat → Prop, (∀ (x1 : Int32) (x2 : Int32) (x3 : Int32) (x4 : Int32) (x5 : Int32) (I : Nat → Nat → Int32) (J : Nat → Nat → Int64) (T : Option Nat), wb_X12_telling_71_20_40 x1 x2 x3 x4 x5 I J T V V20 V40 P → V x1 x2 x3 x4 x5 I J T) → V x1 x2 x3 x4 x5 I J T
set_option maxRecDepth 20000 in
theorem tl_X12_telling_71_20_40 {d : Nat} {x1 : Int32} {x2 : Int32} {x3 : Int32} {x4 : Int32} {x5 : Int32} {I : Nat → Nat → Int32} {J : Nat → Nat → Int64} {T : Option Nat} {V20 : Int32 → Int32 → Int32 → (Nat → Nat → Int32) → (Nat → Nat → Int64) → Option Nat → Prop} {V40 : Int32 → Int32 → Int32 → Int32 → (Nat → Nat → Int32) → (Nat → Nat → Int64) → Option Nat → Prop} {P : Int32 → (Nat → Nat → Int32) → (Nat → Nat → Int64) → Option Nat → Prop} {Q : ix_Q} (h : wl_X12_telling_71_20_40 x1 x2 x3 x4 x5 I J T V20 V40 P) (hV20 : ∀ (x1 : Int32) (x2 : Int32) (x3 : Int32) I J T, V20 x1 x2 x3 I J T → ix_W (ix_C (d + 2)) (12, ix_lk ix_l313, (some .int), 0, 0, Nat.blt 0 0, none) Q (20, [some (.inr (.inr (.inl (some (204))))), some (.inl (x1)), some (.inl (x2)), some (.inl (x3)), none, none, none, none], [], 0, 0, ix_mem 276 I J T)) (hV40 : ∀ (x1 : Int32) (x2 : Int32) (x3 : Int32) (x4 : Int32) I J T, V40 x1 x2 x3 x4 I J T → ix_W (ix_C (d + 2)) (12, ix_lk ix_l313, (some .int), 0, 0, Nat.blt 0 0, none) Q (40, [some (.inr (.inr (.inl (some (204))))), some (.inl (x1)), some (.inl (x2)), some (.inl (x3)), some (.inl (x4)), none, none, none], [], 0, 0, ix_mem 276 I J T)) (hQ : ∀ v I J T, P v I J T → Q (some (.inl v)) (ix_mem 276 I J T)) : ix_W (ix_C (d + 2)) (12, ix_lk ix_l313, (some .int), 0, 0, Nat.blt 0 0, none) Q (71, [some (.inr (.inr (.inl (some (204))))), some (.inl (x1)), some (.inl (x2)), some (.inl (x3)), some (.inl (x4)), some (.inl (x5)), none, none], [], 0, 0, ix_mem 276 I J T) := by
  refine h (fun x1 x2 x3 x4 x5 I J T => ix_W (ix_C (d + 2)) (12, ix_lk ix_l313, (some .int), 0, 0, Nat.blt 0 0, none) Q (71, [some (.inr (.inr (.inl (some (204))))), some (.inl (x1)), some (.inl (x2)), some (.inl (x3)), some (.inl (x4)), some (.inl (x5)), none, none], [], 0, 0, ix_mem 276 I J T)) ?_
  intro x1 x2 x3 x4 x5 I J T hb
  unfold wb_X12_telling_71_20_40 at hb
  refine ix_go 4 (x' := (if x1 < (3 : Int32) then 78 else 82, [some (.inr (.inr (.inl (some (204))))), some (.inl (x1)), some (.inl (x2)), some (.inl (x3)), some (.inl (x4)), some (.inl (x5)), none, none], [.inl (x5)], 0, 0, ix_mem 276 I J T)) rfl trivial ?_
  refine ix_br (fun c16 => ?_) (fun c16 => ?_)
  · have h17 := hb.1 c16
    refine ix_go 3 (x' := (if x5 < (1 : Int32) then 87 else 169, [some (.inr (.inr (.inl (some (204))))), some (.inl (x1)), some (.inl (x2)), some (.inl (x3)), some (.inl (x4)), some (.inl (x5)), none, none], [], 0, 0, ix_mem 276 I J T)) rfl trivial ?_
    refine ix_br (fun c18 => ?_) (fun c18 => ?_)
    · have h19 := h17.1 c18
      refine ix_go 7 (x' := (98, [some (.inr (.inr (.inl (some (204))))), some (.inl (x1)), some (.inl (x2)), some (.inl (x3)), some (.inl (x4)), some (.inl (x5)), none, none], [.inr (.inr (.inl (some (254))))], 0, 0, ix_mem 276 (ix_u2 I 254 ((0 : Int32)).toNatClampNeg (x3)) J T)) rfl ⟨rfl, rfl, rfl, rfl, rfl, rfl, rfl⟩ ?_
      refine ix_go 7 (x' := (109, [some (.inr (.inr (.inl (some (204))))), some (.inl (x1)), some (.inl (x2)), some (.inl (x3)), some (.inl (x4)), some (.inl (x5)), none, none], [.inl (x5), .inl ((2 : Int32)), .inr (.inr (.inl (some (254))))], 0, 0, ix_mem 276 (ix_u2 (ix_u2 I 254 ((0 : Int32)).toNatClampNeg (x3)) 254 ((1 : Int32)).toNatClampNeg (x4)) J T)) rfl ⟨rfl, rfl, rfl, rfl, rfl⟩ ?_
      refine ix_go 3 (x' := (112, [some (.inr (.inr (.inl (some (204))))), some (.inl (x1)), some (.inl (x2)), some (.inl (x3)), some (.inl (x4)), some (.inl (x5)), none, none], [.inl (x1), .inr (.inr (.inl (some (204))))], 0, 0, ix_mem 276 (ix_u2 (ix_u2 (ix_u2 I 254 ((0 : Int32)).toNatClampNeg (x3)) 254 ((1 : Int32)).toNatClampNeg (x4)) 254 ((2 : Int32)).toNatClampNeg (x5)) J T)) rfl ⟨rfl, rfl, rfl⟩ ?_
      refine ix_sp rfl ⟨rfl, ⟨ix_lt rfl, ix_eq rfl, ix_lt rfl⟩, ix_le rfl, Nat.le_refl _, Nat.le_refl _, tp_X12_farOff h19 (fun v20 I20 J20 T20 h20 => ?_)⟩
      change ix_W _ _ _ (115, [some (.inr (.inr (.inl (some (204))))), some (.inl (x1)), some (.inl (x2)), some (.inl (x3)), some (.inl (x4)), some (.inl (x5)), none, none], [.inl (v20)], 0, 0, ix_mem 276 I20 J20 T20)
      refine ix_go 4 (x' := (if x2 = (-1 : Int32) then 131 else 122, [some (.inr (.inr (.inl (some (204))))), some (.inl (x1)), some (.inl (x2)), some (.inl (x3)), some (.inl (x4)), some (.inl (x5)), some (.inl (v20)), none], [], 0, 0, ix_mem 276 I20 J20 T20)) rfl trivial ?_
      refine ix_br (fun c21 => ?_) (fun c21 => ?_)
      · have h22 := h20.1 c21
        refine ix_go 4 (x' := (137, [some (.inr (.inr (.inl (some (204))))), some (.inl (x1)), some (.inl (v20)), some (.inl (x3)), some (.inl (x4)), some (.inl (x5)), some (.inl (v20)), some (.inl ((0 : Int32)))], [], 0, 0, ix_mem 276 I20 J20 T20)) rfl trivial ?_
        refine ix_subW ([some (.inr (.inr (.inl (some (204))))), some (.inl (x1)), some (.inl (v20)), some (.inl (x3)), some (.inl (x4)), some (.inl (x5)), none, some (.inl ((0 : Int32)))]) (ix_subS (ix_subS (ix_subS (ix_subS (ix_subS (ix_subS (ix_subN (ix_subS (ix_sub0))))))))) ?_
        exact tl_X12_telling_137_20_40_71 h22 hV20 hV40 (fun _ _ _ _ _ I J T hv => hv) hQ
      · have h22 := h20.2 c21
        refine ix_go 3 (x' := (if v20 < x2 then 131 else 128, [some (.inr (.inr (.inl (some (204))))), some (.inl (x1)), some (.inl (x2)), some (.inl (x3)), some (.inl (x4)), some (.inl (x5)), some (.inl (v20)), none], [], 0, 0, ix_mem 276 I20 J20 T20)) rfl trivial ?_
        refine ix_br (fun c29 => ?_) (fun c29 => ?_)
        · have h30 := h22.1 c29
          refine ix_go 4 (x' := (137, [some (.inr (.inr (.inl (some (204))))), some (.inl (x1)), some (.inl (v20)), some (.inl (x3)), some (.inl (x4)), some (.inl (x5)), some (.inl (v20)), some (.inl ((0 : Int32)))], [], 0, 0, ix_mem 276 I20 J20 T20)) rfl trivial ?_
          refine ix_subW ([some (.inr (.inr (.inl (some (204))))), some (.inl (x1)), some (.inl (v20)), some (.inl (x3)), some (.inl (x4)), some (.inl (x5)), none, some (.inl ((0 : Int32)))]) (ix_subS (ix_subS (ix_subS (ix_subS (ix_subS (ix_subS (ix_subN (ix_subS (ix_sub0))))))))) ?_
          exact tl_X12_telling_137_20_40_71 h30 hV20 hV40 (fun _ _ _ _ _ I J T hv => hv) hQ
        · have h30 := h22.2 c29
          refine ix_go 3 (x' := (71, [some (.inr (.inr (.inl (some (204))))), some (.inl (x1)), some (.inl (x2)), some (.inl (x3)), some (.inl (x4)), some (.inl (x5 + (1 : Int32))), some (.inl (v20)), none], [], 0, 0, ix_mem 276 I20 J20 T20)) rfl trivial ?_
          refine ix_subW ([some (.inr (.inr (.inl (some (204))))), some (.inl (x1)), some (.inl (x2)), some (.inl (x3)), some (.inl (x4)), some (.inl (x5 + (1 : Int32))), none, none]) (ix_subS (ix_subS (ix_subS (ix_subS (ix_subS (ix_subS (ix_subN (ix_subS (ix_sub0))))))))) ?_
          exact h30
    · have h19 := h17.2 c18
      refine ix_go 2 (x' := (40, [some (.inr (.inr (.inl (some (204))))), some (.inl (x1)), some (.inl (x2)), some (.inl (x3)), some (.inl (x4 + (1 : Int32))), some (.inl (x5)), none, none], [], 0, 0, ix_mem 276 I J T)) rfl trivial ?_
      refine ix_subW ([some (.inr (.inr (.inl (some (204))))), some (.inl (x1)), some (.inl (x2)), some (.inl (x3)), some (.inl (x4 + (1 : Int32))), none, none, none]) (ix_subS (ix_subS (ix_subS (ix_subS (ix_subS (ix_subN (ix_subS (ix_subS (ix_sub0))))))))) ?_
      exact hV40 _ _ _ _ _ _ _ h19
  · have h17 := hb.2 c16
    refine ix_go 2 (x' := (if x5 < (52 : Int32) then 87 else 169, [some (.inr (.inr (.inl (some (204))))), some (.inl (x1)), some (.inl (x2)), some (.inl (x3)), some (.inl (x4)), some (.inl (x5)), none, none], [], 0, 0, ix_mem 276 I J T)) rfl trivial ?_
    refine ix_br (fun c31 => ?_) (fun c31 => ?_)
    · have h32 := h17.1 c31
      refine ix_go 7 (x' := (98, [some (.inr (.inr (.inl (some (204))))), some (.inl (x1)), some (.inl (x2)), some (.inl (x3)), some (.inl (x4)), some (.inl (x5)), none, none], [.inr (.inr (.inl (some (254))))], 0, 0, ix_mem 276 (ix_u2 I 254 ((0 : Int32)).toNatClampNeg (x3)) J T)) rfl ⟨rfl, rfl, rfl, rfl, rfl, rfl, rfl⟩ ?_
      refine ix_go 7 (x' := (109, [some (.inr (.inr (.inl (some (204))))), some (.inl (x1)), some (.inl (x2)), some (.inl (x3)), some (.inl (x4)), some (.inl (x5)), none, none], [.inl (x5), .inl ((2 : Int32)), .inr (.inr (.inl (some (254))))], 0, 0, ix_mem 276 (ix_u2 (ix_u2 I 254 ((0 : Int32)).toNatClampNeg (x3)) 254 ((1 : Int32)).toNatClampNeg (x4)) J T)) rfl ⟨rfl, rfl, rfl, rfl, rfl⟩ ?_
      refine ix_go 3 (x' := (112, [some (.inr (.inr (.inl (some (204))))), some (.inl (x1)), some (.inl (x2)), some (.inl (x3)), some (.inl (x4)), some (.inl (x5)), none, none], [.inl (x1), .inr (.inr (.inl (some (204))))], 0, 0, ix_mem 276 (ix_u2 (ix_u2 (ix_u2 I 254 ((0 : Int32)).toNatClampNeg (x3)) 254 ((1 : Int32)).toNatClampNeg (x4)) 254 ((2 : Int32)).toNatClampNeg (x5)) J T)) rfl ⟨rfl, rfl, rfl⟩ ?_
      refine ix_sp rfl ⟨rfl, ⟨ix_lt rfl, ix_eq rfl, ix_lt rfl⟩, ix_le rfl, Nat.le_refl _, Nat.le_refl _, tp_X12_farOff h32 (fun v33 I33 J33 T33 h33 => ?_)⟩
      change ix_W _ _ _ (115, [some (.inr (.inr (.inl (some (204))))), some (.inl (x1)), some (.inl (x2)), some (.inl (x3)), some (.inl (x4)), some (.inl (x5)), none, none], [.inl (v33)], 0, 0, ix_mem 276 I33 J33 T33)
      refine ix_go 4 (x' := (if x2 = (-1 : Int32) then 131 else 122, [some (.inr (.inr (.inl (some (204))))), some (.inl (x1)), some (.inl (x2)), some (.inl (x3)), some (.inl (x4)), some (.inl (x5)), some (.inl (v33)), none], [], 0, 0, ix_mem 276 I33 J33 T33)) rfl trivial ?_
      refine ix_br (fun c34 => ?_) (fun c34 => ?_)
      · have h35 := h33.1 c34
        refine ix_go 4 (x' := (137, [some (.inr (.inr (.inl (some (204))))), some (.inl (x1)), some (.inl (v33)), some (.inl (x3)), some (.inl (x4)), some (.inl (x5)), some (.inl (v33)), some (.inl ((0 : Int32)))], [], 0, 0, ix_mem 276 I33 J33 T33)) rfl trivial ?_
        refine ix_subW ([some (.inr (.inr (.inl (some (204))))), some (.inl (x1)), some (.inl (v33)), some (.inl (x3)), some (.inl (x4)), some (.inl (x5)), none, some (.inl ((0 : Int32)))]) (ix_subS (ix_subS (ix_subS (ix_subS (ix_subS (ix_subS (ix_subN (ix_subS (ix_sub0))))))))) ?_
        exact tl_X12_telling_137_20_40_71 h35 hV20 hV40 (fun _ _ _ _ _ I J T hv => hv) hQ
      · have h35 := h33.2 c34
        refine ix_go 3 (x' := (if v33 < x2 then 131 else 128, [some (.inr (.inr (.inl (some (204))))), some (.inl (x1)), some (.inl (x2)), some (.inl (x3)), some (.inl (x4)), some (.inl (x5)), some (.inl (v33)), none], [], 0, 0, ix_mem 276 I33 J33 T33)) rfl trivial ?_
        refine ix_br (fun c36 => ?_) (fun c36 => ?_)
        · have h37 := h35.1 c36
          refine ix_go 4 (x' := (137, [some (.inr (.inr (.inl (some (204))))), some (.inl (x1)), some (.inl (v33)), some (.inl (x3)), some (.inl (x4)), some (.inl (x5)), some (.inl (v33)), some (.inl ((0 : Int32)))], [], 0, 0, ix_mem 276 I33 J33 T33)) rfl trivial ?_
          refine ix_subW ([some (.inr (.inr (.inl (some (204))))), some (.inl (x1)), some (.inl (v33)), some (.inl (x3)), some (.inl (x4)), some (.inl (x5)), none, some (.inl ((0 : Int32)))]) (ix_subS (ix_subS (ix_subS (ix_subS (ix_subS (ix_subS (ix_subN (ix_subS (ix_sub0))))))))) ?_
          exact tl_X12_telling_137_20_40_71 h37 hV20 hV40 (fun _ _ _ _ _ I J T hv => hv) hQ
        · have h37 := h35.2 c36
          refine ix_go 3 (x' := (71, [some (.inr (.inr (.inl (some (204))))), some (.inl (x1)), some (.inl (x2)), some (.inl (x3)), some (.inl (x4)), some (.inl (x5 + (1 : Int32))), some (.inl (v33)), none], [], 0, 0, ix_mem 276 I33 J33 T33)) rfl trivial ?_
          refine ix_subW ([some (.inr (.inr (.inl (some (204))))), some (.inl (x1)), some (.inl (x2)), some (.inl (x3)), some (.inl (x4)), some (.inl (x5 + (1 : Int32))), none, none]) (ix_subS (ix_subS (ix_subS (ix_subS (ix_subS (ix_subS (ix_subN (ix_subS (ix_sub0))))))))) ?_
          exact h37
    · have h32 := h17.2 c31
      refine ix_go 2 (x' := (40, [some (.inr (.inr (.inl (some (204))))), some (.inl (x1)), some (.inl (x2)), some (.inl (x3)), some (.inl (x4 + (1 : Int32))), some (.inl (x5)), none, none], [], 0, 0, ix_mem 276 I J T)) rfl trivial ?_
      refine ix_subW ([some (.inr (.inr (.inl (some (204))))), some (.inl (x1)), some (.inl (x2)), some (.inl (x3)), some (.inl (x4 + (1 : Int32))), none, none, none]) (ix_subS (ix_subS (ix_subS (ix_subS (ix_subS (ix_subN (ix_subS (ix_subS (ix_sub0))))))))) ?_
      exact hV40 _ _ _ _ _ _ _ h32
def wb_X12_telling_40_20 (x1 : Int32) (x2 : Int32) (x3 : Int32) (x4 : Int32) (I : Nat → Nat → Int32) (J : Nat → Nat → Int64) (T : Option Nat) (V40 : Int32 → Int32 → Int32 → Int32 → (Nat → Nat → Int32) → (Nat → Nat → Int64) → Option Nat → Prop) (V20 : Int32 → Int32 → Int32 → (Nat → Nat → Int32) → (Nat → Nat → Int64) → Option Nat → Prop) (P : Int32 → (Nat → Nat → Int32) → (Nat → Nat → Int64) → Option Nat → Prop) : Prop := ((x1 < (2 : Int32) → ((x4 < (1 : Int32) → ((x1 < (3 : Int32) → wl_X12_telling_71_20_40 (x1) (x2) (x3) (x4) ((0 : Int32)) I J T V20 V40 P) ∧ (¬ (x1 < (3 : Int32)) → wl_X12_telling_71_20_40 (x1) (x2) (x3) (x4) ((x4) + ((1 : Int32))) I J T V20 V40 P))) ∧ (¬ (x4 < (1 : Int32)) → V20 (x1) (x2) (x3 + (1 : Int32)) I J T))) ∧ (¬ (x1 < (2 : Int32)) → ((x4 < (52 : Int32) → ((x1 < (3 : Int32) → wl_X12_telling_71_20_40 (x1) (x2) (x3) (x4) ((0 : Int32)) I J T V20 V40 P) ∧ (¬ (x1 < (3 : Int32)) → wl_X12_telling_71_20_40 (x1) (x2) (x3) (x4) ((x4) + ((1 : Int32))) I J T V20 V40 P))) ∧ (¬ (x4 < (52 : Int32)) → V20 (x1) (x2) (x3 + (1 : Int32)) I J T))))
def wl_X12_telling_40_20 (x1 : Int32) (x2 : Int32) (x3 : Int32) (x4 : Int32) (I : Nat → Nat → Int32) (J : Nat → Nat → Int64) (T : Option Nat) (V20 : Int32 → Int32 → Int32 → (Nat → Nat → Int32) → (Nat → Nat → Int64) → Option Nat → Prop) (P : Int32 → (Nat → Nat → Int32) → (Nat → Nat → Int64) → Option Nat → Prop) : Prop := ∀ V : Int32 → Int32 → Int32 → Int32 → (Nat → Nat → Int32) → (Nat → Nat → Int64) → Option Nat → Prop, (∀ (x1 : Int32) (x2 : Int32) (x3 : Int32) (x4 : Int32) (I : Nat → Nat → Int32) (J : Nat → Nat → Int64) (T : Option Nat), wb_X12_telling_40_20 x1 x2 x3 x4 I J T V V20 P → V x1 x2 x3 x4 I J T) → V x1 x2 x3 x4 I J T
set_option maxRecDepth 20000 in
theorem tl_X12_telling_40_20 {d : Nat} {x1 : Int32} {x2 : Int32} {x3 : Int32} {x4 : Int32} {I : Nat → Nat → Int32} {J : Nat → Nat → Int64} {T : Option Nat} {V20 : Int32 → Int32 → Int32 → (Nat → Nat → Int32) → (Nat → Nat → Int64) → Option Nat → Prop} {P : Int32 → (Nat → Nat → Int32) → (Nat → Nat → Int64) → Option Nat → Prop} {Q : ix_Q} (h : wl_X12_telling_40_20 x1 x2 x3 x4 I J T V20 P) (hV20 : ∀ (x1 : Int32) (x2 : Int32) (x3 : Int32) I J T, V20 x1 x2 x3 I J T → ix_W (ix_C (d + 2)) (12, ix_lk ix_l313, (some .int), 0, 0, Nat.blt 0 0, none) Q (20, [some (.inr (.inr (.inl (some (204))))), some (.inl (x1)), some (.inl (x2)), some (.inl (x3)), none, none, none, none], [], 0, 0, ix_mem 276 I J T)) (hQ : ∀ v I J T, P v I J T → Q (some (.inl v)) (ix_mem 276 I J T)) : ix_W (ix_C (d + 2)) (12, ix_lk ix_l313, (some .int), 0, 0, Nat.blt 0 0, none) Q (40, [some (.inr (.inr (.inl (some (204))))), some (.inl (x1)), some (.inl (x2)), some (.inl (x3)), some (.inl (x4)), none, none, none], [], 0, 0, ix_mem 276 I J T) := by
  refine h (fun x1 x2 x3 x4 I J T => ix_W (ix_C (d + 2)) (12, ix_lk ix_l313, (some .int), 0, 0, Nat.blt 0 0, none) Q (40, [some (.inr (.inr (.inl (some (204))))), some (.inl (x1)), some (.inl (x2)), some (.inl (x3)), some (.inl (x4)), none, none, none], [], 0, 0, ix_mem 276 I J T)) ?_
  intro x1 x2 x3 x4 I J T hb
  unfold wb_X12_telling_40_20 at hb
  refine ix_go 4 (x' := (if x1 < (2 : Int32) then 47 else 51, [some (.inr (.inr (.inl (some (204))))), some (.inl (x1)), some (.inl (x2)), some (.inl (x3)), some (.inl (x4)), none, none, none], [.inl (x4)], 0, 0, ix_mem 276 I J T)) rfl trivial ?_
  refine ix_br (fun c10 => ?_) (fun c10 => ?_)
  · have h11 := hb.1 c10
    refine ix_go 3 (x' := (if x4 < (1 : Int32) then 56 else 175, [some (.inr (.inr (.inl (some (204))))), some (.inl (x1)), some (.inl (x2)), some (.inl (x3)), some (.inl (x4)), none, none, none], [], 0, 0, ix_mem 276 I J T)) rfl trivial ?_
    refine ix_br (fun c12 => ?_) (fun c12 => ?_)
    · have h13 := h11.1 c12
      refine ix_go 3 (x' := (if x1 < (3 : Int32) then 61 else 65, [some (.inr (.inr (.inl (some (204))))), some (.inl (x1)), some (.inl (x2)), some (.inl (x3)), some (.inl (x4)), none, none, none], [], 0, 0, ix_mem 276 I J T)) rfl trivial ?_
      refine ix_br (fun c14 => ?_) (fun c14 => ?_)
      · have h15 := h13.1 c14
        refine ix_go 3 (x' := (71, [some (.inr (.inr (.inl (some (204))))), some (.inl (x1)), some (.inl (x2)), some (.inl (x3)), some (.inl (x4)), some (.inl ((0 : Int32))), none, none], [], 0, 0, ix_mem 276 I J T)) rfl trivial ?_
        refine ix_subW ([some (.inr (.inr (.inl (some (204))))), some (.inl (x1)), some (.inl (x2)), some (.inl (x3)), some (.inl (x4)), some (.inl ((0 : Int32))), none, none]) (ix_subS (ix_subS (ix_subS (ix_subS (ix_subS (ix_subS (ix_subS (ix_subS (ix_sub0))))))))) ?_
        exact tl_X12_telling_71_20_40 h15 hV20 (fun _ _ _ _ I J T hv => hv) hQ
      · have h15 := h13.2 c14
        refine ix_go 4 (x' := (71, [some (.inr (.inr (.inl (some (204))))), some (.inl (x1)), some (.inl (x2)), some (.inl (x3)), some (.inl (x4)), some (.inl ((x4) + ((1 : Int32)))), none, none], [], 0, 0, ix_mem 276 I J T)) rfl trivial ?_
        refine ix_subW ([some (.inr (.inr (.inl (some (204))))), some (.inl (x1)), some (.inl (x2)), some (.inl (x3)), some (.inl (x4)), some (.inl ((x4) + ((1 : Int32)))), none, none]) (ix_subS (ix_subS (ix_subS (ix_subS (ix_subS (ix_subS (ix_subS (ix_subS (ix_sub0))))))))) ?_
        exact tl_X12_telling_71_20_40 h15 hV20 (fun _ _ _ _ I J T hv => hv) hQ
    · have h13 := h11.2 c12
      refine ix_go 2 (x' := (20, [some (.inr (.inr (.inl (some (204))))), some (.inl (x1)), some (.inl (x2)), some (.inl (x3 + (1 : Int32))), some (.inl (x4)), none, none, none], [], 0, 0, ix_mem 276 I J T)) rfl trivial ?_
      refine ix_subW ([some (.inr (.inr (.inl (some (204))))), some (.inl (x1)), some (.inl (x2)), some (.inl (x3 + (1 : Int32))), none, none, none, none]) (ix_subS (ix_subS (ix_subS (ix_subS (ix_subN (ix_subS (ix_subS (ix_subS (ix_sub0))))))))) ?_
      exact hV20 _ _ _ _ _ _ h13
  · have h11 := hb.2 c10
    refine ix_go 2 (x' := (if x4 < (52 : Int32) then 56 else 175, [some (.inr (.inr (.inl (some (204))))), some (.inl (x1)), some (.inl (x2)), some (.inl (x3)), some (.inl (x4)), none, none, none], [], 0, 0, ix_mem 276 I J T)) rfl trivial ?_
    refine ix_br (fun c38 => ?_) (fun c38 => ?_)
    · have h39 := h11.1 c38
      refine ix_go 3 (x' := (if x1 < (3 : Int32) then 61 else 65, [some (.inr (.inr (.inl (some (204))))), some (.inl (x1)), some (.inl (x2)), some (.inl (x3)), some (.inl (x4)), none, none, none], [], 0, 0, ix_mem 276 I J T)) rfl trivial ?_
      refine ix_br (fun c40 => ?_) (fun c40 => ?_)
      · have h41 := h39.1 c40
        refine ix_go 3 (x' := (71, [some (.inr (.inr (.inl (some (204))))), some (.inl (x1)), some (.inl (x2)), some (.inl (x3)), some (.inl (x4)), some (.inl ((0 : Int32))), none, none], [], 0, 0, ix_mem 276 I J T)) rfl trivial ?_
        refine ix_subW ([some (.inr (.inr (.inl (some (204))))), some (.inl (x1)), some (.inl (x2)), some (.inl (x3)), some (.inl (x4)), some (.inl ((0 : Int32))), none, none]) (ix_subS (ix_subS (ix_subS (ix_subS (ix_subS (ix_subS (ix_subS (ix_subS (ix_sub0))))))))) ?_
        exact tl_X12_telling_71_20_40 h41 hV20 (fun _ _ _ _ I J T hv => hv) hQ
      · have h41 := h39.2 c40
        refine ix_go 4 (x' := (71, [some (.inr (.inr (.inl (some (204))))), some (.inl (x1)), some (.inl (x2)), some (.inl (x3)), some (.inl (x4)), some (.inl ((x4) + ((1 : Int32)))), none, none], [], 0, 0, ix_mem 276 I J T)) rfl trivial ?_
        refine ix_subW ([some (.inr (.inr (.inl (some (204))))), some (.inl (x1)), some (.inl (x2)), some (.inl (x3)), some (.inl (x4)), some (.inl ((x4) + ((1 : Int32)))), none, none]) (ix_subS (ix_subS (ix_subS (ix_subS (ix_subS (ix_subS (ix_subS (ix_subS (ix_sub0))))))))) ?_
        exact tl_X12_telling_71_20_40 h41 hV20 (fun _ _ _ _ I J T hv => hv) hQ
    · have h39 := h11.2 c38
      refine ix_go 2 (x' := (20, [some (.inr (.inr (.inl (some (204))))), some (.inl (x1)), some (.inl (x2)), some (.inl (x3 + (1 : Int32))), some (.inl (x4)), none, none, none], [], 0, 0, ix_mem 276 I J T)) rfl trivial ?_
      refine ix_subW ([some (.inr (.inr (.inl (some (204))))), some (.inl (x1)), some (.inl (x2)), some (.inl (x3 + (1 : Int32))), none, none, none, none]) (ix_subS (ix_subS (ix_subS (ix_subS (ix_subN (ix_subS (ix_subS (ix_subS (ix_sub0))))))))) ?_
      exact hV20 _ _ _ _ _ _ h39
def wb_X12_telling_20 (x1 : Int32) (x2 : Int32) (x3 : Int32) (I : Nat → Nat → Int32) (J : Nat → Nat → Int64) (T : Option Nat) (V20 : Int32 → Int32 → Int32 → (Nat → Nat → Int32) → (Nat → Nat → Int64) → Option Nat → Prop) (P : Int32 → (Nat → Nat → Int32) → (Nat → Nat → Int64) → Option Nat → Prop) : Prop := ((x3 < (52 : Int32) → ((x1 < (2 : Int32) → wl_X12_telling_40_20 (x1) (x2) (x3) ((0 : Int32)) I J T V20 P) ∧ (¬ (x1 < (2 : Int32)) → wl_X12_telling_40_20 (x1) (x2) (x3) ((x3) + ((1 : Int32))) I J T V20 P))) ∧ (¬ (x3 < (52 : Int32)) → wp_X12_gives (x2) (ix_u2 I 204 67 (x1)) J T (fun v42 I42 J42 T42 => P (v42) I42 J42 T42)))
def wl_X12_telling_20 (x1 : Int32) (x2 : Int32) (x3 : Int32) (I : Nat → Nat → Int32) (J : Nat → Nat → Int64) (T : Option Nat) (P : Int32 → (Nat → Nat → Int32) → (Nat → Nat → Int64) → Option Nat → Prop) : Prop := ∀ V : Int32 → Int32 → Int32 → (Nat → Nat → Int32) → (Nat → Nat → Int64) → Option Nat → Prop, (∀ (x1 : Int32) (x2 : Int32) (x3 : Int32) (I : Nat → Nat → Int32) (J : Nat → Nat → Int64) (T : Option Nat), wb_X12_telling_20 x1 x2 x3 I J T V P → V x1 x2 x3 I J T) → V x1 x2 x3 I J T
set_option maxRecDepth 20000 in
theorem tl_X12_telling_20 {d : Nat} {x1 : Int32} {x2 : Int32} {x3 : Int32} {I : Nat → Nat → Int32} {J : Nat → Nat → Int64} {T : Option Nat} {P : Int32 → (Nat → Nat → Int32) → (Nat → Nat → Int64) → Option Nat → Prop} {Q : ix_Q} (h : wl_X12_telling_20 x1 x2 x3 I J T P) (hQ : ∀ v I J T, P v I J T → Q (some (.inl v)) (ix_mem 276 I J T)) : ix_W (ix_C (d + 2)) (12, ix_lk ix_l313, (some .int), 0, 0, Nat.blt 0 0, none) Q (20, [some (.inr (.inr (.inl (some (204))))), some (.inl (x1)), some (.inl (x2)), some (.inl (x3)), none, none, none, none], [], 0, 0, ix_mem 276 I J T) := by
  refine h (fun x1 x2 x3 I J T => ix_W (ix_C (d + 2)) (12, ix_lk ix_l313, (some .int), 0, 0, Nat.blt 0 0, none) Q (20, [some (.inr (.inr (.inl (some (204))))), some (.inl (x1)), some (.inl (x2)), some (.inl (x3)), none, none, none, none], [], 0, 0, ix_mem 276 I J T)) ?_
  intro x1 x2 x3 I J T hb
  unfold wb_X12_telling_20 at hb
  refine ix_go 3 (x' := (if x3 < (52 : Int32) then 26 else 181, [some (.inr (.inr (.inl (some (204))))), some (.inl (x1)), some (.inl (x2)), some (.inl (x3)), none, none, none, none], [], 0, 0, ix_mem 276 I J T)) rfl trivial ?_
  refine ix_br (fun c6 => ?_) (fun c6 => ?_)
  · have h7 := hb.1 c6
    refine ix_go 3 (x' := (if x1 < (2 : Int32) then 31 else 35, [some (.inr (.inr (.inl (some (204))))), some (.inl (x1)), some (.inl (x2)), some (.inl (x3)), none, none, none, none], [], 0, 0, ix_mem 276 I J T)) rfl trivial ?_
    refine ix_br (fun c8 => ?_) (fun c8 => ?_)
    · have h9 := h7.1 c8
      refine ix_go 3 (x' := (40, [some (.inr (.inr (.inl (some (204))))), some (.inl (x1)), some (.inl (x2)), some (.inl (x3)), some (.inl ((0 : Int32))), none, none, none], [], 0, 0, ix_mem 276 I J T)) rfl trivial ?_
      refine ix_subW ([some (.inr (.inr (.inl (some (204))))), some (.inl (x1)), some (.inl (x2)), some (.inl (x3)), some (.inl ((0 : Int32))), none, none, none]) (ix_subS (ix_subS (ix_subS (ix_subS (ix_subS (ix_subS (ix_subS (ix_subS (ix_sub0))))))))) ?_
      exact tl_X12_telling_40_20 h9 (fun _ _ _ I J T hv => hv) hQ
    · have h9 := h7.2 c8
      refine ix_go 4 (x' := (40, [some (.inr (.inr (.inl (some (204))))), some (.inl (x1)), some (.inl (x2)), some (.inl (x3)), some (.inl ((x3) + ((1 : Int32)))), none, none, none], [], 0, 0, ix_mem 276 I J T)) rfl trivial ?_
      refine ix_subW ([some (.inr (.inr (.inl (some (204))))), some (.inl (x1)), some (.inl (x2)), some (.inl (x3)), some (.inl ((x3) + ((1 : Int32)))), none, none, none]) (ix_subS (ix_subS (ix_subS (ix_subS (ix_subS (ix_subS (ix_subS (ix_subS (ix_sub0))))))))) ?_
      exact tl_X12_telling_40_20 h9 (fun _ _ _ I J T hv => hv) hQ
  · have h7 := hb.2 c6
    refine ix_go 5 (x' := (188, [some (.inr (.inr (.inl (some (204))))), some (.inl (x1)), some (.inl (x2)), some (.inl (x3)), none, none, none, none], [.inl (x2), .inr (.inr (.inl (some (204))))], 0, 0, ix_mem 276 (ix_u2 I 204 67 (x1)) J T)) rfl ⟨rfl, rfl⟩ ?_
    refine ix_sp rfl ⟨rfl, ⟨ix_lt rfl, ix_eq rfl, ix_lt rfl⟩, ix_le rfl, Nat.le_refl _, Nat.le_refl _, tp_X12_gives h7 (fun v42 I42 J42 T42 h42 => ?_)⟩
    change ix_W _ _ _ (191, [some (.inr (.inr (.inl (some (204))))), some (.inl (x1)), some (.inl (x2)), some (.inl (x3)), none, none, none, none], [.inl (v42)], 0, 0, ix_mem 276 I42 J42 T42)
    exact ix_sp rfl ⟨Nat.le_refl _, Nat.le_refl _, trivial, hQ _ _ _ _ h42⟩
def wp_X12_telling (a0 : Int32) (I : Nat → Nat → Int32) (J : Nat → Nat → Int64) (T : Option Nat) (P : Int32 → (Nat → Nat → Int32) → (Nat → Nat → Int64) → Option Nat → Prop) : Prop := ((a0 < (1 : Int32) → wp_X12_refuse ((1 : Int32)) I J T (fun v3 I3 J3 T3 => P (v3) I3 J3 T3)) ∧ (¬ (a0 < (1 : Int32)) → ((a0 ≤ (3 : Int32) → wl_X12_telling_20 (a0) ((-1 : Int32)) ((0 : Int32)) I J T P) ∧ (¬ (a0 ≤ (3 : Int32)) → wp_X12_refuse ((1 : Int32)) I J T (fun v43 I43 J43 T43 => P (v43) I43 J43 T43)))))
set_option maxRecDepth 20000 in
theorem tp_X12_telling {d : Nat} {a0 : Int32} {I : Nat → Nat → Int32} {J : Nat → Nat → Int64} {T : Option Nat} {P : Int32 → (Nat → Nat → Int32) → (Nat → Nat → Int64) → Option Nat → Prop} {Q : ix_Q} (h : wp_X12_telling a0 I J T P) (hQ : ∀ v I J T, P v I J T → Q (some (.inl v)) (ix_mem 276 I J T)) : ix_C (d + 3) 313 [.inr (.inr (.inl (some (204)))), .inl (a0)] (ix_mem 276 I J T) Q := by
  unfold wp_X12_telling at h
  refine ix_enter (ls := [some (.inr (.inr (.inl (some (204))))), some (.inl (a0)), none, none, none, none, none, none]) rfl rfl rfl (Nat.le_of_ble_eq_true rfl) ?_
  refine ix_go 3 (x' := (if a0 < (1 : Int32) then 10 else 5, [some (.inr (.inr (.inl (some (204))))), some (.inl (a0)), none, none, none, none, none, none], [], 0, 0, ix_mem 276 I J T)) rfl trivial ?_
  refine ix_br (fun c1 => ?_) (fun c1 => ?_)
  · have h2 := h.1 c1
    refine ix_go 2 (x' := (12, [some (.inr (.inr (.inl (some (204))))), some (.inl (a0)), none, none, none, none, none, none], [.inl ((1 : Int32)), .inr (.inr (.inl (some (204))))], 0, 0, ix_mem 276 I J T)) rfl trivial ?_
    refine ix_sp rfl ⟨rfl, ⟨ix_lt rfl, ix_eq rfl, ix_lt rfl⟩, ix_le rfl, Nat.le_refl _, Nat.le_refl _, tp_X12_refuse h2 (fun v3 I3 J3 T3 h3 => ?_)⟩
    change ix_W _ _ _ (15, [some (.inr (.inr (.inl (some (204))))), some (.inl (a0)), none, none, none, none, none, none], [.inl (v3)], 0, 0, ix_mem 276 I3 J3 T3)
    exact ix_sp rfl ⟨Nat.le_refl _, Nat.le_refl _, trivial, hQ _ _ _ _ h3⟩
  · have h2 := h.2 c1
    refine ix_go 3 (x' := (if a0 ≤ (3 : Int32) then 16 else 10, [some (.inr (.inr (.inl (some (204))))), some (.inl (a0)), none, none, none, none, none, none], [], 0, 0, ix_mem 276 I J T)) rfl trivial ?_
    refine ix_br (fun c4 => ?_) (fun c4 => ?_)
    · have h5 := h2.1 c4
      refine ix_go 4 (x' := (20, [some (.inr (.inr (.inl (some (204))))), some (.inl (a0)), some (.inl ((-1 : Int32))), some (.inl ((0 : Int32))), none, none, none, none], [], 0, 0, ix_mem 276 I J T)) rfl trivial ?_
      refine ix_subW ([some (.inr (.inr (.inl (some (204))))), some (.inl (a0)), some (.inl ((-1 : Int32))), some (.inl ((0 : Int32))), none, none, none, none]) (ix_subS (ix_subS (ix_subS (ix_subS (ix_subS (ix_subS (ix_subS (ix_subS (ix_sub0))))))))) ?_
      exact tl_X12_telling_20 h5 hQ
    · have h5 := h2.2 c4
      refine ix_go 2 (x' := (12, [some (.inr (.inr (.inl (some (204))))), some (.inl (a0)), none, none, none, none, none, none], [.inl ((1 : Int32)), .inr (.inr (.inl (some (204))))], 0, 0, ix_mem 276 I J T)) rfl trivial ?_
      refine ix_sp rfl ⟨rfl, ⟨ix_lt rfl, ix_eq rfl, ix_lt rfl⟩, ix_le rfl, Nat.le_refl _, Nat.le_refl _, tp_X12_refuse h5 (fun v43 I43 J43 T43 h43 => ?_)⟩
      change ix_W _ _ _ (15, [some (.inr (.inr (.inl (some (204))))), some (.inl (a0)), none, none, none, none, none, none], [.inl (v43)], 0, 0, ix_mem 276 I43 J43 T43)
      exact ix_sp rfl ⟨Nat.le_refl _, Nat.le_refl _, trivial, hQ _ _ _ _ h43⟩
