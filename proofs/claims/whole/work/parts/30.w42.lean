def wp_X12_owes (a0 : Int32) (a1 : Int32) (I : Nat → Nat → Int32) (J : Nat → Nat → Int64) (T : Option Nat) (P : Int64 → (Nat → Nat → Int32) → (Nat → Nat → Int64) → Option Nat → Prop) : Prop := wp_X12_areTwo (a0) (a1) I J T (fun v1 I1 J1 T1 => ((v1 = 0 → wp_X12_refuse ((1 : Int32)) I1 J1 T1 (fun v4 I4 J4 T4 => P ((v4).toInt64) I4 J4 T4)) ∧ (¬ (v1 = 0) → ((I1 204 80 = 0 → wp_X12_refuse ((6 : Int32)) I1 J1 T1 (fun v7 I7 J7 T7 => P ((v7).toInt64) I7 J7 T7)) ∧ (¬ (I1 204 80 = 0) → wp_X12_pair (a0) (a1) I1 J1 T1 (fun v8 I8 J8 T8 => ix_inb (v8) 49 = true ∧ wp_X12_pair (a1) (a0) I8 J8 T8 (fun v11 I11 J11 T11 => ix_inb (v11) 49 = true ∧ wp_J9_max_f86c9 ((0 : Int64)) ((J8 255 (v8).toNatClampNeg) - (J11 255 (v11).toNatClampNeg)) I11 J11 T11 (fun v14 I14 J14 T14 => wp_X12_givesLong (v14) I14 J14 T14 (fun v15 I15 J15 T15 => P (v15) I15 J15 T15)))))))))
set_option maxRecDepth 20000 in
theorem tp_X12_owes {d : Nat} {a0 : Int32} {a1 : Int32} {I : Nat → Nat → Int32} {J : Nat → Nat → Int64} {T : Option Nat} {P : Int64 → (Nat → Nat → Int32) → (Nat → Nat → Int64) → Option Nat → Prop} {Q : ix_Q} (h : wp_X12_owes a0 a1 I J T P) (hQ : ∀ v I J T, P v I J T → Q (some (.inr (.inl v))) (ix_mem 276 I J T)) : ix_C (d + 3) 316 [.inr (.inr (.inl (some (204)))), .inl (a0), .inl (a1)] (ix_mem 276 I J T) Q := by
  unfold wp_X12_owes at h
  refine ix_enter (ls := [some (.inr (.inr (.inl (some (204))))), some (.inl (a0)), some (.inl (a1))]) rfl rfl rfl (Nat.le_of_ble_eq_true rfl) ?_
  refine ix_go 3 (x' := (3, [some (.inr (.inr (.inl (some (204))))), some (.inl (a0)), some (.inl (a1))], [.inl (a1), .inl (a0), .inr (.inr (.inl (some (204))))], 0, 0, ix_mem 276 I J T)) rfl trivial ?_
  refine ix_sp rfl ⟨rfl, ⟨ix_lt rfl, ix_eq rfl, ix_lt rfl⟩, ix_le rfl, Nat.le_refl _, Nat.le_refl _, tp_X12_areTwo h (fun v1 I1 J1 T1 h1 => ?_)⟩
  change ix_W _ _ _ (6, [some (.inr (.inr (.inl (some (204))))), some (.inl (a0)), some (.inl (a1))], [.inl (v1)], 0, 0, ix_mem 276 I1 J1 T1)
  refine ix_go 1 (x' := (if v1 = 0 then 9 else 16, [some (.inr (.inr (.inl (some (204))))), some (.inl (a0)), some (.inl (a1))], [], 0, 0, ix_mem 276 I1 J1 T1)) rfl trivial ?_
  refine ix_br (fun c2 => ?_) (fun c2 => ?_)
  · have h3 := h1.1 c2
    refine ix_go 2 (x' := (11, [some (.inr (.inr (.inl (some (204))))), some (.inl (a0)), some (.inl (a1))], [.inl ((1 : Int32)), .inr (.inr (.inl (some (204))))], 0, 0, ix_mem 276 I1 J1 T1)) rfl trivial ?_
    refine ix_sp rfl ⟨rfl, ⟨ix_lt rfl, ix_eq rfl, ix_lt rfl⟩, ix_le rfl, Nat.le_refl _, Nat.le_refl _, tp_X12_refuse h3 (fun v4 I4 J4 T4 h4 => ?_)⟩
    change ix_W _ _ _ (14, [some (.inr (.inr (.inl (some (204))))), some (.inl (a0)), some (.inl (a1))], [.inl (v4)], 0, 0, ix_mem 276 I4 J4 T4)
    refine ix_go 1 (x' := (15, [some (.inr (.inr (.inl (some (204))))), some (.inl (a0)), some (.inl (a1))], [.inr (.inl ((v4).toInt64))], 0, 0, ix_mem 276 I4 J4 T4)) rfl trivial ?_
    exact ix_sp rfl ⟨Nat.le_refl _, Nat.le_refl _, rfl, hQ _ _ _ _ h4⟩
  · have h3 := h1.2 c2
    refine ix_go 3 (x' := (if I1 204 80 = 0 then 55 else 23, [some (.inr (.inr (.inl (some (204))))), some (.inl (a0)), some (.inl (a1))], [], 0, 0, ix_mem 276 I1 J1 T1)) rfl ⟨rfl, rfl⟩ ?_
    refine ix_br (fun c5 => ?_) (fun c5 => ?_)
    · have h6 := h3.1 c5
      refine ix_go 2 (x' := (58, [some (.inr (.inr (.inl (some (204))))), some (.inl (a0)), some (.inl (a1))], [.inl ((6 : Int32)), .inr (.inr (.inl (some (204))))], 0, 0, ix_mem 276 I1 J1 T1)) rfl trivial ?_
      refine ix_sp rfl ⟨rfl, ⟨ix_lt rfl, ix_eq rfl, ix_lt rfl⟩, ix_le rfl, Nat.le_refl _, Nat.le_refl _, tp_X12_refuse h6 (fun v7 I7 J7 T7 h7 => ?_)⟩
      change ix_W _ _ _ (61, [some (.inr (.inr (.inl (some (204))))), some (.inl (a0)), some (.inl (a1))], [.inl (v7)], 0, 0, ix_mem 276 I7 J7 T7)
      refine ix_go 1 (x' := (62, [some (.inr (.inr (.inl (some (204))))), some (.inl (a0)), some (.inl (a1))], [.inr (.inl ((v7).toInt64))], 0, 0, ix_mem 276 I7 J7 T7)) rfl trivial ?_
      exact ix_sp rfl ⟨Nat.le_refl _, Nat.le_refl _, rfl, hQ _ _ _ _ h7⟩
    · have h6 := h3.2 c5
      refine ix_go 6 (x' := (31, [some (.inr (.inr (.inl (some (204))))), some (.inl (a0)), some (.inl (a1))], [.inl (a1), .inl (a0), .inr (.inr (.inl (some (255)))), .inr (.inl ((0 : Int64))), .inr (.inr (.inl (some (204))))], 0, 0, ix_mem 276 I1 J1 T1)) rfl ⟨rfl, rfl⟩ ?_
      refine ix_sp rfl ⟨rfl, trivial, ix_le rfl, Nat.le_refl _, Nat.le_refl _, tp_X12_pair h6 (fun v8 I8 J8 T8 h8 => ?_)⟩
      change ix_W _ _ _ (34, [some (.inr (.inr (.inl (some (204))))), some (.inl (a0)), some (.inl (a1))], [.inl (v8), .inr (.inr (.inl (some (255)))), .inr (.inl ((0 : Int64))), .inr (.inr (.inl (some (204))))], 0, 0, ix_mem 276 I8 J8 T8)
      obtain ⟨p9, h10⟩ := h8
      refine ix_go 5 (x' := (41, [some (.inr (.inr (.inl (some (204))))), some (.inl (a0)), some (.inl (a1))], [.inl (a0), .inl (a1), .inr (.inr (.inl (some (255)))), .inr (.inl (J8 255 (v8).toNatClampNeg)), .inr (.inl ((0 : Int64))), .inr (.inr (.inl (some (204))))], 0, 0, ix_mem 276 I8 J8 T8)) rfl ⟨rfl, rfl, p9, rfl, rfl⟩ ?_
      refine ix_sp rfl ⟨rfl, trivial, ix_le rfl, Nat.le_refl _, Nat.le_refl _, tp_X12_pair h10 (fun v11 I11 J11 T11 h11 => ?_)⟩
      change ix_W _ _ _ (44, [some (.inr (.inr (.inl (some (204))))), some (.inl (a0)), some (.inl (a1))], [.inl (v11), .inr (.inr (.inl (some (255)))), .inr (.inl (J8 255 (v8).toNatClampNeg)), .inr (.inl ((0 : Int64))), .inr (.inr (.inl (some (204))))], 0, 0, ix_mem 276 I11 J11 T11)
      obtain ⟨p12, h13⟩ := h11
      refine ix_go 2 (x' := (46, [some (.inr (.inr (.inl (some (204))))), some (.inl (a0)), some (.inl (a1))], [.inr (.inl ((J8 255 (v8).toNatClampNeg) - (J11 255 (v11).toNatClampNeg))), .inr (.inl ((0 : Int64))), .inr (.inr (.inl (some (204))))], 0, 0, ix_mem 276 I11 J11 T11)) rfl ⟨rfl, rfl, p12⟩ ?_
      refine ix_sp rfl ⟨rfl, trivial, ix_le rfl, Nat.le_refl _, Nat.le_refl _, tp_J9_max_f86c9 h13 (fun v14 I14 J14 T14 h14 => ?_)⟩
      change ix_W _ _ _ (49, [some (.inr (.inr (.inl (some (204))))), some (.inl (a0)), some (.inl (a1))], [.inr (.inl (v14)), .inr (.inr (.inl (some (204))))], 0, 0, ix_mem 276 I14 J14 T14)
      refine ix_sp rfl ⟨rfl, ⟨ix_lt rfl, ix_eq rfl, ix_lt rfl⟩, ix_le rfl, Nat.le_refl _, Nat.le_refl _, tp_X12_givesLong h14 (fun v15 I15 J15 T15 h15 => ?_)⟩
      change ix_W _ _ _ (52, [some (.inr (.inr (.inl (some (204))))), some (.inl (a0)), some (.inl (a1))], [.inr (.inl (v15))], 0, 0, ix_mem 276 I15 J15 T15)
      refine ix_go 1 (x' := (62, [some (.inr (.inr (.inl (some (204))))), some (.inl (a0)), some (.inl (a1))], [.inr (.inl (v15))], 0, 0, ix_mem 276 I15 J15 T15)) rfl trivial ?_
      exact ix_sp rfl ⟨Nat.le_refl _, Nat.le_refl _, rfl, hQ _ _ _ _ h15⟩
def wb_X12_balanceOf_5 (x1 : Int32) (x2 : Int64) (x4 : Int32) (I : Nat → Nat → Int32) (J : Nat → Nat → Int64) (T : Option Nat) (V5 : Int32 → Int64 → Int32 → (Nat → Nat → Int32) → (Nat → Nat → Int64) → Option Nat → Prop) (P : Int64 → (Nat → Nat → Int32) → (Nat → Nat → Int64) → Option Nat → Prop) : Prop := ((x4 < (7 : Int32) → wp_X12_pair (x4) (x1) I J T (fun v3 I3 J3 T3 => ix_inb (v3) 49 = true ∧ wp_X12_pair (x1) (x4) I3 J3 T3 (fun v6 I6 J6 T6 => ix_inb (v6) 49 = true ∧ V5 (x1) ((x2) + ((J3 255 (v3).toNatClampNeg) - (J6 255 (v6).toNatClampNeg))) (x4 + (1 : Int32)) I6 J6 T6))) ∧ (¬ (x4 < (7 : Int32)) → P (x2) I J T))
def wl_X12_balanceOf_5 (x1 : Int32) (x2 : Int64) (x4 : Int32) (I : Nat → Nat → Int32) (J : Nat → Nat → Int64) (T : Option Nat) (P : Int64 → (Nat → Nat → Int32) → (Nat → Nat → Int64) → Option Nat → Prop) : Prop := ∀ V : Int32 → Int64 → Int32 → (Nat → Nat → Int32) → (Nat → Nat → Int64) → Option Nat → Prop, (∀ (x1 : Int32) (x2 : Int64) (x4 : Int32) (I : Nat → Nat → Int32) (J : Nat → Nat → Int64) (T : Option Nat), wb_X12_balanceOf_5 x1 x2 x4 I J T V P → V x1 x2 x4 I J T) → V x1 x2 x4 I J T
set_option maxRecDepth 20000 in
theorem tl_X12_balanceOf_5 {d : Nat} {x1 : Int32} {x2 : Int64} {x4 : Int32} {I : Nat → Nat → Int32} {J : Nat → Nat → Int64} {T : Option Nat} {P : Int64 → (Nat → Nat → Int32) → (Nat → Nat → Int64) → Option Nat → Prop} {Q : ix_Q} (h : wl_X12_balanceOf_5 x1 x2 x4 I J T P) (hQ : ∀ v I J T, P v I J T → Q (some (.inr (.inl v))) (ix_mem 276 I J T)) : ix_W (ix_C (d + 1)) (12, ix_lk ix_l317, (some .long), 0, 0, Nat.blt 0 0, none) Q (5, [some (.inr (.inr (.inl (some (204))))), some (.inl (x1)), some (.inr (.inl (x2))), none, some (.inl (x4))], [], 0, 0, ix_mem 276 I J T) := by
  refine h (fun x1 x2 x4 I J T => ix_W (ix_C (d + 1)) (12, ix_lk ix_l317, (some .long), 0, 0, Nat.blt 0 0, none) Q (5, [some (.inr (.inr (.inl (some (204))))), some (.inl (x1)), some (.inr (.inl (x2))), none, some (.inl (x4))], [], 0, 0, ix_mem 276 I J T)) ?_
  intro x1 x2 x4 I J T hb
  unfold wb_X12_balanceOf_5 at hb
  refine ix_go 3 (x' := (if x4 < (7 : Int32) then 12 else 44, [some (.inr (.inr (.inl (some (204))))), some (.inl (x1)), some (.inr (.inl (x2))), none, some (.inl (x4))], [], 0, 0, ix_mem 276 I J T)) rfl trivial ?_
  refine ix_br (fun c1 => ?_) (fun c1 => ?_)
  · have h2 := hb.1 c1
    refine ix_go 5 (x' := (20, [some (.inr (.inr (.inl (some (204))))), some (.inl (x1)), some (.inr (.inl (x2))), none, some (.inl (x4))], [.inl (x1), .inl (x4), .inr (.inr (.inl (some (255)))), .inr (.inl (x2))], 0, 0, ix_mem 276 I J T)) rfl ⟨rfl, rfl⟩ ?_
    refine ix_sp rfl ⟨rfl, trivial, ix_le rfl, Nat.le_refl _, Nat.le_refl _, tp_X12_pair h2 (fun v3 I3 J3 T3 h3 => ?_)⟩
    change ix_W _ _ _ (23, [some (.inr (.inr (.inl (some (204))))), some (.inl (x1)), some (.inr (.inl (x2))), none, some (.inl (x4))], [.inl (v3), .inr (.inr (.inl (some (255)))), .inr (.inl (x2))], 0, 0, ix_mem 276 I3 J3 T3)
    obtain ⟨p4, h5⟩ := h3
    refine ix_go 5 (x' := (31, [some (.inr (.inr (.inl (some (204))))), some (.inl (x1)), some (.inr (.inl (x2))), none, some (.inl (x4))], [.inl (x4), .inl (x1), .inr (.inr (.inl (some (255)))), .inr (.inl (J3 255 (v3).toNatClampNeg)), .inr (.inl (x2))], 0, 0, ix_mem 276 I3 J3 T3)) rfl ⟨rfl, rfl, p4, rfl, rfl⟩ ?_
    refine ix_sp rfl ⟨rfl, trivial, ix_le rfl, Nat.le_refl _, Nat.le_refl _, tp_X12_pair h5 (fun v6 I6 J6 T6 h6 => ?_)⟩
    change ix_W _ _ _ (34, [some (.inr (.inr (.inl (some (204))))), some (.inl (x1)), some (.inr (.inl (x2))), none, some (.inl (x4))], [.inl (v6), .inr (.inr (.inl (some (255)))), .inr (.inl (J3 255 (v3).toNatClampNeg)), .inr (.inl (x2))], 0, 0, ix_mem 276 I6 J6 T6)
    obtain ⟨p7, h8⟩ := h6
    refine ix_go 6 (x' := (5, [some (.inr (.inr (.inl (some (204))))), some (.inl (x1)), some (.inr (.inl ((x2) + ((J3 255 (v3).toNatClampNeg) - (J6 255 (v6).toNatClampNeg))))), none, some (.inl (x4 + (1 : Int32)))], [], 0, 0, ix_mem 276 I6 J6 T6)) rfl ⟨rfl, rfl, p7⟩ ?_
    refine ix_subW ([some (.inr (.inr (.inl (some (204))))), some (.inl (x1)), some (.inr (.inl ((x2) + ((J3 255 (v3).toNatClampNeg) - (J6 255 (v6).toNatClampNeg))))), none, some (.inl (x4 + (1 : Int32)))]) (ix_subS (ix_subS (ix_subS (ix_subS (ix_subS (ix_sub0)))))) ?_
    exact h8
  · have h2 := hb.2 c1
    refine ix_go 1 (x' := (45, [some (.inr (.inr (.inl (some (204))))), some (.inl (x1)), some (.inr (.inl (x2))), none, some (.inl (x4))], [.inr (.inl (x2))], 0, 0, ix_mem 276 I J T)) rfl trivial ?_
    exact ix_sp rfl ⟨Nat.le_refl _, Nat.le_refl _, rfl, hQ _ _ _ _ h2⟩
def wp_X12_balanceOf (a0 : Int32) (I : Nat → Nat → Int32) (J : Nat → Nat → Int64) (T : Option Nat) (P : Int64 → (Nat → Nat → Int32) → (Nat → Nat → Int64) → Option Nat → Prop) : Prop := wl_X12_balanceOf_5 (a0) ((0 : Int64)) ((0 : Int32)) I J T P
set_option maxRecDepth 20000 in
theorem tp_X12_balanceOf {d : Nat} {a0 : Int32} {I : Nat → Nat → Int32} {J : Nat → Nat → Int64} {T : Option Nat} {P : Int64 → (Nat → Nat → Int32) → (Nat → Nat → Int64) → Option Nat → Prop} {Q : ix_Q} (h : wp_X12_balanceOf a0 I J T P) (hQ : ∀ v I J T, P v I J T → Q (some (.inr (.inl v))) (ix_mem 276 I J T)) : ix_C (d + 2) 317 [.inr (.inr (.inl (some (204)))), .inl (a0)] (ix_mem 276 I J T) Q := by
  unfold wp_X12_balanceOf at h
  refine ix_enter (ls := [some (.inr (.inr (.inl (some (204))))), some (.inl (a0)), none, none, none]) rfl rfl rfl (Nat.le_of_ble_eq_true rfl) ?_
  refine ix_go 4 (x' := (5, [some (.inr (.inr (.inl (some (204))))), some (.inl (a0)), some (.inr (.inl ((0 : Int64)))), none, some (.inl ((0 : Int32)))], [], 0, 0, ix_mem 276 I J T)) rfl trivial ?_
  refine ix_subW ([some (.inr (.inr (.inl (some (204))))), some (.inl (a0)), some (.inr (.inl ((0 : Int64)))), none, some (.inl ((0 : Int32)))]) (ix_subS (ix_subS (ix_subS (ix_subS (ix_subS (ix_sub0)))))) ?_
  exact tl_X12_balanceOf_5 h hQ
def wp_X12_balance (a0 : Int32) (I : Nat → Nat → Int32) (J : Nat → Nat → Int64) (T : Option Nat) (P : Int64 → (Nat → Nat → Int32) → (Nat → Nat → Int64) → Option Nat → Prop) : Prop := wp_X12_isLand (a0) I J T (fun v1 I1 J1 T1 => ((v1 = 0 → wp_X12_refuse ((1 : Int32)) I1 J1 T1 (fun v4 I4 J4 T4 => P ((v4).toInt64) I4 J4 T4)) ∧ (¬ (v1 = 0) → ((I1 204 80 = 0 → wp_X12_refuse ((6 : Int32)) I1 J1 T1 (fun v7 I7 J7 T7 => P ((v7).toInt64) I7 J7 T7)) ∧ (¬ (I1 204 80 = 0) → wp_X12_balanceOf (a0) I1 J1 T1 (fun v8 I8 J8 T8 => wp_X12_givesLong (v8) I8 J8 T8 (fun v9 I9 J9 T9 => P (v9) I9 J9 T9)))))))
set_option maxRecDepth 20000 in
theorem tp_X12_balance {d : Nat} {a0 : Int32} {I : Nat → Nat → Int32} {J : Nat → Nat → Int64} {T : Option Nat} {P : Int64 → (Nat → Nat → Int32) → (Nat → Nat → Int64) → Option Nat → Prop} {Q : ix_Q} (h : wp_X12_balance a0 I J T P) (hQ : ∀ v I J T, P v I J T → Q (some (.inr (.inl v))) (ix_mem 276 I J T)) : ix_C (d + 3) 318 [.inr (.inr (.inl (some (204)))), .inl (a0)] (ix_mem 276 I J T) Q := by
  unfold wp_X12_balance at h
  refine ix_enter (ls := [some (.inr (.inr (.inl (some (204))))), some (.inl (a0))]) rfl rfl rfl (Nat.le_of_ble_eq_true rfl) ?_
  refine ix_go 2 (x' := (2, [some (.inr (.inr (.inl (some (204))))), some (.inl (a0))], [.inl (a0), .inr (.inr (.inl (some (204))))], 0, 0, ix_mem 276 I J T)) rfl trivial ?_
  refine ix_sp rfl ⟨rfl, ⟨ix_lt rfl, ix_eq rfl, ix_lt rfl⟩, ix_le rfl, Nat.le_refl _, Nat.le_refl _, tp_X12_isLand h (fun v1 I1 J1 T1 h1 => ?_)⟩
  change ix_W _ _ _ (5, [some (.inr (.inr (.inl (some (204))))), some (.inl (a0))], [.inl (v1)], 0, 0, ix_mem 276 I1 J1 T1)
  refine ix_go 1 (x' := (if v1 = 0 then 8 else 15, [some (.inr (.inr (.inl (some (204))))), some (.inl (a0))], [], 0, 0, ix_mem 276 I1 J1 T1)) rfl trivial ?_
  refine ix_br (fun c2 => ?_) (fun c2 => ?_)
  · have h3 := h1.1 c2
    refine ix_go 2 (x' := (10, [some (.inr (.inr (.inl (some (204))))), some (.inl (a0))], [.inl ((1 : Int32)), .inr (.inr (.inl (some (204))))], 0, 0, ix_mem 276 I1 J1 T1)) rfl trivial ?_
    refine ix_sp rfl ⟨rfl, ⟨ix_lt rfl, ix_eq rfl, ix_lt rfl⟩, ix_le rfl, Nat.le_refl _, Nat.le_refl _, tp_X12_refuse h3 (fun v4 I4 J4 T4 h4 => ?_)⟩
    change ix_W _ _ _ (13, [some (.inr (.inr (.inl (some (204))))), some (.inl (a0))], [.inl (v4)], 0, 0, ix_mem 276 I4 J4 T4)
    refine ix_go 1 (x' := (14, [some (.inr (.inr (.inl (some (204))))), some (.inl (a0))], [.inr (.inl ((v4).toInt64))], 0, 0, ix_mem 276 I4 J4 T4)) rfl trivial ?_
    exact ix_sp rfl ⟨Nat.le_refl _, Nat.le_refl _, rfl, hQ _ _ _ _ h4⟩
  · have h3 := h1.2 c2
    refine ix_go 3 (x' := (if I1 204 80 = 0 then 34 else 22, [some (.inr (.inr (.inl (some (204))))), some (.inl (a0))], [], 0, 0, ix_mem 276 I1 J1 T1)) rfl ⟨rfl, rfl⟩ ?_
    refine ix_br (fun c5 => ?_) (fun c5 => ?_)
    · have h6 := h3.1 c5
      refine ix_go 2 (x' := (37, [some (.inr (.inr (.inl (some (204))))), some (.inl (a0))], [.inl ((6 : Int32)), .inr (.inr (.inl (some (204))))], 0, 0, ix_mem 276 I1 J1 T1)) rfl trivial ?_
      refine ix_sp rfl ⟨rfl, ⟨ix_lt rfl, ix_eq rfl, ix_lt rfl⟩, ix_le rfl, Nat.le_refl _, Nat.le_refl _, tp_X12_refuse h6 (fun v7 I7 J7 T7 h7 => ?_)⟩
      change ix_W _ _ _ (40, [some (.inr (.inr (.inl (some (204))))), some (.inl (a0))], [.inl (v7)], 0, 0, ix_mem 276 I7 J7 T7)
      refine ix_go 1 (x' := (41, [some (.inr (.inr (.inl (some (204))))), some (.inl (a0))], [.inr (.inl ((v7).toInt64))], 0, 0, ix_mem 276 I7 J7 T7)) rfl trivial ?_
      exact ix_sp rfl ⟨Nat.le_refl _, Nat.le_refl _, rfl, hQ _ _ _ _ h7⟩
    · have h6 := h3.2 c5
      refine ix_go 3 (x' := (25, [some (.inr (.inr (.inl (some (204))))), some (.inl (a0))], [.inl (a0), .inr (.inr (.inl (some (204)))), .inr (.inr (.inl (some (204))))], 0, 0, ix_mem 276 I1 J1 T1)) rfl trivial ?_
      refine ix_sp rfl ⟨rfl, ⟨ix_lt rfl, ix_eq rfl, ix_lt rfl⟩, ix_le rfl, Nat.le_refl _, Nat.le_refl _, tp_X12_balanceOf h6 (fun v8 I8 J8 T8 h8 => ?_)⟩
      change ix_W _ _ _ (28, [some (.inr (.inr (.inl (some (204))))), some (.inl (a0))], [.inr (.inl (v8)), .inr (.inr (.inl (some (204))))], 0, 0, ix_mem 276 I8 J8 T8)
      refine ix_sp rfl ⟨rfl, ⟨ix_lt rfl, ix_eq rfl, ix_lt rfl⟩, ix_le rfl, Nat.le_refl _, Nat.le_refl _, tp_X12_givesLong h8 (fun v9 I9 J9 T9 h9 => ?_)⟩
      change ix_W _ _ _ (31, [some (.inr (.inr (.inl (some (204))))), some (.inl (a0))], [.inr (.inl (v9))], 0, 0, ix_mem 276 I9 J9 T9)
      refine ix_go 1 (x' := (41, [some (.inr (.inr (.inl (some (204))))), some (.inl (a0))], [.inr (.inl (v9))], 0, 0, ix_mem 276 I9 J9 T9)) rfl trivial ?_
      exact ix_sp rfl ⟨Nat.le_refl _, Nat.le_refl _, rfl, hQ _ _ _ _ h9⟩
def wb_X12_pays_88_33_58_79 (x1 : Int32) (x2 : Int32) (x3 : Int32) (x4 : Int32) (I : Nat → Nat → Int32) (J : Nat → Nat → Int64) (T : Option Nat) (V88 : Int32 → Int32 → Int32 → Int32 → (Nat → Nat → Int32) → (Nat → Nat → Int64) → Option Nat → Prop) (V33 : Int32 → Int32 → Int32 → (Nat → Nat → Int32) → (Nat → Nat → Int64) → Option Nat → Prop) (V58 : Int32 → Int32 → Int32 → (Nat → Nat → Int32) → (Nat → Nat → Int64) → Option Nat → Prop) (V79 : Int32 → Int32 → Int32 → (Nat → Nat → Int32) → (Nat → Nat → Int64) → Option Nat → Prop) (P : Int64 → (Nat → Nat → Int32) → (Nat → Nat → Int64) → Option Nat → Prop) : Prop := ((x4 < (7 : Int32) → ix_inb (x3) 7 = true ∧ ((lg_cmp (J 258 (x3).toNatClampNeg) ((0 : Int64)) < 0 → ix_inb (x4) 7 = true ∧ ((lg_cmp (J 258 (x4).toNatClampNeg) ((0 : Int64)) ≤ 0 → V88 (x1) (x2) (x3) (x4 + (1 : Int32)) I J T) ∧ (¬ (lg_cmp (J 258 (x4).toNatClampNeg) ((0 : Int64)) ≤ 0) → ix_inb (x3) 7 = true ∧ ix_inb (x4) 7 = true ∧ wp_J9_min_f86c9 (-(J 258 (x3).toNatClampNeg)) (J 258 (x4).toNatClampNeg) I J T (fun v33 I33 J33 T33 => ix_inb (x3) 7 = true ∧ ix_inb (x3) 7 = true ∧ ix_inb (x4) 7 = true ∧ ix_inb (x4) 7 = true ∧ wp_X12_pair (x3) (x4) I33 (ix_u2 (ix_u2 J33 258 (x3).toNatClampNeg ((J33 258 (x3).toNatClampNeg) + (v33))) 258 (x4).toNatClampNeg (((ix_u2 J33 258 (x3).toNatClampNeg ((J33 258 (x3).toNatClampNeg) + (v33))) 258 (x4).toNatClampNeg) - (v33))) T33 (fun v42 I42 J42 T42 => ix_inb (v42) 49 = true ∧ V88 (x1) (x2) (x3) (x4 + (1 : Int32)) I42 (ix_u2 J42 257 (v42).toNatClampNeg (v33)) T42))))) ∧ (¬ (lg_cmp (J 258 (x3).toNatClampNeg) ((0 : Int64)) < 0) → V79 (x1) (x2) (x3 + (1 : Int32)) I J T))) ∧ (¬ (x4 < (7 : Int32)) → V79 (x1) (x2) (x3 + (1 : Int32)) I J T))
def wl_X12_pays_88_33_58_79 (x1 : Int32) (x2 : Int32) (x3 : Int32) (x4 : Int32) (I : Nat → Nat → Int32) (J : Nat → Nat → Int64) (T : Option Nat) (V33 : Int32 → Int32 → Int32 → (Nat → Nat → Int32) → (Nat → Nat → Int64) → Option Nat → Prop) (V58 : Int32 → Int32 → Int32 → (Nat → Nat → Int32) → (Nat → Nat → Int64) → Option Nat → Prop) (V79 : Int32 → Int32 → Int32 → (Nat → Nat → Int32) → (Nat → Nat → Int64) → Option Nat → Prop) (P : Int64 → (Nat → Nat → Int32) → (Nat → Nat → Int64) → Option Nat → Prop) : Prop := ∀ V : Int32 → Int32 → Int32 → Int32 → (Nat → Nat → Int32) → (Nat → Nat → Int64) → Option Nat → Prop, (∀ (x1 : Int32) (x2 : Int32) (x3 : Int32) (x4 : Int32) (I : Nat → Nat → Int32) (J : Nat → Nat → Int64) (T : Option Nat), wb_X12_pays_88_33_58_79 x1 x2 x3 x4 I J T V V33 V58 V79 P → V x1 x2 x3 x4 I J T) → V x1 x2 x3 x4 I J T
set_option maxRecDepth 20000 in
theorem tl_X12_pays_88_33_58_79 {d : Nat} {x1 : Int32} {x2 : Int32} {x3 : Int32} {x4 : Int32} {I : Nat → Nat → Int32} {J : Nat → Nat → Int64} {T : Option Nat} {V33 : Int32 → Int32 → Int32 → (Nat → Nat → Int32) → (Nat → Nat → Int64) → Option Nat → Prop} {V58 : Int32 → Int32 → Int32 → (Nat → Nat → Int32) → (Nat → Nat → Int64) → Option Nat → Prop} {V79 : Int32 → Int32 → Int32 → (Nat → Nat → Int32) → (Nat → Nat → Int64) → Option Nat → Prop} {P : Int64 → (Nat → Nat → Int32) → (Nat → Nat → Int64) → Option Nat → Prop} {Q : ix_Q} (h : wl_X12_pays_88_33_58_79 x1 x2 x3 x4 I J T V33 V58 V79 P) (hV33 : ∀ (x1 : Int32) (x2 : Int32) (x3 : Int32) I J T, V33 x1 x2 x3 I J T → ix_W (ix_C (d + 1)) (12, ix_lk ix_l319, (some .long), 0, 0, Nat.blt 0 0, none) Q (33, [some (.inr (.inr (.inl (some (204))))), some (.inl (x1)), some (.inl (x2)), some (.inl (x3)), none, none, none], [], 0, 0, ix_mem 276 I J T)) (hV58 : ∀ (x1 : Int32) (x2 : Int32) (x3 : Int32) I J T, V58 x1 x2 x3 I J T → ix_W (ix_C (d + 1)) (12, ix_lk ix_l319, (some .long), 0, 0, Nat.blt 0 0, none) Q (58, [some (.inr (.inr (.inl (some (204))))), some (.inl (x1)), some (.inl (x2)), some (.inl (x3)), none, none, none], [], 0, 0, ix_mem 276 I J T)) (hV79 : ∀ (x1 : Int32) (x2 : Int32) (x3 : Int32) I J T, V79 x1 x2 x3 I J T → ix_W (ix_C (d + 1)) (12, ix_lk ix_l319, (some .long), 0, 0, Nat.blt 0 0, none) Q (79, [some (.inr (.inr (.inl (some (204))))), some (.inl (x1)), some (.inl (x2)), some (.inl (x3)), none, none, none], [], 0, 0, ix_mem 276 I J T)) (hQ : ∀ v I J T, P v I J T → Q (some (.inr (.inl v))) (ix_mem 276 I J T)) : ix_W (ix_C (d + 1)) (12, ix_lk ix_l319, (some .long), 0, 0, Nat.blt 0 0, none) Q (88, [some (.inr (.inr (.inl (some (204))))), some (.inl (x1)), some (.inl (x2)), some (.inl (x3)), some (.inl (x4)), none, none], [], 0, 0, ix_mem 276 I J T) := by
  refine h (fun x1 x2 x3 x4 I J T => ix_W (ix_C (d + 1)) (12, ix_lk ix_l319, (some .long), 0, 0, Nat.blt 0 0, none) Q (88, [some (.inr (.inr (.inl (some (204))))), some (.inl (x1)), some (.inl (x2)), some (.inl (x3)), some (.inl (x4)), none, none], [], 0, 0, ix_mem 276 I J T)) ?_
  intro x1 x2 x3 x4 I J T hb
  unfold wb_X12_pays_88_33_58_79 at hb
  refine ix_go 3 (x' := (if x4 < (7 : Int32) then 95 else 182, [some (.inr (.inr (.inl (some (204))))), some (.inl (x1)), some (.inl (x2)), some (.inl (x3)), some (.inl (x4)), none, none], [], 0, 0, ix_mem 276 I J T)) rfl trivial ?_
  refine ix_br (fun c19 => ?_) (fun c19 => ?_)
  · have h20 := hb.1 c19
    obtain ⟨p21, h22⟩ := h20
    refine ix_go 7 (x' := (if lg_cmp (J 258 (x3).toNatClampNeg) ((0 : Int64)) < 0 then 106 else 182, [some (.inr (.inr (.inl (some (204))))), some (.inl (x1)), some (.inl (x2)), some (.inl (x3)), some (.inl (x4)), none, none], [], 0, 0, ix_mem 276 I J T)) rfl ⟨rfl, rfl, rfl, rfl, p21⟩ ?_
    refine ix_br (fun c23 => ?_) (fun c23 => ?_)
    · have h24 := h22.1 c23
      obtain ⟨p25, h26⟩ := h24
      refine ix_go 7 (x' := (if lg_cmp (J 258 (x4).toNatClampNeg) ((0 : Int64)) ≤ 0 then 118 else 121, [some (.inr (.inr (.inl (some (204))))), some (.inl (x1)), some (.inl (x2)), some (.inl (x3)), some (.inl (x4)), none, none], [], 0, 0, ix_mem 276 I J T)) rfl ⟨rfl, rfl, rfl, rfl, p25⟩ ?_
      refine ix_br (fun c27 => ?_) (fun c27 => ?_)
      · have h28 := h26.1 c27
        refine ix_go 3 (x' := (88, [some (.inr (.inr (.inl (some (204))))), some (.inl (x1)), some (.inl (x2)), some (.inl (x3)), some (.inl (x4 + (1 : Int32))), none, none], [], 0, 0, ix_mem 276 I J T)) rfl trivial ?_
        refine ix_subW ([some (.inr (.inr (.inl (some (204))))), some (.inl (x1)), some (.inl (x2)), some (.inl (x3)), some (.inl (x4 + (1 : Int32))), none, none]) (ix_subS (ix_subS (ix_subS (ix_subS (ix_subS (ix_subS (ix_subS (ix_sub0)))))))) ?_
        exact h28
      · have h28 := h26.2 c27
        obtain ⟨p29, h30⟩ := h28
        refine ix_go 7 (x' := (132, [some (.inr (.inr (.inl (some (204))))), some (.inl (x1)), some (.inl (x2)), some (.inl (x3)), some (.inl (x4)), none, none], [.inr (.inr (.inl (some (258)))), .inr (.inl (-(J 258 (x3).toNatClampNeg)))], 0, 0, ix_mem 276 I J T)) rfl ⟨rfl, rfl, rfl, rfl, p29, rfl, rfl⟩ ?_
        obtain ⟨p31, h32⟩ := h30
        refine ix_go 2 (x' := (135, [some (.inr (.inr (.inl (some (204))))), some (.inl (x1)), some (.inl (x2)), some (.inl (x3)), some (.inl (x4)), none, none], [.inr (.inl (J 258 (x4).toNatClampNeg)), .inr (.inl (-(J 258 (x3).toNatClampNeg)))], 0, 0, ix_mem 276 I J T)) rfl ⟨rfl, rfl, p31⟩ ?_
        refine ix_sp rfl ⟨rfl, trivial, ix_le rfl, Nat.le_refl _, Nat.le_refl _, tp_J9_min_f86c9 h32 (fun v33 I33 J33 T33 h33 => ?_)⟩
        change ix_W _ _ _ (138, [some (.inr (.inr (.inl (some (204))))), some (.inl (x1)), some (.inl (x2)), some (.inl (x3)), some (.inl (x4)), none, none], [.inr (.inl (v33))], 0, 0, ix_mem 276 I33 J33 T33)
        obtain ⟨p34, h35⟩ := h33
        refine ix_go 7 (x' := (149, [some (.inr (.inr (.inl (some (204))))), some (.inl (x1)), some (.inl (x2)), some (.inl (x3)), some (.inl (x4)), some (.inr (.inl (v33))), none], [.inr (.inl (v33)), .inr (.inl (J33 258 (x3).toNatClampNeg)), .inl (x3), .inr (.inr (.inl (some (258))))], 0, 0, ix_mem 276 I33 J33 T33)) rfl ⟨rfl, rfl, rfl, rfl, p34⟩ ?_
        obtain ⟨p36, h37⟩ := h35
        obtain ⟨p38, h39⟩ := h37
        refine ix_go 7 (x' := (159, [some (.inr (.inr (.inl (some (204))))), some (.inl (x1)), some (.inl (x2)), some (.inl (x3)), some (.inl (x4)), some (.inr (.inl (v33))), none], [.inr (.inl ((ix_u2 J33 258 (x3).toNatClampNeg ((J33 258 (x3).toNatClampNeg) + (v33))) 258 (x4).toNatClampNeg)), .inl (x4), .inr (.inr (.inl (some (258))))], 0, 0, ix_mem 276 I33 (ix_u2 J33 258 (x3).toNatClampNeg ((J33 258 (x3).toNatClampNeg) + (v33))) T33)) rfl ⟨rfl, rfl, p36, rfl, rfl, rfl, rfl, p38⟩ ?_
        obtain ⟨p40, h41⟩ := h39
        refine ix_go 7 (x' := (170, [some (.inr (.inr (.inl (some (204))))), some (.inl (x1)), some (.inl (x2)), some (.inl (x3)), some (.inl (x4)), some (.inr (.inl (v33))), none], [.inl (x4), .inl (x3), .inr (.inr (.inl (some (257))))], 0, 0, ix_mem 276 I33 (ix_u2 (ix_u2 J33 258 (x3).toNatClampNeg ((J33 258 (x3).toNatClampNeg) + (v33))) 258 (x4).toNatClampNeg (((ix_u2 J33 258 (x3).toNatClampNeg ((J33 258 (x3).toNatClampNeg) + (v33))) 258 (x4).toNatClampNeg) - (v33))) T33)) rfl ⟨rfl, rfl, p40, rfl, rfl⟩ ?_
        refine ix_sp rfl ⟨rfl, trivial, ix_le rfl, Nat.le_refl _, Nat.le_refl _, tp_X12_pair h41 (fun v42 I42 J42 T42 h42 => ?_)⟩
        change ix_W _ _ _ (173, [some (.inr (.inr (.inl (some (204))))), some (.inl (x1)), some (.inl (x2)), some (.inl (x3)), some (.inl (x4)), some (.inr (.inl (v33))), none], [.inl (v42), .inr (.inr (.inl (some (257))))], 0, 0, ix_mem 276 I42 J42 T42)
        obtain ⟨p43, h44⟩ := h42
        refine ix_go 4 (x' := (88, [some (.inr (.inr (.inl (some (204))))), some (.inl (x1)), some (.inl (x2)), some (.inl (x3)), some (.inl (x4 + (1 : Int32))), some (.inr (.inl (v33))), none], [], 0, 0, ix_mem 276 I42 (ix_u2 J42 257 (v42).toNatClampNeg (v33)) T42)) rfl ⟨rfl, rfl, p43⟩ ?_
        refine ix_subW ([some (.inr (.inr (.inl (some (204))))), some (.inl (x1)), some (.inl (x2)), some (.inl (x3)), some (.inl (x4 + (1 : Int32))), none, none]) (ix_subS (ix_subS (ix_subS (ix_subS (ix_subS (ix_subN (ix_subS (ix_sub0)))))))) ?_
        exact h44
    · have h24 := h22.2 c23
      refine ix_go 2 (x' := (79, [some (.inr (.inr (.inl (some (204))))), some (.inl (x1)), some (.inl (x2)), some (.inl (x3 + (1 : Int32))), some (.inl (x4)), none, none], [], 0, 0, ix_mem 276 I J T)) rfl trivial ?_
      refine ix_subW ([some (.inr (.inr (.inl (some (204))))), some (.inl (x1)), some (.inl (x2)), some (.inl (x3 + (1 : Int32))), none, none, none]) (ix_subS (ix_subS (ix_subS (ix_subS (ix_subN (ix_subS (ix_subS (ix_sub0)))))))) ?_
      exact hV79 _ _ _ _ _ _ h24
  · have h20 := hb.2 c19
    refine ix_go 2 (x' := (79, [some (.inr (.inr (.inl (some (204))))), some (.inl (x1)), some (.inl (x2)), some (.inl (x3 + (1 : Int32))), some (.inl (x4)), none, none], [], 0, 0, ix_mem 276 I J T)) rfl trivial ?_
    refine ix_subW ([some (.inr (.inr (.inl (some (204))))), some (.inl (x1)), some (.inl (x2)), some (.inl (x3 + (1 : Int32))), none, none, none]) (ix_subS (ix_subS (ix_subS (ix_subS (ix_subN (ix_subS (ix_subS (ix_sub0)))))))) ?_
    exact hV79 _ _ _ _ _ _ h20
def wb_X12_pays_79_33_58 (x1 : Int32) (x2 : Int32) (x3 : Int32) (I : Nat → Nat → Int32) (J : Nat → Nat → Int64) (T : Option Nat) (V79 : Int32 → Int32 → Int32 → (Nat → Nat → Int32) → (Nat → Nat → Int64) → Option Nat → Prop) (V33 : Int32 → Int32 → Int32 → (Nat → Nat → Int32) → (Nat → Nat → Int64) → Option Nat → Prop) (V58 : Int32 → Int32 → Int32 → (Nat → Nat → Int32) → (Nat → Nat → Int64) → Option Nat → Prop) (P : Int64 → (Nat → Nat → Int32) → (Nat → Nat → Int64) → Option Nat → Prop) : Prop := ((x3 < (7 : Int32) → wl_X12_pays_88_33_58_79 (x1) (x2) (x3) ((0 : Int32)) I J T V33 V58 V79 P) ∧ (¬ (x3 < (7 : Int32)) → wp_X12_pair (x1) (x2) I J T (fun v45 I45 J45 T45 => ix_inb (v45) 49 = true ∧ wp_X12_givesLong (J45 257 (v45).toNatClampNeg) I45 J45 T45 (fun v48 I48 J48 T48 => P (v48) I48 J48 T48))))
def wl_X12_pays_79_33_58 (x1 : Int32) (x2 : Int32) (x3 : Int32) (I : Nat → Nat → Int32) (J : Nat → Nat → Int64) (T : Option Nat) (V33 : Int32 → Int32 → Int32 → (Nat → Nat → Int32) → (Nat → Nat → Int64) → Option Nat → Prop) (V58 : Int32 → Int32 → Int32 → (Nat → Nat → Int32) → (Nat → Nat → Int64) → Option Nat → Prop) (P : Int64 → (Nat → Nat → Int32) → (Nat → Nat → Int64) → Option Nat → Prop) : Prop := ∀ V : Int32 → Int32 → Int32 → (Nat → Nat → Int32) → (Nat → Nat → Int64) → Option Nat → Prop, (∀ (x1 : Int32) (x2 : Int32) (x3 : Int32) (I : Nat → Nat → Int32) (J : Nat → Nat → Int64) (T : Option Nat), wb_X12_pays_79_33_58 x1 x2 x3 I J T V V33 V58 P → V x1 x2 x3 I J T) → V x1 x2 x3 I J T
set_option maxRecDepth 20000 in
theorem tl_X12_pays_79_33_58 {d : Nat} {x1 : Int32} {x2 : Int32} {x3 : Int32} {I : Nat → Nat → Int32} {J : Nat → Nat → Int64} {T : Option Nat} {V33 : Int32 → Int32 → Int32 → (Nat → Nat → Int32) → (Nat → Nat → Int64) → Option Nat → Prop} {V58 : Int32 → Int32 → Int32 → (Nat → Nat → Int32) → (Nat → Nat → Int64) → Option Nat → Prop} {P : Int64 → (Nat → Nat → Int32) → (Nat → Nat → Int64) → Option Nat → Prop} {Q : ix_Q} (h : wl_X12_pays_79_33_58 x1 x2 x3 I J T V33 V58 P) (hV33 : ∀ (x1 : Int32) (x2 : Int32) (x3 : Int32) I J T, V33 x1 x2 x3 I J T → ix_W (ix_C (d + 1)) (12, ix_lk ix_l319, (some .long), 0, 0, Nat.blt 0 0, none) Q (33, [some (.inr (.inr (.inl (some (204))))), some (.inl (x1)), some (.inl (x2)), some (.inl (x3)), none, none, none], [], 0, 0, ix_mem 276 I J T)) (hV58 : ∀ (x1 : Int32) (x2 : Int32) (x3 : Int32) I J T, V58 x1 x2 x3 I J T → ix_W (ix_C (d + 1)) (12, ix_lk ix_l319, (some .long), 0, 0, Nat.blt 0 0, none) Q (58, [some (.inr (.inr (.inl (some (204))))), some (.inl (x1)), some (.inl (x2)), some (.inl (x3)), none, none, none], [], 0, 0, ix_mem 276 I J T)) (hQ : ∀ v I J T, P v I J T → Q (some (.inr (.inl v))) (ix_mem 276 I J T)) : ix_W (ix_C (d + 1)) (12, ix_lk ix_l319, (some .long), 0, 0, Nat.blt 0 0, none) Q (79, [some (.inr (.inr (.inl (some (204))))), some (.inl (x1)), some (.inl (x2)), some (.inl (x3)), none, none, none], [], 0, 0, ix_mem 276 I J T) := by
  refine h (fun x1 x2 x3 I J T => ix_W (ix_C (d + 1)) (12, ix_lk ix_l319, (some .long), 0, 0, Nat.blt 0 0, none) Q (79, [some (.inr (.inr (.inl (some (204))))), some (.inl (x1)), some (.inl (x2)), some (.inl (x3)), none, none, none], [], 0, 0, ix_mem 276 I J T)) ?_
  intro x1 x2 x3 I J T hb
  unfold wb_X12_pays_79_33_58 at hb
  refine ix_go 3 (x' := (if x3 < (7 : Int32) then 85 else 188, [some (.inr (.inr (.inl (some (204))))), some (.inl (x1)), some (.inl (x2)), some (.inl (x3)), none, none, none], [], 0, 0, ix_mem 276 I J T)) rfl trivial ?_
  refine ix_br (fun c17 => ?_) (fun c17 => ?_)
  · have h18 := hb.1 c17
    refine ix_go 2 (x' := (88, [some (.inr (.inr (.inl (some (204))))), some (.inl (x1)), some (.inl (x2)), some (.inl (x3)), some (.inl ((0 : Int32))), none, none], [], 0, 0, ix_mem 276 I J T)) rfl trivial ?_
    refine ix_subW ([some (.inr (.inr (.inl (some (204))))), some (.inl (x1)), some (.inl (x2)), some (.inl (x3)), some (.inl ((0 : Int32))), none, none]) (ix_subS (ix_subS (ix_subS (ix_subS (ix_subS (ix_subS (ix_subS (ix_sub0)))))))) ?_
    exact tl_X12_pays_88_33_58_79 h18 hV33 hV58 (fun _ _ _ I J T hv => hv) hQ
  · have h18 := hb.2 c17
    refine ix_go 5 (x' := (195, [some (.inr (.inr (.inl (some (204))))), some (.inl (x1)), some (.inl (x2)), some (.inl (x3)), none, none, none], [.inl (x2), .inl (x1), .inr (.inr (.inl (some (257)))), .inr (.inr (.inl (some (204))))], 0, 0, ix_mem 276 I J T)) rfl ⟨rfl, rfl⟩ ?_
    refine ix_sp rfl ⟨rfl, trivial, ix_le rfl, Nat.le_refl _, Nat.le_refl _, tp_X12_pair h18 (fun v45 I45 J45 T45 h45 => ?_)⟩
    change ix_W _ _ _ (198, [some (.inr (.inr (.inl (some (204))))), some (.inl (x1)), some (.inl (x2)), some (.inl (x3)), none, none, none], [.inl (v45), .inr (.inr (.inl (some (257)))), .inr (.inr (.inl (some (204))))], 0, 0, ix_mem 276 I45 J45 T45)
    obtain ⟨p46, h47⟩ := h45
    refine ix_go 1 (x' := (199, [some (.inr (.inr (.inl (some (204))))), some (.inl (x1)), some (.inl (x2)), some (.inl (x3)), none, none, none], [.inr (.inl (J45 257 (v45).toNatClampNeg)), .inr (.inr (.inl (some (204))))], 0, 0, ix_mem 276 I45 J45 T45)) rfl ⟨rfl, rfl, p46⟩ ?_
    refine ix_sp rfl ⟨rfl, ⟨ix_lt rfl, ix_eq rfl, ix_lt rfl⟩, ix_le rfl, Nat.le_refl _, Nat.le_refl _, tp_X12_givesLong h47 (fun v48 I48 J48 T48 h48 => ?_)⟩
    change ix_W _ _ _ (202, [some (.inr (.inr (.inl (some (204))))), some (.inl (x1)), some (.inl (x2)), some (.inl (x3)), none, none, none], [.inr (.inl (v48))], 0, 0, ix_mem 276 I48 J48 T48)
    exact ix_sp rfl ⟨Nat.le_refl _, Nat.le_refl _, rfl, hQ _ _ _ _ h48⟩
def wb_X12_pays_58_33 (x1 : Int32) (x2 : Int32) (x3 : Int32) (I : Nat → Nat → Int32) (J : Nat → Nat → Int64) (T : Option Nat) (V58 : Int32 → Int32 → Int32 → (Nat → Nat → Int32) → (Nat → Nat → Int64) → Option Nat → Prop) (V33 : Int32 → Int32 → Int32 → (Nat → Nat → Int32) → (Nat → Nat → Int64) → Option Nat → Prop) (P : Int64 → (Nat → Nat → Int32) → (Nat → Nat → Int64) → Option Nat → Prop) : Prop := ((x3 < (49 : Int32) → ix_inb (x3) 49 = true ∧ V58 (x1) (x2) (x3 + (1 : Int32)) I (ix_u2 J 257 (x3).toNatClampNeg ((0 : Int64))) T) ∧ (¬ (x3 < (49 : Int32)) → wl_X12_pays_79_33_58 (x1) (x2) ((0 : Int32)) I J T V33 V58 P))
def wl_X12_pays_58_33 (x1 : Int32) (x2 : Int32) (x3 : Int32) (I : Nat → Nat → Int32) (J : Nat → Nat → Int64) (T : Option Nat) (V33 : Int32 → Int32 → Int32 → (Nat → Nat → Int32) → (Nat → Nat → Int64) → Option Nat → Prop) (P : Int64 → (Nat → Nat → Int32) → (Nat → Nat → Int64) → Option Nat → Prop) : Prop := ∀ V : Int32 → Int32 → Int32 → (Nat → Nat → Int32) → (Nat → Nat → Int64) → Option Nat → Prop, (∀ (x1 : Int32) (x2 : Int32) (x3 : Int32) (I : Nat → Nat → Int32) (J : Nat → Nat → Int64) (T : Option Nat), wb_X12_pays_58_33 x1 x2 x3 I J T V V33 P → V x1 x2 x3 I J T) → V x1 x2 x3 I J T
set_option maxRecDepth 20000 in
theorem tl_X12_pays_58_33 {d : Nat} {x1 : Int32} {x2 : Int32} {x3 : Int32} {I : Nat → Nat → Int32} {J : Nat → Nat → Int64} {T : Option Nat} {V33 : Int32 → Int32 → Int32 → (Nat → Nat → Int32) → (Nat → Nat → Int64) → Option Nat → Prop} {P : Int64 → (Nat → Nat → Int32) → (Nat → Nat → Int64) → Option Nat → Prop} {Q : ix_Q} (h : wl_X12_pays_58_33 x1 x2 x3 I J T V33 P) (hV33 : ∀ (x1 : Int32) (x2 : Int32) (x3 : Int32) I J T, V33 x1 x2 x3 I J T → ix_W (ix_C (d + 1)) (12, ix_lk ix_l319, (some .long), 0, 0, Nat.blt 0 0, none) Q (33, [some (.inr (.inr (.inl (some (204))))), some (.inl (x1)), some (.inl (x2)), some (.inl (x3)), none, none, none], [], 0, 0, ix_mem 276 I J T)) (hQ : ∀ v I J T, P v I J T → Q (some (.inr (.inl v))) (ix_mem 276 I J T)) : ix_W (ix_C (d + 1)) (12, ix_lk ix_l319, (some .long), 0, 0, Nat.blt 0 0, none) Q (58, [some (.inr (.inr (.inl (some (204))))), some (.inl (x1)), some (.inl (x2)), some (.inl (x3)), none, none, none], [], 0, 0, ix_mem 276 I J T) := by
  refine h (fun x1 x2 x3 I J T => ix_W (ix_C (d + 1)) (12, ix_lk ix_l319, (some .long), 0, 0, Nat.blt 0 0, none) Q (58, [some (.inr (.inr (.inl (some (204))))), some (.inl (x1)), some (.inl (x2)), some (.inl (x3)), none, none, none], [], 0, 0, ix_mem 276 I J T)) ?_
  intro x1 x2 x3 I J T hb
  unfold wb_X12_pays_58_33 at hb
  refine ix_go 3 (x' := (if x3 < (49 : Int32) then 64 else 77, [some (.inr (.inr (.inl (some (204))))), some (.inl (x1)), some (.inl (x2)), some (.inl (x3)), none, none, none], [], 0, 0, ix_mem 276 I J T)) rfl trivial ?_
  refine ix_br (fun c13 => ?_) (fun c13 => ?_)
  · have h14 := hb.1 c13
    obtain ⟨p15, h16⟩ := h14
    refine ix_go 7 (x' := (58, [some (.inr (.inr (.inl (some (204))))), some (.inl (x1)), some (.inl (x2)), some (.inl (x3 + (1 : Int32))), none, none, none], [], 0, 0, ix_mem 276 I (ix_u2 J 257 (x3).toNatClampNeg ((0 : Int64))) T)) rfl ⟨rfl, rfl, rfl, rfl, p15⟩ ?_
    refine ix_subW ([some (.inr (.inr (.inl (some (204))))), some (.inl (x1)), some (.inl (x2)), some (.inl (x3 + (1 : Int32))), none, none, none]) (ix_subS (ix_subS (ix_subS (ix_subS (ix_subS (ix_subS (ix_subS (ix_sub0)))))))) ?_
    exact h16
  · have h14 := hb.2 c13
    refine ix_go 2 (x' := (79, [some (.inr (.inr (.inl (some (204))))), some (.inl (x1)), some (.inl (x2)), some (.inl ((0 : Int32))), none, none, none], [], 0, 0, ix_mem 276 I J T)) rfl trivial ?_
    refine ix_subW ([some (.inr (.inr (.inl (some (204))))), some (.inl (x1)), some (.inl (x2)), some (.inl ((0 : Int32))), none, none, none]) (ix_subS (ix_subS (ix_subS (ix_subS (ix_subS (ix_subS (ix_subS (ix_sub0)))))))) ?_
    exact tl_X12_pays_79_33_58 h14 hV33 (fun _ _ _ I J T hv => hv) hQ
def wb_X12_pays_33 (x1 : Int32) (x2 : Int32) (x3 : Int32) (I : Nat → Nat → Int32) (J : Nat → Nat → Int64) (T : Option Nat) (V33 : Int32 → Int32 → Int32 → (Nat → Nat → Int32) → (Nat → Nat → Int64) → Option Nat → Prop) (P : Int64 → (Nat → Nat → Int32) → (Nat → Nat → Int64) → Option Nat → Prop) : Prop := ((x3 < (7 : Int32) → wp_X12_balanceOf (x3) I J T (fun v10 I10 J10 T10 => ix_inb (x3) 7 = true ∧ V33 (x1) (x2) (x3 + (1 : Int32)) I10 (ix_u2 J10 258 (x3).toNatClampNeg (v10)) T10)) ∧ (¬ (x3 < (7 : Int32)) → wl_X12_pays_58_33 (x1) (x2) ((0 : Int32)) I J T V33 P))
def wl_X12_pays_33 (x1 : Int32) (x2 : Int32) (x3 : Int32) (I : Nat → Nat → Int32) (J : Nat → Nat → Int64) (T : Option Nat) (P : Int64 → (Nat → Nat → Int32) → (Nat → Nat → Int64) → Option Nat → Prop) : Prop := ∀ V : Int32 → Int32 → Int32 → (Nat → Nat → Int32) → (Nat → Nat → Int64) → Option Nat → Prop, (∀ (x1 : Int32) (x2 : Int32) (x3 : Int32) (I : Nat → Nat → Int32) (J : Nat → Nat → Int64) (T : Option Nat), wb_X12_pays_33 x1 x2 x3 I J T V P → V x1 x2 x3 I J T) → V x1 x2 x3 I J T
set_option maxRecDepth 20000 in
theorem tl_X12_pays_33 {d : Nat} {x1 : Int32} {x2 : Int32} {x3 : Int32} {I : Nat → Nat → Int32} {J : Nat → Nat → Int64} {T : Option Nat} {P : Int64 → (Nat → Nat → Int32) → (Nat → Nat → Int64) → Option Nat → Prop} {Q : ix_Q} (h : wl_X12_pays_33 x1 x2 x3 I J T P) (hQ : ∀ v I J T, P v I J T → Q (some (.inr (.inl v))) (ix_mem 276 I J T)) : ix_W (ix_C (d + 2)) (12, ix_lk ix_l319, (some .long), 0, 0, Nat.blt 0 0, none) Q (33, [some (.inr (.inr (.inl (some (204))))), some (.inl (x1)), some (.inl (x2)), some (.inl (x3)), none, none, none], [], 0, 0, ix_mem 276 I J T) := by
  refine h (fun x1 x2 x3 I J T => ix_W (ix_C (d + 2)) (12, ix_lk ix_l319, (some .long), 0, 0, Nat.blt 0 0, none) Q (33, [some (.inr (.inr (.inl (some (204))))), some (.inl (x1)), some (.inl (x2)), some (.inl (x3)), none, none, none], [], 0, 0, ix_mem 276 I J T)) ?_
  intro x1 x2 x3 I J T hb
  unfold wb_X12_pays_33 at hb
  refine ix_go 3 (x' := (if x3 < (7 : Int32) then 39 else 56, [some (.inr (.inr (.inl (some (204))))), some (.inl (x1)), some (.inl (x2)), some (.inl (x3)), none, none, none], [], 0, 0, ix_mem 276 I J T)) rfl trivial ?_
  refine ix_br (fun c8 => ?_) (fun c8 => ?_)
  · have h9 := hb.1 c8
    refine ix_go 5 (x' := (46, [some (.inr (.inr (.inl (some (204))))), some (.inl (x1)), some (.inl (x2)), some (.inl (x3)), none, none, none], [.inl (x3), .inr (.inr (.inl (some (204)))), .inl (x3), .inr (.inr (.inl (some (258))))], 0, 0, ix_mem 276 I J T)) rfl ⟨rfl, rfl⟩ ?_
    refine ix_sp rfl ⟨rfl, ⟨ix_lt rfl, ix_eq rfl, ix_lt rfl⟩, ix_le rfl, Nat.le_refl _, Nat.le_refl _, tp_X12_balanceOf h9 (fun v10 I10 J10 T10 h10 => ?_)⟩
    change ix_W _ _ _ (49, [some (.inr (.inr (.inl (some (204))))), some (.inl (x1)), some (.inl (x2)), some (.inl (x3)), none, none, none], [.inr (.inl (v10)), .inl (x3), .inr (.inr (.inl (some (258))))], 0, 0, ix_mem 276 I10 J10 T10)
    obtain ⟨p11, h12⟩ := h10
    refine ix_go 3 (x' := (33, [some (.inr (.inr (.inl (some (204))))), some (.inl (x1)), some (.inl (x2)), some (.inl (x3 + (1 : Int32))), none, none, none], [], 0, 0, ix_mem 276 I10 (ix_u2 J10 258 (x3).toNatClampNeg (v10)) T10)) rfl ⟨rfl, rfl, p11⟩ ?_
    refine ix_subW ([some (.inr (.inr (.inl (some (204))))), some (.inl (x1)), some (.inl (x2)), some (.inl (x3 + (1 : Int32))), none, none, none]) (ix_subS (ix_subS (ix_subS (ix_subS (ix_subS (ix_subS (ix_subS (ix_sub0)))))))) ?_
    exact h12
  · have h9 := hb.2 c8
    refine ix_go 2 (x' := (58, [some (.inr (.inr (.inl (some (204))))), some (.inl (x1)), some (.inl (x2)), some (.inl ((0 : Int32))), none, none, none], [], 0, 0, ix_mem 276 I J T)) rfl trivial ?_
    refine ix_subW ([some (.inr (.inr (.inl (some (204))))), some (.inl (x1)), some (.inl (x2)), some (.inl ((0 : Int32))), none, none, none]) (ix_subS (ix_subS (ix_subS (ix_subS (ix_subS (ix_subS (ix_subS (ix_sub0)))))))) ?_
    exact tl_X12_pays_58_33 h9 (fun _ _ _ I J T hv => hv) hQ
def wp_X12_pays (a0 : Int32) (a1 : Int32) (I : Nat → Nat → Int32) (J : Nat → Nat → Int64) (T : Option Nat) (P : Int64 → (Nat → Nat → Int32) → (Nat → Nat → Int64) → Option Nat → Prop) : Prop := wp_X12_areTwo (a0) (a1) I J T (fun v1 I1 J1 T1 => ((v1 = 0 → wp_X12_refuse ((1 : Int32)) I1 J1 T1 (fun v4 I4 J4 T4 => P ((v4).toInt64) I4 J4 T4)) ∧ (¬ (v1 = 0) → ((I1 204 80 = 0 → wp_X12_refuse ((6 : Int32)) I1 J1 T1 (fun v7 I7 J7 T7 => P ((v7).toInt64) I7 J7 T7)) ∧ (¬ (I1 204 80 = 0) → wl_X12_pays_33 (a0) (a1) ((0 : Int32)) I1 J1 T1 P)))))
set_option maxRecDepth 20000 in
theorem tp_X12_pays {d : Nat} {a0 : Int32} {a1 : Int32} {I : Nat → Nat → Int32} {J : Nat → Nat → Int64} {T : Option Nat} {P : Int64 → (Nat → Nat → Int32) → (Nat → Nat → Int64) → Option Nat → Prop} {Q : ix_Q} (h : wp_X12_pays a0 a1 I J T P) (hQ : ∀ v I J T, P v I J T → Q (some (.inr (.inl v))) (ix_mem 276 I J T)) : ix_C (d + 3) 319 [.inr (.inr (.inl (some (204)))), .inl (a0), .inl (a1)] (ix_mem 276 I J T) Q := by
  unfold wp_X12_pays at h
  refine ix_enter (ls := [some (.inr (.inr (.inl (some (204))))), some (.inl (a0)), some (.inl (a1)), none, none, none, none]) rfl rfl rfl (Nat.le_of_ble_eq_true rfl) ?_
  refine ix_go 3 (x' := (3, [some (.inr (.inr (.inl (some (204))))), some (.inl (a0)), some (.inl (a1)), none, none, none, none], [.inl (a1), .inl (a0), .inr (.inr (.inl (some (204))))], 0, 0, ix_mem 276 I J T)) rfl trivial ?_
  refine ix_sp rfl ⟨rfl, ⟨ix_lt rfl, ix_eq rfl, ix_lt rfl⟩, ix_le rfl, Nat.le_refl _, Nat.le_refl _, tp_X12_areTwo h (fun v1 I1 J1 T1 h1 => ?_)⟩
  change ix_W _ _ _ (6, [some (.inr (.inr (.inl (some (204))))), some (.inl (a0)), some (.inl (a1)), none, none, none, none], [.inl (v1)], 0, 0, ix_mem 276 I1 J1 T1)
  refine ix_go 1 (x' := (if v1 = 0 then 9 else 16, [some (.inr (.inr (.inl (some (204))))), some (.inl (a0)), some (.inl (a1)), none, none, none, none], [], 0, 0, ix_mem 276 I1 J1 T1)) rfl trivial ?_
  refine ix_br (fun c2 => ?_) (fun c2 => ?_)
  · have h3 := h1.1 c2
    refine ix_go 2 (x' := (11, [some (.inr (.inr (.inl (some (204))))), some (.inl (a0)), some (.inl (a1)), none, none, none, none], [.inl ((1 : Int32)), .inr (.inr (.inl (some (204))))], 0, 0, ix_mem 276 I1 J1 T1)) rfl trivial ?_
    refine ix_sp rfl ⟨rfl, ⟨ix_lt rfl, ix_eq rfl, ix_lt rfl⟩, ix_le rfl, Nat.le_refl _, Nat.le_refl _, tp_X12_refuse h3 (fun v4 I4 J4 T4 h4 => ?_)⟩
    change ix_W _ _ _ (14, [some (.inr (.inr (.inl (some (204))))), some (.inl (a0)), some (.inl (a1)), none, none, none, none], [.inl (v4)], 0, 0, ix_mem 276 I4 J4 T4)
    refine ix_go 1 (x' := (15, [some (.inr (.inr (.inl (some (204))))), some (.inl (a0)), some (.inl (a1)), none, none, none, none], [.inr (.inl ((v4).toInt64))], 0, 0, ix_mem 276 I4 J4 T4)) rfl trivial ?_
    exact ix_sp rfl ⟨Nat.le_refl _, Nat.le_refl _, rfl, hQ _ _ _ _ h4⟩
  · have h3 := h1.2 c2
    refine ix_go 3 (x' := (if I1 204 80 = 0 then 23 else 31, [some (.inr (.inr (.inl (some (204))))), some (.inl (a0)), some (.inl (a1)), none, none, none, none], [], 0, 0, ix_mem 276 I1 J1 T1)) rfl ⟨rfl, rfl⟩ ?_
    refine ix_br (fun c5 => ?_) (fun c5 => ?_)
    · have h6 := h3.1 c5
      refine ix_go 2 (x' := (26, [some (.inr (.inr (.inl (some (204))))), some (.inl (a0)), some (.inl (a1)), none, none, none, none], [.inl ((6 : Int32)), .inr (.inr (.inl (some (204))))], 0, 0, ix_mem 276 I1 J1 T1)) rfl trivial ?_
      refine ix_sp rfl ⟨rfl, ⟨ix_lt rfl, ix_eq rfl, ix_lt rfl⟩, ix_le rfl, Nat.le_refl _, Nat.le_refl _, tp_X12_refuse h6 (fun v7 I7 J7 T7 h7 => ?_)⟩
      change ix_W _ _ _ (29, [some (.inr (.inr (.inl (some (204))))), some (.inl (a0)), some (.inl (a1)), none, none, none, none], [.inl (v7)], 0, 0, ix_mem 276 I7 J7 T7)
      refine ix_go 1 (x' := (30, [some (.inr (.inr (.inl (some (204))))), some (.inl (a0)), some (.inl (a1)), none, none, none, none], [.inr (.inl ((v7).toInt64))], 0, 0, ix_mem 276 I7 J7 T7)) rfl trivial ?_
      exact ix_sp rfl ⟨Nat.le_refl _, Nat.le_refl _, rfl, hQ _ _ _ _ h7⟩
    · have h6 := h3.2 c5
      refine ix_go 2 (x' := (33, [some (.inr (.inr (.inl (some (204))))), some (.inl (a0)), some (.inl (a1)), some (.inl ((0 : Int32))), none, none, none], [], 0, 0, ix_mem 276 I1 J1 T1)) rfl trivial ?_
      refine ix_subW ([some (.inr (.inr (.inl (some (204))))), some (.inl (a0)), some (.inl (a1)), some (.inl ((0 : Int32))), none, none, none]) (ix_subS (ix_subS (ix_subS (ix_subS (ix_subS (ix_subS (ix_subS (ix_sub0)))))))) ?_
      exact tl_X12_pays_33 h6 hQ
def wp_X12_rules (a0 : Int32) (a1 : Int32) (a2 : Int32) (I : Nat → Nat → Int32) (J : Nat → Nat → Int64) (T : Option Nat) (P : Int32 → (Nat → Nat → Int32) → (Nat → Nat → Int64) → Option Nat → Prop) : Prop := ((a0 < 0 → wp_X12_is ((1 : Int32)) I J T (fun v3 I3 J3 T3 => ix_01 (v3) = true ∧ P (v3) I3 J3 T3)) ∧ (¬ (a0 < 0) → ((a0 ≤ (60 : Int32) → ((a1 < (1 : Int32) → wp_X12_is ((1 : Int32)) I J T (fun v8 I8 J8 T8 => ix_01 (v8) = true ∧ P (v8) I8 J8 T8)) ∧ (¬ (a1 < (1 : Int32)) → ((a1 ≤ (365 : Int32) → ((a2 < 0 → wp_X12_is ((1 : Int32)) I J T (fun v13 I13 J13 T13 => ix_01 (v13) = true ∧ P (v13) I13 J13 T13)) ∧ (¬ (a2 < 0) → ((a2 ≤ (100000 : Int32) → wp_X12_is ((0 : Int32)) (ix_u2 (ix_u2 (ix_u2 I 204 84 (a0)) 204 85 (a1)) 204 86 (a2)) J T (fun v16 I16 J16 T16 => ix_01 (v16) = true ∧ P (v16) I16 J16 T16)) ∧ (¬ (a2 ≤ (100000 : Int32)) → wp_X12_is ((1 : Int32)) I J T (fun v17 I17 J17 T17 => ix_01 (v17) = true ∧ P (v17) I17 J17 T17)))))) ∧ (¬ (a1 ≤ (365 : Int32)) → wp_X12_is ((1 : Int32)) I J T (fun v18 I18 J18 T18 => ix_01 (v18) = true ∧ P (v18) I18 J18 T18)))))) ∧ (¬ (a0 ≤ (60 : Int32)) → wp_X12_is ((1 : Int32)) I J T (fun v19 I19 J19 T19 => ix_01 (v19) = true ∧ P (v19) I19 J19 T19)))))
set_option maxRecDepth 20000 in
theorem tp_X12_rules {d : Nat} {a0 : Int32} {a1 : Int32} {a2 : Int32} {I : Nat → Nat → Int32} {J : Nat → Nat → Int64} {T : Option Nat} {P : Int32 → (Nat → Nat → Int32) → (Nat → Nat → Int64) → Option Nat → Prop} {Q : ix_Q} (h : wp_X12_rules a0 a1 a2 I J T P) (hQ : ∀ v I J T, P v I J T → Q (some (.inl v)) (ix_mem 276 I J T)) : ix_C (d + 2) 320 [.inr (.inr (.inl (some (204)))), .inl (a0), .inl (a1), .inl (a2)] (ix_mem 276 I J T) Q := by
  unfold wp_X12_rules at h
  refine ix_enter (ls := [some (.inr (.inr (.inl (some (204))))), some (.inl (a0)), some (.inl (a1)), some (.inl (a2))]) rfl rfl rfl (Nat.le_of_ble_eq_true rfl) ?_
  refine ix_go 2 (x' := (if a0 < 0 then 33 else 4, [some (.inr (.inr (.inl (some (204))))), some (.inl (a0)), some (.inl (a1)), some (.inl (a2))], [], 0, 0, ix_mem 276 I J T)) rfl trivial ?_
  refine ix_br (fun c1 => ?_) (fun c1 => ?_)
  · have h2 := h.1 c1
    refine ix_go 2 (x' := (35, [some (.inr (.inr (.inl (some (204))))), some (.inl (a0)), some (.inl (a1)), some (.inl (a2))], [.inl ((1 : Int32)), .inr (.inr (.inl (some (204))))], 0, 0, ix_mem 276 I J T)) rfl trivial ?_
    refine ix_sp rfl ⟨rfl, ⟨ix_lt rfl, ix_eq rfl, ix_lt rfl⟩, ix_le rfl, Nat.le_refl _, Nat.le_refl _, tp_X12_is h2 (fun v3 I3 J3 T3 h3 => ?_)⟩
    change ix_W _ _ _ (38, [some (.inr (.inr (.inl (some (204))))), some (.inl (a0)), some (.inl (a1)), some (.inl (a2))], [.inl (v3)], 0, 0, ix_mem 276 I3 J3 T3)
    exact ix_sp rfl ⟨Nat.le_refl _, Nat.le_refl _, ix_01_ok h3.1, hQ _ _ _ _ h3.2⟩
  · have h2 := h.2 c1
    refine ix_go 3 (x' := (if a0 ≤ (60 : Int32) then 10 else 33, [some (.inr (.inr (.inl (some (204))))), some (.inl (a0)), some (.inl (a1)), some (.inl (a2))], [], 0, 0, ix_mem 276 I J T)) rfl trivial ?_
    refine ix_br (fun c4 => ?_) (fun c4 => ?_)
    · have h5 := h2.1 c4
      refine ix_go 3 (x' := (if a1 < (1 : Int32) then 33 else 15, [some (.inr (.inr (.inl (some (204))))), some (.inl (a0)), some (.inl (a1)), some (.inl (a2))], [], 0, 0, ix_mem 276 I J T)) rfl trivial ?_
      refine ix_br (fun c6 => ?_) (fun c6 => ?_)
      · have h7 := h5.1 c6
        refine ix_go 2 (x' := (35, [some (.inr (.inr (.inl (some (204))))), some (.inl (a0)), some (.inl (a1)), some (.inl (a2))], [.inl ((1 : Int32)), .inr (.inr (.inl (some (204))))], 0, 0, ix_mem 276 I J T)) rfl trivial ?_
        refine ix_sp rfl ⟨rfl, ⟨ix_lt rfl, ix_eq rfl, ix_lt rfl⟩, ix_le rfl, Nat.le_refl _, Nat.le_refl _, tp_X12_is h7 (fun v8 I8 J8 T8 h8 => ?_)⟩
        change ix_W _ _ _ (38, [some (.inr (.inr (.inl (some (204))))), some (.inl (a0)), some (.inl (a1)), some (.inl (a2))], [.inl (v8)], 0, 0, ix_mem 276 I8 J8 T8)
        exact ix_sp rfl ⟨Nat.le_refl _, Nat.le_refl _, ix_01_ok h8.1, hQ _ _ _ _ h8.2⟩
      · have h7 := h5.2 c6
        refine ix_go 3 (x' := (if a1 ≤ (365 : Int32) then 22 else 33, [some (.inr (.inr (.inl (some (204))))), some (.inl (a0)), some (.inl (a1)), some (.inl (a2))], [], 0, 0, ix_mem 276 I J T)) rfl trivial ?_
        refine ix_br (fun c9 => ?_) (fun c9 => ?_)
        · have h10 := h7.1 c9
          refine ix_go 2 (x' := (if a2 < 0 then 33 else 26, [some (.inr (.inr (.inl (some (204))))), some (.inl (a0)), some (.inl (a1)), some (.inl (a2))], [], 0, 0, ix_mem 276 I J T)) rfl trivial ?_
          refine ix_br (fun c11 => ?_) (fun c11 => ?_)
          · have h12 := h10.1 c11
            refine ix_go 2 (x' := (35, [some (.inr (.inr (.inl (some (204))))), some (.inl (a0)), some (.inl (a1)), some (.inl (a2))], [.inl ((1 : Int32)), .inr (.inr (.inl (some (204))))], 0, 0, ix_mem 276 I J T)) rfl trivial ?_
            refine ix_sp rfl ⟨rfl, ⟨ix_lt rfl, ix_eq rfl, ix_lt rfl⟩, ix_le rfl, Nat.le_refl _, Nat.le_refl _, tp_X12_is h12 (fun v13 I13 J13 T13 h13 => ?_)⟩
            change ix_W _ _ _ (38, [some (.inr (.inr (.inl (some (204))))), some (.inl (a0)), some (.inl (a1)), some (.inl (a2))], [.inl (v13)], 0, 0, ix_mem 276 I13 J13 T13)
            exact ix_sp rfl ⟨Nat.le_refl _, Nat.le_refl _, ix_01_ok h13.1, hQ _ _ _ _ h13.2⟩
          · have h12 := h10.2 c11
            refine ix_go 3 (x' := (if a2 ≤ (100000 : Int32) then 39 else 33, [some (.inr (.inr (.inl (some (204))))), some (.inl (a0)), some (.inl (a1)), some (.inl (a2))], [], 0, 0, ix_mem 276 I J T)) rfl trivial ?_
            refine ix_br (fun c14 => ?_) (fun c14 => ?_)
            · have h15 := h12.1 c14
              refine ix_go 7 (x' := (50, [some (.inr (.inr (.inl (some (204))))), some (.inl (a0)), some (.inl (a1)), some (.inl (a2))], [.inr (.inr (.inl (some (204))))], 0, 0, ix_mem 276 (ix_u2 (ix_u2 I 204 84 (a0)) 204 85 (a1)) J T)) rfl ⟨rfl, rfl, rfl, rfl⟩ ?_
              refine ix_go 4 (x' := (56, [some (.inr (.inr (.inl (some (204))))), some (.inl (a0)), some (.inl (a1)), some (.inl (a2))], [.inl ((0 : Int32)), .inr (.inr (.inl (some (204))))], 0, 0, ix_mem 276 (ix_u2 (ix_u2 (ix_u2 I 204 84 (a0)) 204 85 (a1)) 204 86 (a2)) J T)) rfl ⟨rfl, rfl⟩ ?_
              refine ix_sp rfl ⟨rfl, ⟨ix_lt rfl, ix_eq rfl, ix_lt rfl⟩, ix_le rfl, Nat.le_refl _, Nat.le_refl _, tp_X12_is h15 (fun v16 I16 J16 T16 h16 => ?_)⟩
              change ix_W _ _ _ (59, [some (.inr (.inr (.inl (some (204))))), some (.inl (a0)), some (.inl (a1)), some (.inl (a2))], [.inl (v16)], 0, 0, ix_mem 276 I16 J16 T16)
              exact ix_sp rfl ⟨Nat.le_refl _, Nat.le_refl _, ix_01_ok h16.1, hQ _ _ _ _ h16.2⟩
            · have h15 := h12.2 c14
              refine ix_go 2 (x' := (35, [some (.inr (.inr (.inl (some (204))))), some (.inl (a0)), some (.inl (a1)), some (.inl (a2))], [.inl ((1 : Int32)), .inr (.inr (.inl (some (204))))], 0, 0, ix_mem 276 I J T)) rfl trivial ?_
              refine ix_sp rfl ⟨rfl, ⟨ix_lt rfl, ix_eq rfl, ix_lt rfl⟩, ix_le rfl, Nat.le_refl _, Nat.le_refl _, tp_X12_is h15 (fun v17 I17 J17 T17 h17 => ?_)⟩
              change ix_W _ _ _ (38, [some (.inr (.inr (.inl (some (204))))), some (.inl (a0)), some (.inl (a1)), some (.inl (a2))], [.inl (v17)], 0, 0, ix_mem 276 I17 J17 T17)
              exact ix_sp rfl ⟨Nat.le_refl _, Nat.le_refl _, ix_01_ok h17.1, hQ _ _ _ _ h17.2⟩
        · have h10 := h7.2 c9
          refine ix_go 2 (x' := (35, [some (.inr (.inr (.inl (some (204))))), some (.inl (a0)), some (.inl (a1)), some (.inl (a2))], [.inl ((1 : Int32)), .inr (.inr (.inl (some (204))))], 0, 0, ix_mem 276 I J T)) rfl trivial ?_
          refine ix_sp rfl ⟨rfl, ⟨ix_lt rfl, ix_eq rfl, ix_lt rfl⟩, ix_le rfl, Nat.le_refl _, Nat.le_refl _, tp_X12_is h10 (fun v18 I18 J18 T18 h18 => ?_)⟩
          change ix_W _ _ _ (38, [some (.inr (.inr (.inl (some (204))))), some (.inl (a0)), some (.inl (a1)), some (.inl (a2))], [.inl (v18)], 0, 0, ix_mem 276 I18 J18 T18)
          exact ix_sp rfl ⟨Nat.le_refl _, Nat.le_refl _, ix_01_ok h18.1, hQ _ _ _ _ h18.2⟩
    · have h5 := h2.2 c4
      refine ix_go 2 (x' := (35, [some (.inr (.inr (.inl (some (204))))), some (.inl (a0)), some (.inl (a1)), some (.inl (a2))], [.inl ((1 : Int32)), .inr (.inr (.inl (some (204))))], 0, 0, ix_mem 276 I J T)) rfl trivial ?_
      refine ix_sp rfl ⟨rfl, ⟨ix_lt rfl, ix_eq rfl, ix_lt rfl⟩, ix_le rfl, Nat.le_refl _, Nat.le_refl _, tp_X12_is h5 (fun v19 I19 J19 T19 h19 => ?_)⟩
      change ix_W _ _ _ (38, [some (.inr (.inr (.inl (some (204))))), some (.inl (a0)), some (.inl (a1)), some (.inl (a2))], [.inl (v19)], 0, 0, ix_mem 276 I19 J19 T19)
      exact ix_sp rfl ⟨Nat.le_refl _, Nat.le_refl _, ix_01_ok h19.1, hQ _ _ _ _ h19.2⟩
def wb_X12_bag_197_78_137 (x1 : Int32) (x2 : Int32) (x3 : Int32) (x4 : Int32) (x5 : Int32) (x6 : Int32) (x7 : Int32) (I : Nat → Nat → Int32) (J : Nat → Nat → Int64) (T : Option Nat) (V197 : Int32 → Int32 → Int32 → Int32 → Int32 → Int32 → Int32 → (Nat → Nat → Int32) → (Nat → Nat → Int64) → Option Nat → Prop) (V78 : Int32 → Int32 → Int32 → Int32 → Int32 → (Nat → Nat → Int32) → (Nat → Nat → Int64) → Option Nat → Prop) (V137 : Int32 → Int32 → Int32 → Int32 → Int32 → (Nat → Nat → Int32) → (Nat → Nat → Int64) → Option Nat → Prop) (P : Int32 → (Nat → Nat → Int32) → (Nat → Nat → Int64) → Option Nat → Prop) : Prop := ((x7 < x5 → ix_inb ((((60 : Int32)) * (x2)) + (x7)) 240 = true ∧ ((lg_cmp (J 207 ((((60 : Int32)) * (x2)) + (x7)).toNatClampNeg) ((x6).toInt64) = 0 → wp_X12_refuse ((6 : Int32)) I J T (fun v53 I53 J53 T53 => P (v53) I53 J53 T53)) ∧ (¬ (lg_cmp (J 207 ((((60 : Int32)) * (x2)) + (x7)).toNatClampNeg) ((x6).toInt64) = 0) → V197 (x1) (x2) (x3) (x4) (x5) (x6) (x7 + (1 : Int32)) I J T))) ∧ (¬ (x7 < x5) → V137 (x1) (x2) (x3) (x4) (x5 + (1 : Int32)) I J T))
def wl_X12_bag_197_78_137 (x1 : Int32) (x2 : Int32) (x3 : Int32) (x4 : Int32) (x5 : Int32) (x6 : Int32) (x7 : Int32) (I : Nat → Nat → Int32) (J : Nat → Nat → Int64) (T : Option Nat) (V78 : Int32 → Int32 → Int32 → Int32 → Int32 → (Nat → Nat → Int32) → (Nat → Nat → Int64) → Option Nat → Prop) (V137 : Int32 → Int32 → Int32 → Int32 → Int32 → (Nat → Nat → Int32) → (Nat → Nat → Int64) → Option Nat → Prop) (P : Int32 → (Nat → Nat → Int32) → (Nat → Nat → Int64) → Option Nat → Prop) : Prop := ∀ V : Int32 → Int32 → Int32 → Int32 → Int32 → Int32 → Int32 → (Nat → Nat → Int32) → (Nat → Nat → Int64) → Option Nat → Prop, (∀ (x1 : Int32) (x2 : Int32) (x3 : Int32) (x4 : Int32) (x5 : Int32) (x6 : Int32) (x7 : Int32) (I : Nat → Nat → Int32) (J : Nat → Nat → Int64) (T : Option Nat), wb_X12_bag_197_78_137 x1 x2 x3 x4 x5 x6 x7 I J T V V78 V137 P → V x1 x2 x3 x4 x5 x6 x7 I J T) → V x1 x2 x3 x4 x5 x6 x7 I J T
set_option maxRecDepth 20000 in
theorem tl_X12_bag_197_78_137 {d : Nat} {x1 : Int32} {x2 : Int32} {x3 : Int32} {x4 : Int32} {x5 : Int32} {x6 : Int32} {x7 : Int32} {I : Nat → Nat → Int32} {J : Nat → Nat → Int64} {T : Option Nat} {V78 : Int32 → Int32 → Int32 → Int32 → Int32 → (Nat → Nat → Int32) → (Nat → Nat → Int64) → Option Nat → Prop} {V137 : Int32 → Int32 → Int32 → Int32 → Int32 → (Nat → Nat → Int32) → (Nat → Nat → Int64) → Option Nat → Prop} {P : Int32 → (Nat → Nat → Int32) → (Nat → Nat → Int64) → Option Nat → Prop} {Q : ix_Q} (h : wl_X12_bag_197_78_137 x1 x2 x3 x4 x5 x6 x7 I J T V78 V137 P) (hV78 : ∀ (x1 : Int32) (x2 : Int32) (x3 : Int32) (x4 : Int32) (x5 : Int32) I J T, V78 x1 x2 x3 x4 x5 I J T → ix_W (ix_C (d + 1)) (12, ix_lk ix_l321, (some .int), 0, 0, Nat.blt 0 0, none) Q (78, [some (.inr (.inr (.inl (some (204))))), some (.inl (x1)), some (.inl (x2)), some (.inl (x3)), some (.inl (x4)), some (.inl (x5)), none, none], [], 0, 0, ix_mem 276 I J T)) (hV137 : ∀ (x1 : Int32) (x2 : Int32) (x3 : Int32) (x4 : Int32) (x5 : Int32) I J T, V137 x1 x2 x3 x4 x5 I J T → ix_W (ix_C (d + 1)) (12, ix_lk ix_l321, (some .int), 0, 0, Nat.blt 0 0, none) Q (137, [some (.inr (.inr (.inl (some (204))))), some (.inl (x1)), some (.inl (x2)), some (.inl (x3)), some (.inl (x4)), some (.inl (x5)), none, none], [], 0, 0, ix_mem 276 I J T)) (hQ : ∀ v I J T, P v I J T → Q (some (.inl v)) (ix_mem 276 I J T)) : ix_W (ix_C (d + 1)) (12, ix_lk ix_l321, (some .int), 0, 0, Nat.blt 0 0, none) Q (197, [some (.inr (.inr (.inl (some (204))))), some (.inl (x1)), some (.inl (x2)), some (.inl (x3)), some (.inl (x4)), some (.inl (x5)), some (.inl (x6)), some (.inl (x7))], [], 0, 0, ix_mem 276 I J T) := by
  refine h (fun x1 x2 x3 x4 x5 x6 x7 I J T => ix_W (ix_C (d + 1)) (12, ix_lk ix_l321, (some .int), 0, 0, Nat.blt 0 0, none) Q (197, [some (.inr (.inr (.inl (some (204))))), some (.inl (x1)), some (.inl (x2)), some (.inl (x3)), some (.inl (x4)), some (.inl (x5)), some (.inl (x6)), some (.inl (x7))], [], 0, 0, ix_mem 276 I J T)) ?_
  intro x1 x2 x3 x4 x5 x6 x7 I J T hb
  unfold wb_X12_bag_197_78_137 at hb
  refine ix_go 3 (x' := (if x7 < x5 then 204 else 236, [some (.inr (.inr (.inl (some (204))))), some (.inl (x1)), some (.inl (x2)), some (.inl (x3)), some (.inl (x4)), some (.inl (x5)), some (.inl (x6)), some (.inl (x7))], [], 0, 0, ix_mem 276 I J T)) rfl trivial ?_
  refine ix_br (fun c47 => ?_) (fun c47 => ?_)
  · have h48 := hb.1 c47
    refine ix_go 7 (x' := (215, [some (.inr (.inr (.inl (some (204))))), some (.inl (x1)), some (.inl (x2)), some (.inl (x3)), some (.inl (x4)), some (.inl (x5)), some (.inl (x6)), some (.inl (x7))], [.inl ((((60 : Int32)) * (x2)) + (x7)), .inr (.inr (.inl (some (207))))], 0, 0, ix_mem 276 I J T)) rfl ⟨rfl, rfl⟩ ?_
    obtain ⟨p49, h50⟩ := h48
    refine ix_go 5 (x' := (if lg_cmp (J 207 ((((60 : Int32)) * (x2)) + (x7)).toNatClampNeg) ((x6).toInt64) = 0 then 223 else 230, [some (.inr (.inr (.inl (some (204))))), some (.inl (x1)), some (.inl (x2)), some (.inl (x3)), some (.inl (x4)), some (.inl (x5)), some (.inl (x6)), some (.inl (x7))], [], 0, 0, ix_mem 276 I J T)) rfl ⟨rfl, rfl, p49⟩ ?_
    refine ix_br (fun c51 => ?_) (fun c51 => ?_)
    · have h52 := h50.1 c51
      refine ix_go 2 (x' := (226, [some (.inr (.inr (.inl (some (204))))), some (.inl (x1)), some (.inl (x2)), some (.inl (x3)), some (.inl (x4)), some (.inl (x5)), some (.inl (x6)), some (.inl (x7))], [.inl ((6 : Int32)), .inr (.inr (.inl (some (204))))], 0, 0, ix_mem 276 I J T)) rfl trivial ?_
      refine ix_sp rfl ⟨rfl, ⟨ix_lt rfl, ix_eq rfl, ix_lt rfl⟩, ix_le rfl, Nat.le_refl _, Nat.le_refl _, tp_X12_refuse h52 (fun v53 I53 J53 T53 h53 => ?_)⟩
      change ix_W _ _ _ (229, [some (.inr (.inr (.inl (some (204))))), some (.inl (x1)), some (.inl (x2)), some (.inl (x3)), some (.inl (x4)), some (.inl (x5)), some (.inl (x6)), some (.inl (x7))], [.inl (v53)], 0, 0, ix_mem 276 I53 J53 T53)
      exact ix_sp rfl ⟨Nat.le_refl _, Nat.le_refl _, trivial, hQ _ _ _ _ h53⟩
    · have h52 := h50.2 c51
      refine ix_go 2 (x' := (197, [some (.inr (.inr (.inl (some (204))))), some (.inl (x1)), some (.inl (x2)), some (.inl (x3)), some (.inl (x4)), some (.inl (x5)), some (.inl (x6)), some (.inl (x7 + (1 : Int32)))], [], 0, 0, ix_mem 276 I J T)) rfl trivial ?_
      refine ix_subW ([some (.inr (.inr (.inl (some (204))))), some (.inl (x1)), some (.inl (x2)), some (.inl (x3)), some (.inl (x4)), some (.inl (x5)), some (.inl (x6)), some (.inl (x7 + (1 : Int32)))]) (ix_subS (ix_subS (ix_subS (ix_subS (ix_subS (ix_subS (ix_subS (ix_subS (ix_sub0))))))))) ?_
      exact h52
  · have h48 := hb.2 c47
    refine ix_go 2 (x' := (137, [some (.inr (.inr (.inl (some (204))))), some (.inl (x1)), some (.inl (x2)), some (.inl (x3)), some (.inl (x4)), some (.inl (x5 + (1 : Int32))), some (.inl (x6)), some (.inl (x7))], [], 0, 0, ix_mem 276 I J T)) rfl trivial ?_
    refine ix_subW ([some (.inr (.inr (.inl (some (204))))), some (.inl (x1)), some (.inl (x2)), some (.inl (x3)), some (.inl (x4)), some (.inl (x5 + (1 : Int32))), none, none]) (ix_subS (ix_subS (ix_subS (ix_subS (ix_subS (ix_subS (ix_subN (ix_subN (ix_sub0))))))))) ?_
    exact hV137 _ _ _ _ _ _ _ _ h48
def wb_X12_bag_260_78_137 (x1 : Int32) (x2 : Int32) (x3 : Int32) (x4 : Int32) (x5 : Int32) (I : Nat → Nat → Int32) (J : Nat → Nat → Int64) (T : Option Nat) (V260 : Int32 → Int32 → Int32 → Int32 → Int32 → (Nat → Nat → Int32) → (Nat → Nat → Int64) → Option Nat → Prop) (V78 : Int32 → Int32 → Int32 → Int32 → Int32 → (Nat → Nat → Int32) → (Nat → Nat → Int64) → Option Nat → Prop) (V137 : Int32 → Int32 → Int32 → Int32 → Int32 → (Nat → Nat → Int32) → (Nat → Nat → Int64) → Option Nat → Prop) (P : Int32 → (Nat → Nat → Int32) → (Nat → Nat → Int64) → Option Nat → Prop) : Prop := ((x5 < x3 → ix_inb ((((60 : Int32)) * (x2)) + (x5)) 240 = true ∧ ix_inb ((((5 : Int32)) * (I 204 81)) + (x5)) 150 = true ∧ V260 (x1) (x2) (x3) (x4) (x5 + (1 : Int32)) (ix_u2 I 262 ((((5 : Int32)) * (I 204 81)) + (x5)).toNatClampNeg ((J 207 ((((60 : Int32)) * (x2)) + (x5)).toNatClampNeg).toInt32)) J T) ∧ (¬ (x5 < x3) → ix_inb (I 204 81) 30 = true ∧ ix_inb (I 204 81) 30 = true ∧ ix_inb (I 204 81) 30 = true ∧ wp_X12_gives ((((I 204 81) + ((1 : Int32)))) - ((1 : Int32))) (ix_u2 (ix_u2 (ix_u2 (ix_u2 I 259 (I 204 81).toNatClampNeg (x1)) 260 (I 204 81).toNatClampNeg (x3)) 261 (I 204 81).toNatClampNeg (x4)) 204 81 ((I 204 81) + ((1 : Int32)))) J T (fun v75 I75 J75 T75 => P (v75) I75 J75 T75)))
def wl_X12_bag_260_78_137 (x1 : Int32) (x2 : Int32) (x3 : Int32) (x4 : Int32) (x5 : Int32) (I : Nat → Nat → Int32) (J : Nat → Nat → Int64) (T : Option Nat) (V78 : Int32 → Int32 → Int32 → Int32 → Int32 → (Nat → Nat → Int32) → (Nat → Nat → Int64) → Option Nat → Prop) (V137 : Int32 → Int32 → Int32 → Int32 → Int32 → (Nat → Nat → Int32) → (Nat → Nat → Int64) → Option Nat → Prop) (P : Int32 → (Nat → Nat → Int32) → (Nat → Nat → Int64) → Option Nat → Prop) : Prop := ∀ V : Int32 → Int32 → Int32 → Int32 → Int32 → (Nat → Nat → Int32) → (Nat → Nat → Int64) → Option Nat → Prop, (∀ (x1 : Int32) (x2 : Int32) (x3 : Int32) (x4 : Int32) (x5 : Int32) (I : Nat → Nat → Int32) (J : Nat → Nat → Int64) (T : Option Nat), wb_X12_bag_260_78_137 x1 x2 x3 x4 x5 I J T V V78 V137 P → V x1 x2 x3 x4 x5 I J T) → V x1 x2 x3 x4 x5 I J T
set_option maxRecDepth 20000 in
theorem tl_X12_bag_260_78_137 {d : Nat} {x1 : Int32} {x2 : Int32} {x3 : Int32} {x4 : Int32} {x5 : Int32} {I : Nat → Nat → Int32} {J : Nat → Nat → Int64} {T : Option Nat} {V78 : Int32 → Int32 → Int32 → Int32 → Int32 → (Nat → Nat → Int32) → (Nat → Nat → Int64) → Option Nat → Prop} {V137 : Int32 → Int32 → Int32 → Int32 → Int32 → (Nat → Nat → Int32) → (Nat → Nat → Int64) → Option Nat → Prop} {P : Int32 → (Nat → Nat → Int32) → (Nat → Nat → Int64) → Option Nat → Prop} {Q : ix_Q} (h : wl_X12_bag_260_78_137 x1 x2 x3 x4 x5 I J T V78 V137 P) (hV78 : ∀ (x1 : Int32) (x2 : Int32) (x3 : Int32) (x4 : Int32) (x5 : Int32) I J T, V78 x1 x2 x3 x4 x5 I J T → ix_W (ix_C (d + 1)) (12, ix_lk ix_l321, (some .int), 0, 0, Nat.blt 0 0, none) Q (78, [some (.inr (.inr (.inl (some (204))))), some (.inl (x1)), some (.inl (x2)), some (.inl (x3)), some (.inl (x4)), some (.inl (x5)), none, none], [], 0, 0, ix_mem 276 I J T)) (hV137 : ∀ (x1 : Int32) (x2 : Int32) (x3 : Int32) (x4 : Int32) (x5 : Int32) I J T, V137 x1 x2 x3 x4 x5 I J T → ix_W (ix_C (d + 1)) (12, ix_lk ix_l321, (some .int), 0, 0, Nat.blt 0 0, none) Q (137, [some (.inr (.inr (.inl (some (204))))), some (.inl (x1)), some (.inl (x2)), some (.inl (x3)), some (.inl (x4)), some (.inl (x5)), none, none], [], 0, 0, ix_mem 276 I J T)) (hQ : ∀ v I J T, P v I J T → Q (some (.inl v)) (ix_mem 276 I J T)) : ix_W (ix_C (d + 1)) (12, ix_lk ix_l321, (some .int), 0, 0, Nat.blt 0 0, none) Q (260, [some (.inr (.inr (.inl (some (204))))), some (.inl (x1)), some (.inl (x2)), some (.inl (x3)), some (.inl (x4)), some (.inl (x5)), none, none], [], 0, 0, ix_mem 276 I J T) := by
  refine h (fun x1 x2 x3 x4 x5 I J T => ix_W (ix_C (d + 1)) (12, ix_lk ix_l321, (some .int), 0, 0, Nat.blt 0 0, none) Q (260, [some (.inr (.inr (.inl (some (204))))), some (.inl (x1)), some (.inl (x2)), some (.inl (x3)), some (.inl (x4)), some (.inl (x5)), none, none], [], 0, 0, ix_mem 276 I J T)) ?_
  intro x1 x2 x3 x4 x5 I J T hb
  unfold wb_X12_bag_260_78_137 at hb
  refine ix_go 3 (x' := (if x5 < x3 then 266 else 299, [some (.inr (.inr (.inl (some (204))))), some (.inl (x1)), some (.inl (x2)), some (.inl (x3)), some (.inl (x4)), some (.inl (x5)), none, none], [], 0, 0, ix_mem 276 I J T)) rfl trivial ?_
  refine ix_br (fun c63 => ?_) (fun c63 => ?_)
  · have h64 := hb.1 c63
    refine ix_go 7 (x' := (278, [some (.inr (.inr (.inl (some (204))))), some (.inl (x1)), some (.inl (x2)), some (.inl (x3)), some (.inl (x4)), some (.inl (x5)), none, none], [.inl (x5), .inl (((5 : Int32)) * (I 204 81)), .inr (.inr (.inl (some (262))))], 0, 0, ix_mem 276 I J T)) rfl ⟨rfl, rfl, rfl, rfl⟩ ?_
    refine ix_go 7 (x' := (289, [some (.inr (.inr (.inl (some (204))))), some (.inl (x1)), some (.inl (x2)), some (.inl (x3)), some (.inl (x4)), some (.inl (x5)), none, none], [.inl (x5), .inl (((60 : Int32)) * (x2)), .inr (.inr (.inl (some (207)))), .inl ((((5 : Int32)) * (I 204 81)) + (x5)), .inr (.inr (.inl (some (262))))], 0, 0, ix_mem 276 I J T)) rfl ⟨rfl, rfl⟩ ?_
    obtain ⟨p65, h66⟩ := h64
    obtain ⟨p67, h68⟩ := h66
    refine ix_go 6 (x' := (260, [some (.inr (.inr (.inl (some (204))))), some (.inl (x1)), some (.inl (x2)), some (.inl (x3)), some (.inl (x4)), some (.inl (x5 + (1 : Int32))), none, none], [], 0, 0, ix_mem 276 (ix_u2 I 262 ((((5 : Int32)) * (I 204 81)) + (x5)).toNatClampNeg ((J 207 ((((60 : Int32)) * (x2)) + (x5)).toNatClampNeg).toInt32)) J T)) rfl ⟨rfl, rfl, p65, rfl, rfl, p67⟩ ?_
    refine ix_subW ([some (.inr (.inr (.inl (some (204))))), some (.inl (x1)), some (.inl (x2)), some (.inl (x3)), some (.inl (x4)), some (.inl (x5 + (1 : Int32))), none, none]) (ix_subS (ix_subS (ix_subS (ix_subS (ix_subS (ix_subS (ix_subS (ix_subS (ix_sub0))))))))) ?_
    exact h68
  · have h64 := hb.2 c63
    obtain ⟨p69, h70⟩ := h64
    refine ix_go 7 (x' := (310, [some (.inr (.inr (.inl (some (204))))), some (.inl (x1)), some (.inl (x2)), some (.inl (x3)), some (.inl (x4)), some (.inl (x5)), none, none], [.inr (.inr (.inl (some (204))))], 0, 0, ix_mem 276 (ix_u2 I 259 (I 204 81).toNatClampNeg (x1)) J T)) rfl ⟨rfl, rfl, rfl, rfl, rfl, rfl, p69⟩ ?_
    obtain ⟨p71, h72⟩ := h70
    refine ix_go 7 (x' := (323, [some (.inr (.inr (.inl (some (204))))), some (.inl (x1)), some (.inl (x2)), some (.inl (x3)), some (.inl (x4)), some (.inl (x5)), none, none], [.inr (.inr (.inl (some (261))))], 0, 0, ix_mem 276 (ix_u2 (ix_u2 I 259 (I 204 81).toNatClampNeg (x1)) 260 (I 204 81).toNatClampNeg (x3)) J T)) rfl ⟨rfl, rfl, rfl, rfl, rfl, rfl, p71, rfl, rfl⟩ ?_
    obtain ⟨p73, h74⟩ := h72
    refine ix_go 7 (x' := (335, [some (.inr (.inr (.inl (some (204))))), some (.inl (x1)), some (.inl (x2)), some (.inl (x3)), some (.inl (x4)), some (.inl (x5)), none, none], [.inl (I 204 81), .inr (.inr (.inl (some (204))))], 0, 0, ix_mem 276 (ix_u2 (ix_u2 (ix_u2 I 259 (I 204 81).toNatClampNeg (x1)) 260 (I 204 81).toNatClampNeg (x3)) 261 (I 204 81).toNatClampNeg (x4)) J T)) rfl ⟨rfl, rfl, rfl, rfl, p73, rfl, rfl⟩ ?_
    refine ix_go 7 (x' := (346, [some (.inr (.inr (.inl (some (204))))), some (.inl (x1)), some (.inl (x2)), some (.inl (x3)), some (.inl (x4)), some (.inl (x5)), none, none], [.inl ((1 : Int32)), .inl (((I 204 81) + ((1 : Int32)))), .inr (.inr (.inl (some (204))))], 0, 0, ix_mem 276 (ix_u2 (ix_u2 (ix_u2 (ix_u2 I 259 (I 204 81).toNatClampNeg (x1)) 260 (I 204 81).toNatClampNeg (x3)) 261 (I 204 81).toNatClampNeg (x4)) 204 81 ((I 204 81) + ((1 : Int32)))) J T)) rfl ⟨rfl, rfl, rfl, rfl⟩ ?_
    refine ix_go 1 (x' := (347, [some (.inr (.inr (.inl (some (204))))), some (.inl (x1)), some (.inl (x2)), some (.inl (x3)), some (.inl (x4)), some (.inl (x5)), none, none], [.inl ((((I 204 81) + ((1 : Int32)))) - ((1 : Int32))), .inr (.inr (.inl (some (204))))], 0, 0, ix_mem 276 (ix_u2 (ix_u2 (ix_u2 (ix_u2 I 259 (I 204 81).toNatClampNeg (x1)) 260 (I 204 81).toNatClampNeg (x3)) 261 (I 204 81).toNatClampNeg (x4)) 204 81 ((I 204 81) + ((1 : Int32)))) J T)) rfl trivial ?_
    refine ix_sp rfl ⟨rfl, ⟨ix_lt rfl, ix_eq rfl, ix_lt rfl⟩, ix_le rfl, Nat.le_refl _, Nat.le_refl _, tp_X12_gives h74 (fun v75 I75 J75 T75 h75 => ?_)⟩
    change ix_W _ _ _ (350, [some (.inr (.inr (.inl (some (204))))), some (.inl (x1)), some (.inl (x2)), some (.inl (x3)), some (.inl (x4)), some (.inl (x5)), none, none], [.inl (v75)], 0, 0, ix_mem 276 I75 J75 T75)
    exact ix_sp rfl ⟨Nat.le_refl _, Nat.le_refl _, trivial, hQ _ _ _ _ h75⟩
def wb_X12_bag_137_78 (x1 : Int32) (x2 : Int32) (x3 : Int32) (x4 : Int32) (x5 : Int32) (I : Nat → Nat → Int32) (J : Nat → Nat → Int64) (T : Option Nat) (V137 : Int32 → Int32 → Int32 → Int32 → Int32 → (Nat → Nat → Int32) → (Nat → Nat → Int64) → Option Nat → Prop) (V78 : Int32 → Int32 → Int32 → Int32 → Int32 → (Nat → Nat → Int32) → (Nat → Nat → Int64) → Option Nat → Prop) (P : Int32 → (Nat → Nat → Int32) → (Nat → Nat → Int64) → Option Nat → Prop) : Prop := ((x5 < x3 → ix_inb ((((60 : Int32)) * (x2)) + (x5)) 240 = true ∧ ((x5 ≤ 0 → wl_X12_bag_197_78_137 (x1) (x2) (x3) (x4) (x5) ((J 207 ((((60 : Int32)) * (x2)) + (x5)).toNatClampNeg).toInt32) ((0 : Int32)) I J T V78 V137 P) ∧ (¬ (x5 ≤ 0) → ix_inb (((((60 : Int32)) * (x2)) + (x5)) - ((1 : Int32))) 240 = true ∧ wp_X12_isRoad ((J 207 (((((60 : Int32)) * (x2)) + (x5)) - ((1 : Int32))).toNatClampNeg).toInt32) ((J 207 ((((60 : Int32)) * (x2)) + (x5)).toNatClampNeg).toInt32) I J T (fun v56 I56 J56 T56 => ((v56 = 0 → wp_X12_refuse ((6 : Int32)) I56 J56 T56 (fun v59 I59 J59 T59 => P (v59) I59 J59 T59)) ∧ (¬ (v56 = 0) → wl_X12_bag_197_78_137 (x1) (x2) (x3) (x4) (x5) ((J 207 ((((60 : Int32)) * (x2)) + (x5)).toNatClampNeg).toInt32) ((0 : Int32)) I56 J56 T56 V78 V137 P)))))) ∧ (¬ (x5 < x3) → ((I 204 81 = (30 : Int32) → wp_X12_refuse ((4 : Int32)) I J T (fun v62 I62 J62 T62 => P (v62) I62 J62 T62)) ∧ (¬ (I 204 81 = (30 : Int32)) → wl_X12_bag_260_78_137 (x1) (x2) (x3) (x4) ((0 : Int32)) I J T V78 V137 P))))
def wl_X12_bag_137_78 (x1 : Int32) (x2 : Int32) (x3 : Int32) (x4 : Int32) (x5 : Int32) (I : Nat → Nat → Int32) (J : Nat → Nat → Int64) (T : Option Nat) (V78 : Int32 → Int32 → Int32 → Int32 → Int32 → (Nat → Nat → Int32) → (Nat → Nat → Int64) → Option Nat → Prop) (P : Int32 → (Nat → Nat → Int32) → (Nat → Nat → Int64) → Option Nat → Prop) : Prop := ∀ V : Int32 → Int32 → Int32 → Int32 → Int32 → (Nat → Nat → Int32) → (Nat → Nat → Int64) → Option Nat → Prop, (∀ (x1 : Int32) (x2 : Int32) (x3 : Int32) (x4 : Int32) (x5 : Int32) (I : Nat → Nat → Int32) (J : Nat → Nat → Int64) (T : Option Nat), wb_X12_bag_137_78 x1 x2 x3 x4 x5 I J T V V78 P → V x1 x2 x3 x4 x5 I J T) → V x1 x2 x3 x4 x5 I J T
set_option maxRecDepth 20000 in
theorem tl_X12_bag_137_78 {d : Nat} {x1 : Int32} {x2 : Int32} {x3 : Int32} {x4 : Int32} {x5 : Int32} {I : Nat → Nat → Int32} {J : Nat → Nat → Int64} {T : Option Nat} {V78 : Int32 → Int32 → Int32 → Int32 → Int32 → (Nat → Nat → Int32) → (Nat → Nat → Int64) → Option Nat → Prop} {P : Int32 → (Nat → Nat → Int32) → (Nat → Nat → Int64) → Option Nat → Prop} {Q : ix_Q} (h : wl_X12_bag_137_78 x1 x2 x3 x4 x5 I J T V78 P) (hV78 : ∀ (x1 : Int32) (x2 : Int32) (x3 : Int32) (x4 : Int32) (x5 : Int32) I J T, V78 x1 x2 x3 x4 x5 I J T → ix_W (ix_C (d + 2)) (12, ix_lk ix_l321, (some .int), 0, 0, Nat.blt 0 0, none) Q (78, [some (.inr (.inr (.inl (some (204))))), some (.inl (x1)), some (.inl (x2)), some (.inl (x3)), some (.inl (x4)), some (.inl (x5)), none, none], [], 0, 0, ix_mem 276 I J T)) (hQ : ∀ v I J T, P v I J T → Q (some (.inl v)) (ix_mem 276 I J T)) : ix_W (ix_C (d + 2)) (12, ix_lk ix_l321, (some .int), 0, 0, Nat.blt 0 0, none) Q (137, [some (.inr (.inr (.inl (some (204))))), some (.inl (x1)), some (.inl (x2)), some (.inl (x3)), some (.inl (x4)), some (.inl (x5)), none, none], [], 0, 0, ix_mem 276 I J T) := by
  refine h (fun x1 x2 x3 x4 x5 I J T => ix_W (ix_C (d + 2)) (12, ix_lk ix_l321, (some .int), 0, 0, Nat.blt 0 0, none) Q (137, [some (.inr (.inr (.inl (some (204))))), some (.inl (x1)), some (.inl (x2)), some (.inl (x3)), some (.inl (x4)), some (.inl (x5)), none, none], [], 0, 0, ix_mem 276 I J T)) ?_
  intro x1 x2 x3 x4 x5 I J T hb
  unfold wb_X12_bag_137_78 at hb
  refine ix_go 3 (x' := (if x5 < x3 then 143 else 242, [some (.inr (.inr (.inl (some (204))))), some (.inl (x1)), some (.inl (x2)), some (.inl (x3)), some (.inl (x4)), some (.inl (x5)), none, none], [], 0, 0, ix_mem 276 I J T)) rfl trivial ?_
  refine ix_br (fun c41 => ?_) (fun c41 => ?_)
  · have h42 := hb.1 c41
    refine ix_go 7 (x' := (154, [some (.inr (.inr (.inl (some (204))))), some (.inl (x1)), some (.inl (x2)), some (.inl (x3)), some (.inl (x4)), some (.inl (x5)), none, none], [.inl ((((60 : Int32)) * (x2)) + (x5)), .inr (.inr (.inl (some (207))))], 0, 0, ix_mem 276 I J T)) rfl ⟨rfl, rfl⟩ ?_
    obtain ⟨p43, h44⟩ := h42
    refine ix_go 5 (x' := (if x5 ≤ 0 then 194 else 163, [some (.inr (.inr (.inl (some (204))))), some (.inl (x1)), some (.inl (x2)), some (.inl (x3)), some (.inl (x4)), some (.inl (x5)), some (.inl ((J 207 ((((60 : Int32)) * (x2)) + (x5)).toNatClampNeg).toInt32)), none], [], 0, 0, ix_mem 276 I J T)) rfl ⟨rfl, rfl, p43⟩ ?_
    refine ix_br (fun c45 => ?_) (fun c45 => ?_)
    · have h46 := h44.1 c45
      refine ix_go 2 (x' := (197, [some (.inr (.inr (.inl (some (204))))), some (.inl (x1)), some (.inl (x2)), some (.inl (x3)), some (.inl (x4)), some (.inl (x5)), some (.inl ((J 207 ((((60 : Int32)) * (x2)) + (x5)).toNatClampNeg).toInt32)), some (.inl ((0 : Int32)))], [], 0, 0, ix_mem 276 I J T)) rfl trivial ?_
      refine ix_subW ([some (.inr (.inr (.inl (some (204))))), some (.inl (x1)), some (.inl (x2)), some (.inl (x3)), some (.inl (x4)), some (.inl (x5)), some (.inl ((J 207 ((((60 : Int32)) * (x2)) + (x5)).toNatClampNeg).toInt32)), some (.inl ((0 : Int32)))]) (ix_subS (ix_subS (ix_subS (ix_subS (ix_subS (ix_subS (ix_subS (ix_subS (ix_sub0))))))))) ?_
      exact tl_X12_bag_197_78_137 h46 hV78 (fun _ _ _ _ _ I J T hv => hv) hQ
    · have h46 := h44.2 c45
      refine ix_go 7 (x' := (174, [some (.inr (.inr (.inl (some (204))))), some (.inl (x1)), some (.inl (x2)), some (.inl (x3)), some (.inl (x4)), some (.inl (x5)), some (.inl ((J 207 ((((60 : Int32)) * (x2)) + (x5)).toNatClampNeg).toInt32)), none], [.inl (x5), .inl (((60 : Int32)) * (x2)), .inr (.inr (.inl (some (207)))), .inr (.inr (.inl (some (204))))], 0, 0, ix_mem 276 I J T)) rfl ⟨rfl, rfl⟩ ?_
      obtain ⟨p54, h55⟩ := h46
      refine ix_go 6 (x' := (181, [some (.inr (.inr (.inl (some (204))))), some (.inl (x1)), some (.inl (x2)), some (.inl (x3)), some (.inl (x4)), some (.inl (x5)), some (.inl ((J 207 ((((60 : Int32)) * (x2)) + (x5)).toNatClampNeg).toInt32)), none], [.inl ((J 207 ((((60 : Int32)) * (x2)) + (x5)).toNatClampNeg).toInt32), .inl ((J 207 (((((60 : Int32)) * (x2)) + (x5)) - ((1 : Int32))).toNatClampNeg).toInt32), .inr (.inr (.inl (some (204))))], 0, 0, ix_mem 276 I J T)) rfl ⟨rfl, rfl, p54⟩ ?_
      refine ix_sp rfl ⟨rfl, ⟨ix_lt rfl, ix_eq rfl, ix_lt rfl⟩, ix_le rfl, Nat.le_refl _, Nat.le_refl _, tp_X12_isRoad h55 (fun v56 I56 J56 T56 h56 => ?_)⟩
      change ix_W _ _ _ (184, [some (.inr (.inr (.inl (some (204))))), some (.inl (x1)), some (.inl (x2)), some (.inl (x3)), some (.inl (x4)), some (.inl (x5)), some (.inl ((J 207 ((((60 : Int32)) * (x2)) + (x5)).toNatClampNeg).toInt32)), none], [.inl (v56)], 0, 0, ix_mem 276 I56 J56 T56)
      refine ix_go 1 (x' := (if v56 = 0 then 187 else 194, [some (.inr (.inr (.inl (some (204))))), some (.inl (x1)), some (.inl (x2)), some (.inl (x3)), some (.inl (x4)), some (.inl (x5)), some (.inl ((J 207 ((((60 : Int32)) * (x2)) + (x5)).toNatClampNeg).toInt32)), none], [], 0, 0, ix_mem 276 I56 J56 T56)) rfl trivial ?_
      refine ix_br (fun c57 => ?_) (fun c57 => ?_)
      · have h58 := h56.1 c57
        refine ix_go 2 (x' := (190, [some (.inr (.inr (.inl (some (204))))), some (.inl (x1)), some (.inl (x2)), some (.inl (x3)), some (.inl (x4)), some (.inl (x5)), some (.inl ((J 207 ((((60 : Int32)) * (x2)) + (x5)).toNatClampNeg).toInt32)), none], [.inl ((6 : Int32)), .inr (.inr (.inl (some (204))))], 0, 0, ix_mem 276 I56 J56 T56)) rfl trivial ?_
        refine ix_sp rfl ⟨rfl, ⟨ix_lt rfl, ix_eq rfl, ix_lt rfl⟩, ix_le rfl, Nat.le_refl _, Nat.le_refl _, tp_X12_refuse h58 (fun v59 I59 J59 T59 h59 => ?_)⟩
        change ix_W _ _ _ (193, [some (.inr (.inr (.inl (some (204))))), some (.inl (x1)), some (.inl (x2)), some (.inl (x3)), some (.inl (x4)), some (.inl (x5)), some (.inl ((J 207 ((((60 : Int32)) * (x2)) + (x5)).toNatClampNeg).toInt32)), none], [.inl (v59)], 0, 0, ix_mem 276 I59 J59 T59)
        exact ix_sp rfl ⟨Nat.le_refl _, Nat.le_refl _, trivial, hQ _ _ _ _ h59⟩
      · have h58 := h56.2 c57
        refine ix_go 2 (x' := (197, [some (.inr (.inr (.inl (some (204))))), some (.inl (x1)), some (.inl (x2)), some (.inl (x3)), some (.inl (x4)), some (.inl (x5)), some (.inl ((J 207 ((((60 : Int32)) * (x2)) + (x5)).toNatClampNeg).toInt32)), some (.inl ((0 : Int32)))], [], 0, 0, ix_mem 276 I56 J56 T56)) rfl trivial ?_
        refine ix_subW ([some (.inr (.inr (.inl (some (204))))), some (.inl (x1)), some (.inl (x2)), some (.inl (x3)), some (.inl (x4)), some (.inl (x5)), some (.inl ((J 207 ((((60 : Int32)) * (x2)) + (x5)).toNatClampNeg).toInt32)), some (.inl ((0 : Int32)))]) (ix_subS (ix_subS (ix_subS (ix_subS (ix_subS (ix_subS (ix_subS (ix_subS (ix_sub0))))))))) ?_
        exact tl_X12_bag_197_78_137 h58 hV78 (fun _ _ _ _ _ I J T hv => hv) hQ
  · have h42 := hb.2 c41
    refine ix_go 4 (x' := (if I 204 81 = (30 : Int32) then 251 else 257, [some (.inr (.inr (.inl (some (204))))), some (.inl (x1)), some (.inl (x2)), some (.inl (x3)), some (.inl (x4)), some (.inl (x5)), none, none], [], 0, 0, ix_mem 276 I J T)) rfl ⟨rfl, rfl⟩ ?_
    refine ix_br (fun c60 => ?_) (fun c60 => ?_)
    · have h61 := h42.1 c60
      refine ix_go 2 (x' := (253, [some (.inr (.inr (.inl (some (204))))), some (.inl (x1)), some (.inl (x2)), some (.inl (x3)), some (.inl (x4)), some (.inl (x5)), none, none], [.inl ((4 : Int32)), .inr (.inr (.inl (some (204))))], 0, 0, ix_mem 276 I J T)) rfl trivial ?_
      refine ix_sp rfl ⟨rfl, ⟨ix_lt rfl, ix_eq rfl, ix_lt rfl⟩, ix_le rfl, Nat.le_refl _, Nat.le_refl _, tp_X12_refuse h61 (fun v62 I62 J62 T62 h62 => ?_)⟩
      change ix_W _ _ _ (256, [some (.inr (.inr (.inl (some (204))))), some (.inl (x1)), some (.inl (x2)), some (.inl (x3)), some (.inl (x4)), some (.inl (x5)), none, none], [.inl (v62)], 0, 0, ix_mem 276 I62 J62 T62)
      exact ix_sp rfl ⟨Nat.le_refl _, Nat.le_refl _, trivial, hQ _ _ _ _ h62⟩
    · have h61 := h42.2 c60
      refine ix_go 2 (x' := (260, [some (.inr (.inr (.inl (some (204))))), some (.inl (x1)), some (.inl (x2)), some (.inl (x3)), some (.inl (x4)), some (.inl ((0 : Int32))), none, none], [], 0, 0, ix_mem 276 I J T)) rfl trivial ?_
      refine ix_subW ([some (.inr (.inr (.inl (some (204))))), some (.inl (x1)), some (.inl (x2)), some (.inl (x3)), some (.inl (x4)), some (.inl ((0 : Int32))), none, none]) (ix_subS (ix_subS (ix_subS (ix_subS (ix_subS (ix_subS (ix_subS (ix_subS (ix_sub0))))))))) ?_
      exact tl_X12_bag_260_78_137 h61 hV78 (fun _ _ _ _ _ I J T hv => hv) hQ
def wb_X12_bag_78 (x1 : Int32) (x2 : Int32) (x3 : Int32) (x4 : Int32) (x5 : Int32) (I : Nat → Nat → Int32) (J : Nat → Nat → Int64) (T : Option Nat) (V78 : Int32 → Int32 → Int32 → Int32 → Int32 → (Nat → Nat → Int32) → (Nat → Nat → Int64) → Option Nat → Prop) (P : Int32 → (Nat → Nat → Int32) → (Nat → Nat → Int64) → Option Nat → Prop) : Prop := ((x5 < x3 → ix_inb ((((60 : Int32)) * (x2)) + (x5)) 240 = true ∧ ((lg_cmp (J 207 ((((60 : Int32)) * (x2)) + (x5)).toNatClampNeg) ((0 : Int64)) < 0 → wp_X12_refuse ((1 : Int32)) I J T (fun v35 I35 J35 T35 => P (v35) I35 J35 T35)) ∧ (¬ (lg_cmp (J 207 ((((60 : Int32)) * (x2)) + (x5)).toNatClampNeg) ((0 : Int64)) < 0) → ix_inb ((((60 : Int32)) * (x2)) + (x5)) 240 = true ∧ ((lg_cmp (J 207 ((((60 : Int32)) * (x2)) + (x5)).toNatClampNeg) ((I 204 6).toInt64) < 0 → V78 (x1) (x2) (x3) (x4) (x5 + (1 : Int32)) I J T) ∧ (¬ (lg_cmp (J 207 ((((60 : Int32)) * (x2)) + (x5)).toNatClampNeg) ((I 204 6).toInt64) < 0) → wp_X12_refuse ((1 : Int32)) I J T (fun v40 I40 J40 T40 => P (v40) I40 J40 T40)))))) ∧ (¬ (x5 < x3) → wl_X12_bag_137_78 (x1) (x2) (x3) (x4) ((0 : Int32)) I J T V78 P))
def wl_X12_bag_78 (x1 : Int32) (x2 : Int32) (x3 : Int32) (x4 : Int32) (x5 : Int32) (I : Nat → Nat → Int32) (J : Nat → Nat → Int64) (T : Option Nat) (P : Int32 → (Nat → Nat → Int32) → (Nat → Nat → Int64) → Option Nat → Prop) : Prop := ∀ V : Int32 → Int32 → Int32 → Int32 → Int32 → (Nat → Nat → Int32) → (Nat → Nat → Int64) → Option Nat → Prop, (∀ (x1 : Int32) (x2 : Int32) (x3 : Int32) (x4 : Int32) (x5 : Int32) (I : Nat → Nat → Int32) (J : Nat → Nat → Int64) (T : Option Nat), wb_X12_bag_78 x1 x2 x3 x4 x5 I J T V P → V x1 x2 x3 x4 x5 I J T) → V x1 x2 x3 x4 x5 I J T
set_option maxRecDepth 20000 in
theorem tl_X12_bag_78 {d : Nat} {x1 : Int32} {x2 : Int32} {x3 : Int32} {x4 : Int32} {x5 : Int32} {I : Nat → Nat → Int32} {J : Nat → Nat → Int64} {T : Option Nat} {P : Int32 → (Nat → Nat → Int32) → (Nat → Nat → Int64) → Option Nat → Prop} {Q : ix_Q} (h : wl_X12_bag_78 x1 x2 x3 x4 x5 I J T P) (hQ : ∀ v I J T, P v I J T → Q (some (.inl v)) (ix_mem 276 I J T)) : ix_W (ix_C (d + 2)) (12, ix_lk ix_l321, (some .int), 0, 0, Nat.blt 0 0, none) Q (78, [some (.inr (.inr (.inl (some (204))))), some (.inl (x1)), some (.inl (x2)), some (.inl (x3)), some (.inl (x4)), some (.inl (x5)), none, none], [], 0, 0, ix_mem 276 I J T) := by
  refine h (fun x1 x2 x3 x4 x5 I J T => ix_W (ix_C (d + 2)) (12, ix_lk ix_l321, (some .int), 0, 0, Nat.blt 0 0, none) Q (78, [some (.inr (.inr (.inl (some (204))))), some (.inl (x1)), some (.inl (x2)), some (.inl (x3)), some (.inl (x4)), some (.inl (x5)), none, none], [], 0, 0, ix_mem 276 I J T)) ?_
  intro x1 x2 x3 x4 x5 I J T hb
  unfold wb_X12_bag_78 at hb
  refine ix_go 3 (x' := (if x5 < x3 then 84 else 134, [some (.inr (.inr (.inl (some (204))))), some (.inl (x1)), some (.inl (x2)), some (.inl (x3)), some (.inl (x4)), some (.inl (x5)), none, none], [], 0, 0, ix_mem 276 I J T)) rfl trivial ?_
  refine ix_br (fun c29 => ?_) (fun c29 => ?_)
  · have h30 := hb.1 c29
    refine ix_go 7 (x' := (95, [some (.inr (.inr (.inl (some (204))))), some (.inl (x1)), some (.inl (x2)), some (.inl (x3)), some (.inl (x4)), some (.inl (x5)), none, none], [.inl ((((60 : Int32)) * (x2)) + (x5)), .inr (.inr (.inl (some (207))))], 0, 0, ix_mem 276 I J T)) rfl ⟨rfl, rfl⟩ ?_
    obtain ⟨p31, h32⟩ := h30
    refine ix_go 4 (x' := (if lg_cmp (J 207 ((((60 : Int32)) * (x2)) + (x5)).toNatClampNeg) ((0 : Int64)) < 0 then 122 else 101, [some (.inr (.inr (.inl (some (204))))), some (.inl (x1)), some (.inl (x2)), some (.inl (x3)), some (.inl (x4)), some (.inl (x5)), none, none], [], 0, 0, ix_mem 276 I J T)) rfl ⟨rfl, rfl, p31⟩ ?_
    refine ix_br (fun c33 => ?_) (fun c33 => ?_)
    · have h34 := h32.1 c33
      refine ix_go 2 (x' := (124, [some (.inr (.inr (.inl (some (204))))), some (.inl (x1)), some (.inl (x2)), some (.inl (x3)), some (.inl (x4)), some (.inl (x5)), none, none], [.inl ((1 : Int32)), .inr (.inr (.inl (some (204))))], 0, 0, ix_mem 276 I J T)) rfl trivial ?_
      refine ix_sp rfl ⟨rfl, ⟨ix_lt rfl, ix_eq rfl, ix_lt rfl⟩, ix_le rfl, Nat.le_refl _, Nat.le_refl _, tp_X12_refuse h34 (fun v35 I35 J35 T35 h35 => ?_)⟩
      change ix_W _ _ _ (127, [some (.inr (.inr (.inl (some (204))))), some (.inl (x1)), some (.inl (x2)), some (.inl (x3)), some (.inl (x4)), some (.inl (x5)), none, none], [.inl (v35)], 0, 0, ix_mem 276 I35 J35 T35)
      exact ix_sp rfl ⟨Nat.le_refl _, Nat.le_refl _, trivial, hQ _ _ _ _ h35⟩
    · have h34 := h32.2 c33
      refine ix_go 7 (x' := (112, [some (.inr (.inr (.inl (some (204))))), some (.inl (x1)), some (.inl (x2)), some (.inl (x3)), some (.inl (x4)), some (.inl (x5)), none, none], [.inl ((((60 : Int32)) * (x2)) + (x5)), .inr (.inr (.inl (some (207))))], 0, 0, ix_mem 276 I J T)) rfl ⟨rfl, rfl⟩ ?_
      obtain ⟨p36, h37⟩ := h34
      refine ix_go 6 (x' := (if lg_cmp (J 207 ((((60 : Int32)) * (x2)) + (x5)).toNatClampNeg) ((I 204 6).toInt64) < 0 then 128 else 122, [some (.inr (.inr (.inl (some (204))))), some (.inl (x1)), some (.inl (x2)), some (.inl (x3)), some (.inl (x4)), some (.inl (x5)), none, none], [], 0, 0, ix_mem 276 I J T)) rfl ⟨rfl, rfl, p36, rfl, rfl⟩ ?_
      refine ix_br (fun c38 => ?_) (fun c38 => ?_)
      · have h39 := h37.1 c38
        refine ix_go 2 (x' := (78, [some (.inr (.inr (.inl (some (204))))), some (.inl (x1)), some (.inl (x2)), some (.inl (x3)), some (.inl (x4)), some (.inl (x5 + (1 : Int32))), none, none], [], 0, 0, ix_mem 276 I J T)) rfl trivial ?_
        refine ix_subW ([some (.inr (.inr (.inl (some (204))))), some (.inl (x1)), some (.inl (x2)), some (.inl (x3)), some (.inl (x4)), some (.inl (x5 + (1 : Int32))), none, none]) (ix_subS (ix_subS (ix_subS (ix_subS (ix_subS (ix_subS (ix_subS (ix_subS (ix_sub0))))))))) ?_
        exact h39
      · have h39 := h37.2 c38
        refine ix_go 2 (x' := (124, [some (.inr (.inr (.inl (some (204))))), some (.inl (x1)), some (.inl (x2)), some (.inl (x3)), some (.inl (x4)), some (.inl (x5)), none, none], [.inl ((1 : Int32)), .inr (.inr (.inl (some (204))))], 0, 0, ix_mem 276 I J T)) rfl trivial ?_
        refine ix_sp rfl ⟨rfl, ⟨ix_lt rfl, ix_eq rfl, ix_lt rfl⟩, ix_le rfl, Nat.le_refl _, Nat.le_refl _, tp_X12_refuse h39 (fun v40 I40 J40 T40 h40 => ?_)⟩
        change ix_W _ _ _ (127, [some (.inr (.inr (.inl (some (204))))), some (.inl (x1)), some (.inl (x2)), some (.inl (x3)), some (.inl (x4)), some (.inl (x5)), none, none], [.inl (v40)], 0, 0, ix_mem 276 I40 J40 T40)
        exact ix_sp rfl ⟨Nat.le_refl _, Nat.le_refl _, trivial, hQ _ _ _ _ h40⟩
  · have h30 := hb.2 c29
    refine ix_go 2 (x' := (137, [some (.inr (.inr (.inl (some (204))))), some (.inl (x1)), some (.inl (x2)), some (.inl (x3)), some (.inl (x4)), some (.inl ((0 : Int32))), none, none], [], 0, 0, ix_mem 276 I J T)) rfl trivial ?_
    refine ix_subW ([some (.inr (.inr (.inl (some (204))))), some (.inl (x1)), some (.inl (x2)), some (.inl (x3)), some (.inl (x4)), some (.inl ((0 : Int32))), none, none]) (ix_subS (ix_subS (ix_subS (ix_subS (ix_subS (ix_subS (ix_subS (ix_subS (ix_sub0))))))))) ?_
    exact tl_X12_bag_137_78 h30 (fun _ _ _ _ _ I J T hv => hv) hQ
def wp_X12_bag (a0 : Int32) (a1 : Int32) (a2 : Int32) (a3 : Int32) (I : Nat → Nat → Int32) (J : Nat → Nat → Int64) (T : Option Nat) (P : Int32 → (Nat → Nat → Int32) → (Nat → Nat → Int64) → Option Nat → Prop) : Prop := ((a0 < (1 : Int32) → wp_X12_refuse ((1 : Int32)) I J T (fun v3 I3 J3 T3 => P (v3) I3 J3 T3)) ∧ (¬ (a0 < (1 : Int32)) → ((a0 ≤ (1000000 : Int32) → wp_X12_isTray (a1) I J T (fun v6 I6 J6 T6 => ((v6 = 0 → wp_X12_refuse ((1 : Int32)) I6 J6 T6 (fun v9 I9 J9 T9 => P (v9) I9 J9 T9)) ∧ (¬ (v6 = 0) → ((a2 < (2 : Int32) → wp_X12_refuse ((1 : Int32)) I6 J6 T6 (fun v12 I12 J12 T12 => P (v12) I12 J12 T12)) ∧ (¬ (a2 < (2 : Int32)) → ((a2 ≤ (5 : Int32) → wp_X12_isDay (a3) I6 J6 T6 (fun v15 I15 J15 T15 => ((v15 = 0 → wp_X12_refuse ((1 : Int32)) I15 J15 T15 (fun v18 I18 J18 T18 => P (v18) I18 J18 T18)) ∧ (¬ (v15 = 0) → ix_inb (a1) 4 = true ∧ ((I15 206 (a1).toNatClampNeg = (-1 : Int32) → wp_X12_refuse ((2 : Int32)) I15 J15 T15 (fun v23 I23 J23 T23 => P (v23) I23 J23 T23)) ∧ (¬ (I15 206 (a1).toNatClampNeg = (-1 : Int32)) → ix_inb (a1) 4 = true ∧ ((I15 206 (a1).toNatClampNeg < a2 → wp_X12_refuse ((3 : Int32)) I15 J15 T15 (fun v28 I28 J28 T28 => P (v28) I28 J28 T28)) ∧ (¬ (I15 206 (a1).toNatClampNeg < a2) → wl_X12_bag_78 (a0) (a1) (a2) (a3) ((0 : Int32)) I15 J15 T15 P)))))))) ∧ (¬ (a2 ≤ (5 : Int32)) → wp_X12_refuse ((1 : Int32)) I6 J6 T6 (fun v76 I76 J76 T76 => P (v76) I76 J76 T76))))))))) ∧ (¬ (a0 ≤ (1000000 : Int32)) → wp_X12_refuse ((1 : Int32)) I J T (fun v77 I77 J77 T77 => P (v77) I77 J77 T77)))))
set_option maxRecDepth 20000 in
theorem tp_X12_bag {d : Nat} {a0 : Int32} {a1 : Int32} {a2 : Int32} {a3 : Int32} {I : Nat → Nat → Int32} {J : Nat → Nat → Int64} {T : Option Nat} {P : Int32 → (Nat → Nat → Int32) → (Nat → Nat → Int64) → Option Nat → Prop} {Q : ix_Q} (h : wp_X12_bag a0 a1 a2 a3 I J T P) (hQ : ∀ v I J T, P v I J T → Q (some (.inl v)) (ix_mem 276 I J T)) : ix_C (d + 3) 321 [.inr (.inr (.inl (some (204)))), .inl (a0), .inl (a1), .inl (a2), .inl (a3)] (ix_mem 276 I J T) Q := by
  unfold wp_X12_bag at h
  refine ix_enter (ls := [some (.inr (.inr (.inl (some (204))))), some (.inl (a0)), some (.inl (a1)), some (.inl (a2)), some (.inl (a3)), none, none, none]) rfl rfl rfl (Nat.le_of_ble_eq_true rfl) ?_
  refine ix_go 3 (x' := (if a0 < (1 : Int32) then 37 else 5, [some (.inr (.inr (.inl (some (204))))), some (.inl (a0)), some (.inl (a1)), some (.inl (a2)), some (.inl (a3)), none, none, none], [], 0, 0, ix_mem 276 I J T)) rfl trivial ?_
  refine ix_br (fun c1 => ?_) (fun c1 => ?_)
  · have h2 := h.1 c1
    refine ix_go 2 (x' := (39, [some (.inr (.inr (.inl (some (204))))), some (.inl (a0)), some (.inl (a1)), some (.inl (a2)), some (.inl (a3)), none, none, none], [.inl ((1 : Int32)), .inr (.inr (.inl (some (204))))], 0, 0, ix_mem 276 I J T)) rfl trivial ?_
    refine ix_sp rfl ⟨rfl, ⟨ix_lt rfl, ix_eq rfl, ix_lt rfl⟩, ix_le rfl, Nat.le_refl _, Nat.le_refl _, tp_X12_refuse h2 (fun v3 I3 J3 T3 h3 => ?_)⟩
    change ix_W _ _ _ (42, [some (.inr (.inr (.inl (some (204))))), some (.inl (a0)), some (.inl (a1)), some (.inl (a2)), some (.inl (a3)), none, none, none], [.inl (v3)], 0, 0, ix_mem 276 I3 J3 T3)
    exact ix_sp rfl ⟨Nat.le_refl _, Nat.le_refl _, trivial, hQ _ _ _ _ h3⟩
  · have h2 := h.2 c1
    refine ix_go 3 (x' := (if a0 ≤ (1000000 : Int32) then 12 else 37, [some (.inr (.inr (.inl (some (204))))), some (.inl (a0)), some (.inl (a1)), some (.inl (a2)), some (.inl (a3)), none, none, none], [], 0, 0, ix_mem 276 I J T)) rfl trivial ?_
    refine ix_br (fun c4 => ?_) (fun c4 => ?_)
    · have h5 := h2.1 c4
      refine ix_go 1 (x' := (13, [some (.inr (.inr (.inl (some (204))))), some (.inl (a0)), some (.inl (a1)), some (.inl (a2)), some (.inl (a3)), none, none, none], [.inl (a1)], 0, 0, ix_mem 276 I J T)) rfl trivial ?_
      refine ix_sp rfl ⟨rfl, trivial, ix_le rfl, Nat.le_refl _, Nat.le_refl _, tp_X12_isTray h5 (fun v6 I6 J6 T6 h6 => ?_)⟩
      change ix_W _ _ _ (16, [some (.inr (.inr (.inl (some (204))))), some (.inl (a0)), some (.inl (a1)), some (.inl (a2)), some (.inl (a3)), none, none, none], [.inl (v6)], 0, 0, ix_mem 276 I6 J6 T6)
      refine ix_go 1 (x' := (if v6 = 0 then 37 else 19, [some (.inr (.inr (.inl (some (204))))), some (.inl (a0)), some (.inl (a1)), some (.inl (a2)), some (.inl (a3)), none, none, none], [], 0, 0, ix_mem 276 I6 J6 T6)) rfl trivial ?_
      refine ix_br (fun c7 => ?_) (fun c7 => ?_)
      · have h8 := h6.1 c7
        refine ix_go 2 (x' := (39, [some (.inr (.inr (.inl (some (204))))), some (.inl (a0)), some (.inl (a1)), some (.inl (a2)), some (.inl (a3)), none, none, none], [.inl ((1 : Int32)), .inr (.inr (.inl (some (204))))], 0, 0, ix_mem 276 I6 J6 T6)) rfl trivial ?_
        refine ix_sp rfl ⟨rfl, ⟨ix_lt rfl, ix_eq rfl, ix_lt rfl⟩, ix_le rfl, Nat.le_refl _, Nat.le_refl _, tp_X12_refuse h8 (fun v9 I9 J9 T9 h9 => ?_)⟩
        change ix_W _ _ _ (42, [some (.inr (.inr (.inl (some (204))))), some (.inl (a0)), some (.inl (a1)), some (.inl (a2)), some (.inl (a3)), none, none, none], [.inl (v9)], 0, 0, ix_mem 276 I9 J9 T9)
        exact ix_sp rfl ⟨Nat.le_refl _, Nat.le_refl _, trivial, hQ _ _ _ _ h9⟩
      · have h8 := h6.2 c7
        refine ix_go 3 (x' := (if a2 < (2 : Int32) then 37 else 24, [some (.inr (.inr (.inl (some (204))))), some (.inl (a0)), some (.inl (a1)), some (.inl (a2)), some (.inl (a3)), none, none, none], [], 0, 0, ix_mem 276 I6 J6 T6)) rfl trivial ?_
        refine ix_br (fun c10 => ?_) (fun c10 => ?_)
        · have h11 := h8.1 c10
          refine ix_go 2 (x' := (39, [some (.inr (.inr (.inl (some (204))))), some (.inl (a0)), some (.inl (a1)), some (.inl (a2)), some (.inl (a3)), none, none, none], [.inl ((1 : Int32)), .inr (.inr (.inl (some (204))))], 0, 0, ix_mem 276 I6 J6 T6)) rfl trivial ?_
          refine ix_sp rfl ⟨rfl, ⟨ix_lt rfl, ix_eq rfl, ix_lt rfl⟩, ix_le rfl, Nat.le_refl _, Nat.le_refl _, tp_X12_refuse h11 (fun v12 I12 J12 T12 h12 => ?_)⟩
          change ix_W _ _ _ (42, [some (.inr (.inr (.inl (some (204))))), some (.inl (a0)), some (.inl (a1)), some (.inl (a2)), some (.inl (a3)), none, none, none], [.inl (v12)], 0, 0, ix_mem 276 I12 J12 T12)
          exact ix_sp rfl ⟨Nat.le_refl _, Nat.le_refl _, trivial, hQ _ _ _ _ h12⟩
        · have h11 := h8.2 c10
          refine ix_go 3 (x' := (if a2 ≤ (5 : Int32) then 29 else 37, [some (.inr (.inr (.inl (some (204))))), some (.inl (a0)), some (.inl (a1)), some (.inl (a2)), some (.inl (a3)), none, none, none], [], 0, 0, ix_mem 276 I6 J6 T6)) rfl trivial ?_
          refine ix_br (fun c13 => ?_) (fun c13 => ?_)
          · have h14 := h11.1 c13
            refine ix_go 1 (x' := (31, [some (.inr (.inr (.inl (some (204))))), some (.inl (a0)), some (.inl (a1)), some (.inl (a2)), some (.inl (a3)), none, none, none], [.inl (a3)], 0, 0, ix_mem 276 I6 J6 T6)) rfl trivial ?_
            refine ix_sp rfl ⟨rfl, trivial, ix_le rfl, Nat.le_refl _, Nat.le_refl _, tp_X12_isDay h14 (fun v15 I15 J15 T15 h15 => ?_)⟩
            change ix_W _ _ _ (34, [some (.inr (.inr (.inl (some (204))))), some (.inl (a0)), some (.inl (a1)), some (.inl (a2)), some (.inl (a3)), none, none, none], [.inl (v15)], 0, 0, ix_mem 276 I15 J15 T15)
            refine ix_go 1 (x' := (if v15 = 0 then 37 else 43, [some (.inr (.inr (.inl (some (204))))), some (.inl (a0)), some (.inl (a1)), some (.inl (a2)), some (.inl (a3)), none, none, none], [], 0, 0, ix_mem 276 I15 J15 T15)) rfl trivial ?_
            refine ix_br (fun c16 => ?_) (fun c16 => ?_)
            · have h17 := h15.1 c16
              refine ix_go 2 (x' := (39, [some (.inr (.inr (.inl (some (204))))), some (.inl (a0)), some (.inl (a1)), some (.inl (a2)), some (.inl (a3)), none, none, none], [.inl ((1 : Int32)), .inr (.inr (.inl (some (204))))], 0, 0, ix_mem 276 I15 J15 T15)) rfl trivial ?_
              refine ix_sp rfl ⟨rfl, ⟨ix_lt rfl, ix_eq rfl, ix_lt rfl⟩, ix_le rfl, Nat.le_refl _, Nat.le_refl _, tp_X12_refuse h17 (fun v18 I18 J18 T18 h18 => ?_)⟩
              change ix_W _ _ _ (42, [some (.inr (.inr (.inl (some (204))))), some (.inl (a0)), some (.inl (a1)), some (.inl (a2)), some (.inl (a3)), none, none, none], [.inl (v18)], 0, 0, ix_mem 276 I18 J18 T18)
              exact ix_sp rfl ⟨Nat.le_refl _, Nat.le_refl _, trivial, hQ _ _ _ _ h18⟩
            · have h17 := h15.2 c16
              obtain ⟨p19, h20⟩ := h17
              refine ix_go 6 (x' := (if I15 206 (a1).toNatClampNeg = (-1 : Int32) then 53 else 59, [some (.inr (.inr (.inl (some (204))))), some (.inl (a0)), some (.inl (a1)), some (.inl (a2)), some (.inl (a3)), none, none, none], [], 0, 0, ix_mem 276 I15 J15 T15)) rfl ⟨rfl, rfl, rfl, rfl, p19⟩ ?_
              refine ix_br (fun c21 => ?_) (fun c21 => ?_)
              · have h22 := h20.1 c21
                refine ix_go 2 (x' := (55, [some (.inr (.inr (.inl (some (204))))), some (.inl (a0)), some (.inl (a1)), some (.inl (a2)), some (.inl (a3)), none, none, none], [.inl ((2 : Int32)), .inr (.inr (.inl (some (204))))], 0, 0, ix_mem 276 I15 J15 T15)) rfl trivial ?_
                refine ix_sp rfl ⟨rfl, ⟨ix_lt rfl, ix_eq rfl, ix_lt rfl⟩, ix_le rfl, Nat.le_refl _, Nat.le_refl _, tp_X12_refuse h22 (fun v23 I23 J23 T23 h23 => ?_)⟩
                change ix_W _ _ _ (58, [some (.inr (.inr (.inl (some (204))))), some (.inl (a0)), some (.inl (a1)), some (.inl (a2)), some (.inl (a3)), none, none, none], [.inl (v23)], 0, 0, ix_mem 276 I23 J23 T23)
                exact ix_sp rfl ⟨Nat.le_refl _, Nat.le_refl _, trivial, hQ _ _ _ _ h23⟩
              · have h22 := h20.2 c21
                obtain ⟨p24, h25⟩ := h22
                refine ix_go 6 (x' := (if I15 206 (a1).toNatClampNeg < a2 then 69 else 75, [some (.inr (.inr (.inl (some (204))))), some (.inl (a0)), some (.inl (a1)), some (.inl (a2)), some (.inl (a3)), none, none, none], [], 0, 0, ix_mem 276 I15 J15 T15)) rfl ⟨rfl, rfl, rfl, rfl, p24⟩ ?_
                refine ix_br (fun c26 => ?_) (fun c26 => ?_)
                · have h27 := h25.1 c26
                  refine ix_go 2 (x' := (71, [some (.inr (.inr (.inl (some (204))))), some (.inl (a0)), some (.inl (a1)), some (.inl (a2)), some (.inl (a3)), none, none, none], [.inl ((3 : Int32)), .inr (.inr (.inl (some (204))))], 0, 0, ix_mem 276 I15 J15 T15)) rfl trivial ?_
                  refine ix_sp rfl ⟨rfl, ⟨ix_lt rfl, ix_eq rfl, ix_lt rfl⟩, ix_le rfl, Nat.le_refl _, Nat.le_refl _, tp_X12_refuse h27 (fun v28 I28 J28 T28 h28 => ?_)⟩
                  change ix_W _ _ _ (74, [some (.inr (.inr (.inl (some (204))))), some (.inl (a0)), some (.inl (a1)), some (.inl (a2)), some (.inl (a3)), none, none, none], [.inl (v28)], 0, 0, ix_mem 276 I28 J28 T28)
                  exact ix_sp rfl ⟨Nat.le_refl _, Nat.le_refl _, trivial, hQ _ _ _ _ h28⟩
                · have h27 := h25.2 c26
                  refine ix_go 2 (x' := (78, [some (.inr (.inr (.inl (some (204))))), some (.inl (a0)), some (.inl (a1)), some (.inl (a2)), some (.inl (a3)), some (.inl ((0 : Int32))), none, none], [], 0, 0, ix_mem 276 I15 J15 T15)) rfl trivial ?_
                  refine ix_subW ([some (.inr (.inr (.inl (some (204))))), some (.inl (a0)), some (.inl (a1)), some (.inl (a2)), some (.inl (a3)), some (.inl ((0 : Int32))), none, none]) (ix_subS (ix_subS (ix_subS (ix_subS (ix_subS (ix_subS (ix_subS (ix_subS (ix_sub0))))))))) ?_
                  exact tl_X12_bag_78 h27 hQ
          · have h14 := h11.2 c13
            refine ix_go 2 (x' := (39, [some (.inr (.inr (.inl (some (204))))), some (.inl (a0)), some (.inl (a1)), some (.inl (a2)), some (.inl (a3)), none, none, none], [.inl ((1 : Int32)), .inr (.inr (.inl (some (204))))], 0, 0, ix_mem 276 I6 J6 T6)) rfl trivial ?_
            refine ix_sp rfl ⟨rfl, ⟨ix_lt rfl, ix_eq rfl, ix_lt rfl⟩, ix_le rfl, Nat.le_refl _, Nat.le_refl _, tp_X12_refuse h14 (fun v76 I76 J76 T76 h76 => ?_)⟩
            change ix_W _ _ _ (42, [some (.inr (.inr (.inl (some (204))))), some (.inl (a0)), some (.inl (a1)), some (.inl (a2)), some (.inl (a3)), none, none, none], [.inl (v76)], 0, 0, ix_mem 276 I76 J76 T76)
            exact ix_sp rfl ⟨Nat.le_refl _, Nat.le_refl _, trivial, hQ _ _ _ _ h76⟩
    · have h5 := h2.2 c4
      refine ix_go 2 (x' := (39, [some (.inr (.inr (.inl (some (204))))), some (.inl (a0)), some (.inl (a1)), some (.inl (a2)), some (.inl (a3)), none, none, none], [.inl ((1 : Int32)), .inr (.inr (.inl (some (204))))], 0, 0, ix_mem 276 I J T)) rfl trivial ?_
      refine ix_sp rfl ⟨rfl, ⟨ix_lt rfl, ix_eq rfl, ix_lt rfl⟩, ix_le rfl, Nat.le_refl _, Nat.le_refl _, tp_X12_refuse h5 (fun v77 I77 J77 T77 h77 => ?_)⟩
      change ix_W _ _ _ (42, [some (.inr (.inr (.inl (some (204))))), some (.inl (a0)), some (.inl (a1)), some (.inl (a2)), some (.inl (a3)), none, none, none], [.inl (v77)], 0, 0, ix_mem 276 I77 J77 T77)
      exact ix_sp rfl ⟨Nat.le_refl _, Nat.le_refl _, trivial, hQ _ _ _ _ h77⟩
