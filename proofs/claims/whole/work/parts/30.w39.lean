def wp_X12_even (a0 : Int32) (a1 : Int32) (I : Nat → Nat → Int32) (J : Nat → Nat → Int64) (T : Option Nat) (P : Int32 → (Nat → Nat → Int32) → (Nat → Nat → Int64) → Option Nat → Prop) : Prop := wp_X12_areTwo (a0) (a1) I J T (fun v1 I1 J1 T1 => ((v1 = 0 → wp_X12_refuse ((1 : Int32)) I1 J1 T1 (fun v4 I4 J4 T4 => P (v4) I4 J4 T4)) ∧ (¬ (v1 = 0) → wp_X12_carry I1 J1 T1 (fun I5 J5 T5 => wp_X12_evenOf (a0) (a1) I5 J5 T5 (fun v6 I6 J6 T6 => wp_X12_gives (v6) I6 J6 T6 (fun v7 I7 J7 T7 => P (v7) I7 J7 T7))))))
set_option maxRecDepth 20000 in
theorem tp_X12_even {d : Nat} {a0 : Int32} {a1 : Int32} {I : Nat → Nat → Int32} {J : Nat → Nat → Int64} {T : Option Nat} {P : Int32 → (Nat → Nat → Int32) → (Nat → Nat → Int64) → Option Nat → Prop} {Q : ix_Q} (h : wp_X12_even a0 a1 I J T P) (hQ : ∀ v I J T, P v I J T → Q (some (.inl v)) (ix_mem 276 I J T)) : ix_C (d + 4) 302 [.inr (.inr (.inl (some (204)))), .inl (a0), .inl (a1)] (ix_mem 276 I J T) Q := by
  unfold wp_X12_even at h
  refine ix_enter (ls := [some (.inr (.inr (.inl (some (204))))), some (.inl (a0)), some (.inl (a1))]) rfl rfl rfl (Nat.le_of_ble_eq_true rfl) ?_
  refine ix_go 3 (x' := (3, [some (.inr (.inr (.inl (some (204))))), some (.inl (a0)), some (.inl (a1))], [.inl (a1), .inl (a0), .inr (.inr (.inl (some (204))))], 0, 0, ix_mem 276 I J T)) rfl trivial ?_
  refine ix_sp rfl ⟨rfl, ⟨ix_lt rfl, ix_eq rfl, ix_lt rfl⟩, ix_le rfl, Nat.le_refl _, Nat.le_refl _, tp_X12_areTwo h (fun v1 I1 J1 T1 h1 => ?_)⟩
  change ix_W _ _ _ (6, [some (.inr (.inr (.inl (some (204))))), some (.inl (a0)), some (.inl (a1))], [.inl (v1)], 0, 0, ix_mem 276 I1 J1 T1)
  refine ix_go 1 (x' := (if v1 = 0 then 9 else 15, [some (.inr (.inr (.inl (some (204))))), some (.inl (a0)), some (.inl (a1))], [], 0, 0, ix_mem 276 I1 J1 T1)) rfl trivial ?_
  refine ix_br (fun c2 => ?_) (fun c2 => ?_)
  · have h3 := h1.1 c2
    refine ix_go 2 (x' := (11, [some (.inr (.inr (.inl (some (204))))), some (.inl (a0)), some (.inl (a1))], [.inl ((1 : Int32)), .inr (.inr (.inl (some (204))))], 0, 0, ix_mem 276 I1 J1 T1)) rfl trivial ?_
    refine ix_sp rfl ⟨rfl, ⟨ix_lt rfl, ix_eq rfl, ix_lt rfl⟩, ix_le rfl, Nat.le_refl _, Nat.le_refl _, tp_X12_refuse h3 (fun v4 I4 J4 T4 h4 => ?_)⟩
    change ix_W _ _ _ (14, [some (.inr (.inr (.inl (some (204))))), some (.inl (a0)), some (.inl (a1))], [.inl (v4)], 0, 0, ix_mem 276 I4 J4 T4)
    exact ix_sp rfl ⟨Nat.le_refl _, Nat.le_refl _, trivial, hQ _ _ _ _ h4⟩
  · have h3 := h1.2 c2
    refine ix_go 1 (x' := (16, [some (.inr (.inr (.inl (some (204))))), some (.inl (a0)), some (.inl (a1))], [.inr (.inr (.inl (some (204))))], 0, 0, ix_mem 276 I1 J1 T1)) rfl trivial ?_
    refine ix_sp rfl ⟨rfl, ⟨ix_lt rfl, ix_eq rfl, ix_lt rfl⟩, ix_le rfl, Nat.le_refl _, Nat.le_refl _, tp_X12_carry h3 (fun I5 J5 T5 h5 => ?_)⟩
    change ix_W _ _ _ (19, [some (.inr (.inr (.inl (some (204))))), some (.inl (a0)), some (.inl (a1))], [], 0, 0, ix_mem 276 I5 J5 T5)
    refine ix_go 4 (x' := (23, [some (.inr (.inr (.inl (some (204))))), some (.inl (a0)), some (.inl (a1))], [.inl (a1), .inl (a0), .inr (.inr (.inl (some (204)))), .inr (.inr (.inl (some (204))))], 0, 0, ix_mem 276 I5 J5 T5)) rfl trivial ?_
    refine ix_sp rfl ⟨rfl, ⟨ix_lt rfl, ix_eq rfl, ix_lt rfl⟩, ix_le rfl, Nat.le_refl _, Nat.le_refl _, tp_X12_evenOf h5 (fun v6 I6 J6 T6 h6 => ?_)⟩
    change ix_W _ _ _ (26, [some (.inr (.inr (.inl (some (204))))), some (.inl (a0)), some (.inl (a1))], [.inl (v6), .inr (.inr (.inl (some (204))))], 0, 0, ix_mem 276 I6 J6 T6)
    refine ix_sp rfl ⟨rfl, ⟨ix_lt rfl, ix_eq rfl, ix_lt rfl⟩, ix_le rfl, Nat.le_refl _, Nat.le_refl _, tp_X12_gives h6 (fun v7 I7 J7 T7 h7 => ?_)⟩
    change ix_W _ _ _ (29, [some (.inr (.inr (.inl (some (204))))), some (.inl (a0)), some (.inl (a1))], [.inl (v7)], 0, 0, ix_mem 276 I7 J7 T7)
    exact ix_sp rfl ⟨Nat.le_refl _, Nat.le_refl _, trivial, hQ _ _ _ _ h7⟩
def wb_X12_uneven_18_8 (x1 : Int32) (x2 : Int32) (x3 : Int32) (I : Nat → Nat → Int32) (J : Nat → Nat → Int64) (T : Option Nat) (V18 : Int32 → Int32 → Int32 → (Nat → Nat → Int32) → (Nat → Nat → Int64) → Option Nat → Prop) (V8 : Int32 → Int32 → (Nat → Nat → Int32) → (Nat → Nat → Int64) → Option Nat → Prop) (P : Int32 → (Nat → Nat → Int32) → (Nat → Nat → Int64) → Option Nat → Prop) : Prop := ((x3 < I 204 6 → ((x2 = x3 → V18 ((x1) + ((0 : Int32))) (x2) (x3 + (1 : Int32)) I J T) ∧ (¬ (x2 = x3) → wp_X12_pair (x2) (x3) I J T (fun v8 I8 J8 T8 => ix_inb (v8) 49 = true ∧ wp_X12_evenOf (x2) (x3) I8 J8 T8 (fun v11 I11 J11 T11 => ((I8 246 (v8).toNatClampNeg ≤ v11 → V18 ((x1) + ((0 : Int32))) (x2) (x3 + (1 : Int32)) I11 J11 T11) ∧ (¬ (I8 246 (v8).toNatClampNeg ≤ v11) → V18 ((x1) + ((1 : Int32))) (x2) (x3 + (1 : Int32)) I11 J11 T11))))))) ∧ (¬ (x3 < I 204 6) → V8 (x1) (x2 + (1 : Int32)) I J T))
def wl_X12_uneven_18_8 (x1 : Int32) (x2 : Int32) (x3 : Int32) (I : Nat → Nat → Int32) (J : Nat → Nat → Int64) (T : Option Nat) (V8 : Int32 → Int32 → (Nat → Nat → Int32) → (Nat → Nat → Int64) → Option Nat → Prop) (P : Int32 → (Nat → Nat → Int32) → (Nat → Nat → Int64) → Option Nat → Prop) : Prop := ∀ V : Int32 → Int32 → Int32 → (Nat → Nat → Int32) → (Nat → Nat → Int64) → Option Nat → Prop, (∀ (x1 : Int32) (x2 : Int32) (x3 : Int32) (I : Nat → Nat → Int32) (J : Nat → Nat → Int64) (T : Option Nat), wb_X12_uneven_18_8 x1 x2 x3 I J T V V8 P → V x1 x2 x3 I J T) → V x1 x2 x3 I J T
set_option maxRecDepth 20000 in
theorem tl_X12_uneven_18_8 {d : Nat} {x1 : Int32} {x2 : Int32} {x3 : Int32} {I : Nat → Nat → Int32} {J : Nat → Nat → Int64} {T : Option Nat} {V8 : Int32 → Int32 → (Nat → Nat → Int32) → (Nat → Nat → Int64) → Option Nat → Prop} {P : Int32 → (Nat → Nat → Int32) → (Nat → Nat → Int64) → Option Nat → Prop} {Q : ix_Q} (h : wl_X12_uneven_18_8 x1 x2 x3 I J T V8 P) (hV8 : ∀ (x1 : Int32) (x2 : Int32) I J T, V8 x1 x2 I J T → ix_W (ix_C (d + 2)) (12, ix_lk ix_l303, (some .int), 0, 0, Nat.blt 0 0, none) Q (8, [some (.inr (.inr (.inl (some (204))))), some (.inl (x1)), some (.inl (x2)), none], [], 0, 0, ix_mem 276 I J T)) (hQ : ∀ v I J T, P v I J T → Q (some (.inl v)) (ix_mem 276 I J T)) : ix_W (ix_C (d + 2)) (12, ix_lk ix_l303, (some .int), 0, 0, Nat.blt 0 0, none) Q (18, [some (.inr (.inr (.inl (some (204))))), some (.inl (x1)), some (.inl (x2)), some (.inl (x3))], [], 0, 0, ix_mem 276 I J T) := by
  refine h (fun x1 x2 x3 I J T => ix_W (ix_C (d + 2)) (12, ix_lk ix_l303, (some .int), 0, 0, Nat.blt 0 0, none) Q (18, [some (.inr (.inr (.inl (some (204))))), some (.inl (x1)), some (.inl (x2)), some (.inl (x3))], [], 0, 0, ix_mem 276 I J T)) ?_
  intro x1 x2 x3 I J T hb
  unfold wb_X12_uneven_18_8 at hb
  refine ix_go 4 (x' := (if x3 < I 204 6 then 26 else 64, [some (.inr (.inr (.inl (some (204))))), some (.inl (x1)), some (.inl (x2)), some (.inl (x3))], [], 0, 0, ix_mem 276 I J T)) rfl ⟨rfl, rfl⟩ ?_
  refine ix_br (fun c4 => ?_) (fun c4 => ?_)
  · have h5 := hb.1 c4
    refine ix_go 4 (x' := (if x2 = x3 then 55 else 32, [some (.inr (.inr (.inl (some (204))))), some (.inl (x1)), some (.inl (x2)), some (.inl (x3))], [.inl (x1)], 0, 0, ix_mem 276 I J T)) rfl trivial ?_
    refine ix_br (fun c6 => ?_) (fun c6 => ?_)
    · have h7 := h5.1 c6
      refine ix_go 5 (x' := (18, [some (.inr (.inr (.inl (some (204))))), some (.inl ((x1) + ((0 : Int32)))), some (.inl (x2)), some (.inl (x3 + (1 : Int32)))], [], 0, 0, ix_mem 276 I J T)) rfl trivial ?_
      refine ix_subW ([some (.inr (.inr (.inl (some (204))))), some (.inl ((x1) + ((0 : Int32)))), some (.inl (x2)), some (.inl (x3 + (1 : Int32)))]) (ix_subS (ix_subS (ix_subS (ix_subS (ix_sub0))))) ?_
      exact h7
    · have h7 := h5.2 c6
      refine ix_go 4 (x' := (38, [some (.inr (.inr (.inl (some (204))))), some (.inl (x1)), some (.inl (x2)), some (.inl (x3))], [.inl (x3), .inl (x2), .inr (.inr (.inl (some (246)))), .inl (x1)], 0, 0, ix_mem 276 I J T)) rfl ⟨rfl, rfl⟩ ?_
      refine ix_sp rfl ⟨rfl, trivial, ix_le rfl, Nat.le_refl _, Nat.le_refl _, tp_X12_pair h7 (fun v8 I8 J8 T8 h8 => ?_)⟩
      change ix_W _ _ _ (41, [some (.inr (.inr (.inl (some (204))))), some (.inl (x1)), some (.inl (x2)), some (.inl (x3))], [.inl (v8), .inr (.inr (.inl (some (246)))), .inl (x1)], 0, 0, ix_mem 276 I8 J8 T8)
      obtain ⟨p9, h10⟩ := h8
      refine ix_go 4 (x' := (45, [some (.inr (.inr (.inl (some (204))))), some (.inl (x1)), some (.inl (x2)), some (.inl (x3))], [.inl (x3), .inl (x2), .inr (.inr (.inl (some (204)))), .inl (I8 246 (v8).toNatClampNeg), .inl (x1)], 0, 0, ix_mem 276 I8 J8 T8)) rfl ⟨rfl, rfl, p9⟩ ?_
      refine ix_sp rfl ⟨rfl, ⟨ix_lt rfl, ix_eq rfl, ix_lt rfl⟩, ix_le rfl, Nat.le_refl _, Nat.le_refl _, tp_X12_evenOf h10 (fun v11 I11 J11 T11 h11 => ?_)⟩
      change ix_W _ _ _ (48, [some (.inr (.inr (.inl (some (204))))), some (.inl (x1)), some (.inl (x2)), some (.inl (x3))], [.inl (v11), .inl (I8 246 (v8).toNatClampNeg), .inl (x1)], 0, 0, ix_mem 276 I11 J11 T11)
      refine ix_go 1 (x' := (if I8 246 (v8).toNatClampNeg ≤ v11 then 55 else 51, [some (.inr (.inr (.inl (some (204))))), some (.inl (x1)), some (.inl (x2)), some (.inl (x3))], [.inl (x1)], 0, 0, ix_mem 276 I11 J11 T11)) rfl trivial ?_
      refine ix_br (fun c12 => ?_) (fun c12 => ?_)
      · have h13 := h11.1 c12
        refine ix_go 5 (x' := (18, [some (.inr (.inr (.inl (some (204))))), some (.inl ((x1) + ((0 : Int32)))), some (.inl (x2)), some (.inl (x3 + (1 : Int32)))], [], 0, 0, ix_mem 276 I11 J11 T11)) rfl trivial ?_
        refine ix_subW ([some (.inr (.inr (.inl (some (204))))), some (.inl ((x1) + ((0 : Int32)))), some (.inl (x2)), some (.inl (x3 + (1 : Int32)))]) (ix_subS (ix_subS (ix_subS (ix_subS (ix_sub0))))) ?_
        exact h13
      · have h13 := h11.2 c12
        refine ix_go 6 (x' := (18, [some (.inr (.inr (.inl (some (204))))), some (.inl ((x1) + ((1 : Int32)))), some (.inl (x2)), some (.inl (x3 + (1 : Int32)))], [], 0, 0, ix_mem 276 I11 J11 T11)) rfl trivial ?_
        refine ix_subW ([some (.inr (.inr (.inl (some (204))))), some (.inl ((x1) + ((1 : Int32)))), some (.inl (x2)), some (.inl (x3 + (1 : Int32)))]) (ix_subS (ix_subS (ix_subS (ix_subS (ix_sub0))))) ?_
        exact h13
  · have h5 := hb.2 c4
    refine ix_go 2 (x' := (8, [some (.inr (.inr (.inl (some (204))))), some (.inl (x1)), some (.inl (x2 + (1 : Int32))), some (.inl (x3))], [], 0, 0, ix_mem 276 I J T)) rfl trivial ?_
    refine ix_subW ([some (.inr (.inr (.inl (some (204))))), some (.inl (x1)), some (.inl (x2 + (1 : Int32))), none]) (ix_subS (ix_subS (ix_subS (ix_subN (ix_sub0))))) ?_
    exact hV8 _ _ _ _ _ h5
def wb_X12_uneven_8 (x1 : Int32) (x2 : Int32) (I : Nat → Nat → Int32) (J : Nat → Nat → Int64) (T : Option Nat) (V8 : Int32 → Int32 → (Nat → Nat → Int32) → (Nat → Nat → Int64) → Option Nat → Prop) (P : Int32 → (Nat → Nat → Int32) → (Nat → Nat → Int64) → Option Nat → Prop) : Prop := ((x2 < I 204 6 → wl_X12_uneven_18_8 (x1) (x2) ((0 : Int32)) I J T V8 P) ∧ (¬ (x2 < I 204 6) → wp_X12_gives (x1) I J T (fun v14 I14 J14 T14 => P (v14) I14 J14 T14)))
def wl_X12_uneven_8 (x1 : Int32) (x2 : Int32) (I : Nat → Nat → Int32) (J : Nat → Nat → Int64) (T : Option Nat) (P : Int32 → (Nat → Nat → Int32) → (Nat → Nat → Int64) → Option Nat → Prop) : Prop := ∀ V : Int32 → Int32 → (Nat → Nat → Int32) → (Nat → Nat → Int64) → Option Nat → Prop, (∀ (x1 : Int32) (x2 : Int32) (I : Nat → Nat → Int32) (J : Nat → Nat → Int64) (T : Option Nat), wb_X12_uneven_8 x1 x2 I J T V P → V x1 x2 I J T) → V x1 x2 I J T
set_option maxRecDepth 20000 in
theorem tl_X12_uneven_8 {d : Nat} {x1 : Int32} {x2 : Int32} {I : Nat → Nat → Int32} {J : Nat → Nat → Int64} {T : Option Nat} {P : Int32 → (Nat → Nat → Int32) → (Nat → Nat → Int64) → Option Nat → Prop} {Q : ix_Q} (h : wl_X12_uneven_8 x1 x2 I J T P) (hQ : ∀ v I J T, P v I J T → Q (some (.inl v)) (ix_mem 276 I J T)) : ix_W (ix_C (d + 2)) (12, ix_lk ix_l303, (some .int), 0, 0, Nat.blt 0 0, none) Q (8, [some (.inr (.inr (.inl (some (204))))), some (.inl (x1)), some (.inl (x2)), none], [], 0, 0, ix_mem 276 I J T) := by
  refine h (fun x1 x2 I J T => ix_W (ix_C (d + 2)) (12, ix_lk ix_l303, (some .int), 0, 0, Nat.blt 0 0, none) Q (8, [some (.inr (.inr (.inl (some (204))))), some (.inl (x1)), some (.inl (x2)), none], [], 0, 0, ix_mem 276 I J T)) ?_
  intro x1 x2 I J T hb
  unfold wb_X12_uneven_8 at hb
  refine ix_go 4 (x' := (if x2 < I 204 6 then 16 else 70, [some (.inr (.inr (.inl (some (204))))), some (.inl (x1)), some (.inl (x2)), none], [], 0, 0, ix_mem 276 I J T)) rfl ⟨rfl, rfl⟩ ?_
  refine ix_br (fun c2 => ?_) (fun c2 => ?_)
  · have h3 := hb.1 c2
    refine ix_go 2 (x' := (18, [some (.inr (.inr (.inl (some (204))))), some (.inl (x1)), some (.inl (x2)), some (.inl ((0 : Int32)))], [], 0, 0, ix_mem 276 I J T)) rfl trivial ?_
    refine ix_subW ([some (.inr (.inr (.inl (some (204))))), some (.inl (x1)), some (.inl (x2)), some (.inl ((0 : Int32)))]) (ix_subS (ix_subS (ix_subS (ix_subS (ix_sub0))))) ?_
    exact tl_X12_uneven_18_8 h3 (fun _ _ I J T hv => hv) hQ
  · have h3 := hb.2 c2
    refine ix_go 2 (x' := (72, [some (.inr (.inr (.inl (some (204))))), some (.inl (x1)), some (.inl (x2)), none], [.inl (x1), .inr (.inr (.inl (some (204))))], 0, 0, ix_mem 276 I J T)) rfl trivial ?_
    refine ix_sp rfl ⟨rfl, ⟨ix_lt rfl, ix_eq rfl, ix_lt rfl⟩, ix_le rfl, Nat.le_refl _, Nat.le_refl _, tp_X12_gives h3 (fun v14 I14 J14 T14 h14 => ?_)⟩
    change ix_W _ _ _ (75, [some (.inr (.inr (.inl (some (204))))), some (.inl (x1)), some (.inl (x2)), none], [.inl (v14)], 0, 0, ix_mem 276 I14 J14 T14)
    exact ix_sp rfl ⟨Nat.le_refl _, Nat.le_refl _, trivial, hQ _ _ _ _ h14⟩
def wp_X12_uneven (I : Nat → Nat → Int32) (J : Nat → Nat → Int64) (T : Option Nat) (P : Int32 → (Nat → Nat → Int32) → (Nat → Nat → Int64) → Option Nat → Prop) : Prop := wp_X12_carry I J T (fun I1 J1 T1 => wl_X12_uneven_8 ((0 : Int32)) ((0 : Int32)) I1 J1 T1 P)
set_option maxRecDepth 20000 in
theorem tp_X12_uneven {d : Nat} {I : Nat → Nat → Int32} {J : Nat → Nat → Int64} {T : Option Nat} {P : Int32 → (Nat → Nat → Int32) → (Nat → Nat → Int64) → Option Nat → Prop} {Q : ix_Q} (h : wp_X12_uneven I J T P) (hQ : ∀ v I J T, P v I J T → Q (some (.inl v)) (ix_mem 276 I J T)) : ix_C (d + 4) 303 [.inr (.inr (.inl (some (204))))] (ix_mem 276 I J T) Q := by
  unfold wp_X12_uneven at h
  refine ix_enter (ls := [some (.inr (.inr (.inl (some (204))))), none, none, none]) rfl rfl rfl (Nat.le_of_ble_eq_true rfl) ?_
  refine ix_go 1 (x' := (1, [some (.inr (.inr (.inl (some (204))))), none, none, none], [.inr (.inr (.inl (some (204))))], 0, 0, ix_mem 276 I J T)) rfl trivial ?_
  refine ix_sp rfl ⟨rfl, ⟨ix_lt rfl, ix_eq rfl, ix_lt rfl⟩, ix_le rfl, Nat.le_refl _, Nat.le_refl _, tp_X12_carry h (fun I1 J1 T1 h1 => ?_)⟩
  change ix_W _ _ _ (4, [some (.inr (.inr (.inl (some (204))))), none, none, none], [], 0, 0, ix_mem 276 I1 J1 T1)
  refine ix_go 4 (x' := (8, [some (.inr (.inr (.inl (some (204))))), some (.inl ((0 : Int32))), some (.inl ((0 : Int32))), none], [], 0, 0, ix_mem 276 I1 J1 T1)) rfl trivial ?_
  refine ix_subW ([some (.inr (.inr (.inl (some (204))))), some (.inl ((0 : Int32))), some (.inl ((0 : Int32))), none]) (ix_subS (ix_subS (ix_subS (ix_subS (ix_sub0))))) ?_
  exact tl_X12_uneven_8 h1 hQ
def wp_X12_isFlow (a0 : Int32) (I : Nat → Nat → Int32) (J : Nat → Nat → Int64) (T : Option Nat) (P : Int32 → (Nat → Nat → Int32) → (Nat → Nat → Int64) → Option Nat → Prop) : Prop := ((a0 < 0 → P ((0 : Int32)) I J T) ∧ (¬ (a0 < 0) → ((a0 < I 204 65 → P ((1 : Int32)) I J T) ∧ (¬ (a0 < I 204 65) → P ((0 : Int32)) I J T))))
set_option maxRecDepth 20000 in
theorem tp_X12_isFlow {d : Nat} {a0 : Int32} {I : Nat → Nat → Int32} {J : Nat → Nat → Int64} {T : Option Nat} {P : Int32 → (Nat → Nat → Int32) → (Nat → Nat → Int64) → Option Nat → Prop} {Q : ix_Q} (h : wp_X12_isFlow a0 I J T P) (hQ : ∀ v I J T, P v I J T → Q (some (.inl v)) (ix_mem 276 I J T)) : ix_C (d + 1) 304 [.inr (.inr (.inl (some (204)))), .inl (a0)] (ix_mem 276 I J T) Q := by
  unfold wp_X12_isFlow at h
  refine ix_enter (ls := [some (.inr (.inr (.inl (some (204))))), some (.inl (a0))]) rfl rfl rfl (Nat.le_of_ble_eq_true rfl) ?_
  refine ix_go 2 (x' := (if a0 < 0 then 16 else 4, [some (.inr (.inr (.inl (some (204))))), some (.inl (a0))], [], 0, 0, ix_mem 276 I J T)) rfl trivial ?_
  refine ix_br (fun c1 => ?_) (fun c1 => ?_)
  · have h2 := h.1 c1
    refine ix_go 1 (x' := (17, [some (.inr (.inr (.inl (some (204))))), some (.inl (a0))], [.inl ((0 : Int32))], 0, 0, ix_mem 276 I J T)) rfl trivial ?_
    exact ix_sp rfl ⟨Nat.le_refl _, Nat.le_refl _, ix_01_ok rfl, hQ _ _ _ _ h2⟩
  · have h2 := h.2 c1
    refine ix_go 4 (x' := (if a0 < I 204 65 then 12 else 16, [some (.inr (.inr (.inl (some (204))))), some (.inl (a0))], [], 0, 0, ix_mem 276 I J T)) rfl ⟨rfl, rfl⟩ ?_
    refine ix_br (fun c3 => ?_) (fun c3 => ?_)
    · have h4 := h2.1 c3
      refine ix_go 2 (x' := (17, [some (.inr (.inr (.inl (some (204))))), some (.inl (a0))], [.inl ((1 : Int32))], 0, 0, ix_mem 276 I J T)) rfl trivial ?_
      exact ix_sp rfl ⟨Nat.le_refl _, Nat.le_refl _, ix_01_ok rfl, hQ _ _ _ _ h4⟩
    · have h4 := h2.2 c3
      refine ix_go 1 (x' := (17, [some (.inr (.inr (.inl (some (204))))), some (.inl (a0))], [.inl ((0 : Int32))], 0, 0, ix_mem 276 I J T)) rfl trivial ?_
      exact ix_sp rfl ⟨Nat.le_refl _, Nat.le_refl _, ix_01_ok rfl, hQ _ _ _ _ h4⟩
def wb_X12_flow_158_83 (x1 : Int32) (x2 : Int32) (x3 : Int32) (x4 : Int32) (x5 : Int32) (x6 : Int32) (I : Nat → Nat → Int32) (J : Nat → Nat → Int64) (T : Option Nat) (V158 : Int32 → Int32 → Int32 → Int32 → Int32 → Int32 → (Nat → Nat → Int32) → (Nat → Nat → Int64) → Option Nat → Prop) (V83 : Int32 → Int32 → Int32 → Int32 → Int32 → Int32 → (Nat → Nat → Int32) → (Nat → Nat → Int64) → Option Nat → Prop) (P : Int32 → (Nat → Nat → Int32) → (Nat → Nat → Int64) → Option Nat → Prop) : Prop := ((x6 < (52 : Int32) → ix_inb ((((60 : Int32)) * (x5)) + (x6)) 240 = true ∧ ix_inb ((((52 : Int32)) * (I 204 65)) + (x6)) 416 = true ∧ V158 (x1) (x2) (x3) (x4) (x5) (x6 + (1 : Int32)) (ix_u2 I 251 ((((52 : Int32)) * (I 204 65)) + (x6)).toNatClampNeg ((J 207 ((((60 : Int32)) * (x5)) + (x6)).toNatClampNeg).toInt32)) J T) ∧ (¬ (x6 < (52 : Int32)) → ix_inb (I 204 65) 8 = true ∧ ix_inb (I 204 65) 8 = true ∧ ix_inb (I 204 65) 8 = true ∧ ix_inb (I 204 65) 8 = true ∧ wp_X12_gives ((((I 204 65) + ((1 : Int32)))) - ((1 : Int32))) (ix_u2 (ix_u2 (ix_u2 (ix_u2 (ix_u2 I 247 (I 204 65).toNatClampNeg (x1)) 248 (I 204 65).toNatClampNeg (x2)) 249 (I 204 65).toNatClampNeg (x3)) 250 (I 204 65).toNatClampNeg (x4)) 204 65 ((I 204 65) + ((1 : Int32)))) J T (fun v58 I58 J58 T58 => P (v58) I58 J58 T58)))
def wl_X12_flow_158_83 (x1 : Int32) (x2 : Int32) (x3 : Int32) (x4 : Int32) (x5 : Int32) (x6 : Int32) (I : Nat → Nat → Int32) (J : Nat → Nat → Int64) (T : Option Nat) (V83 : Int32 → Int32 → Int32 → Int32 → Int32 → Int32 → (Nat → Nat → Int32) → (Nat → Nat → Int64) → Option Nat → Prop) (P : Int32 → (Nat → Nat → Int32) → (Nat → Nat → Int64) → Option Nat → Prop) : Prop := ∀ V : Int32 → Int32 → Int32 → Int32 → Int32 → Int32 → (Nat → Nat → Int32) → (Nat → Nat → Int64) → Option Nat → Prop, (∀ (x1 : Int32) (x2 : Int32) (x3 : Int32) (x4 : Int32) (x5 : Int32) (x6 : Int32) (I : Nat → Nat → Int32) (J : Nat → Nat → Int64) (T : Option Nat), wb_X12_flow_158_83 x1 x2 x3 x4 x5 x6 I J T V V83 P → V x1 x2 x3 x4 x5 x6 I J T) → V x1 x2 x3 x4 x5 x6 I J T
set_option maxRecDepth 20000 in
theorem tl_X12_flow_158_83 {d : Nat} {x1 : Int32} {x2 : Int32} {x3 : Int32} {x4 : Int32} {x5 : Int32} {x6 : Int32} {I : Nat → Nat → Int32} {J : Nat → Nat → Int64} {T : Option Nat} {V83 : Int32 → Int32 → Int32 → Int32 → Int32 → Int32 → (Nat → Nat → Int32) → (Nat → Nat → Int64) → Option Nat → Prop} {P : Int32 → (Nat → Nat → Int32) → (Nat → Nat → Int64) → Option Nat → Prop} {Q : ix_Q} (h : wl_X12_flow_158_83 x1 x2 x3 x4 x5 x6 I J T V83 P) (hV83 : ∀ (x1 : Int32) (x2 : Int32) (x3 : Int32) (x4 : Int32) (x5 : Int32) (x6 : Int32) I J T, V83 x1 x2 x3 x4 x5 x6 I J T → ix_W (ix_C (d + 1)) (12, ix_lk ix_l305, (some .int), 0, 0, Nat.blt 0 0, none) Q (83, [some (.inr (.inr (.inl (some (204))))), some (.inl (x1)), some (.inl (x2)), some (.inl (x3)), some (.inl (x4)), some (.inl (x5)), some (.inl (x6))], [], 0, 0, ix_mem 276 I J T)) (hQ : ∀ v I J T, P v I J T → Q (some (.inl v)) (ix_mem 276 I J T)) : ix_W (ix_C (d + 1)) (12, ix_lk ix_l305, (some .int), 0, 0, Nat.blt 0 0, none) Q (158, [some (.inr (.inr (.inl (some (204))))), some (.inl (x1)), some (.inl (x2)), some (.inl (x3)), some (.inl (x4)), some (.inl (x5)), some (.inl (x6))], [], 0, 0, ix_mem 276 I J T) := by
  refine h (fun x1 x2 x3 x4 x5 x6 I J T => ix_W (ix_C (d + 1)) (12, ix_lk ix_l305, (some .int), 0, 0, Nat.blt 0 0, none) Q (158, [some (.inr (.inr (.inl (some (204))))), some (.inl (x1)), some (.inl (x2)), some (.inl (x3)), some (.inl (x4)), some (.inl (x5)), some (.inl (x6))], [], 0, 0, ix_mem 276 I J T)) ?_
  intro x1 x2 x3 x4 x5 x6 I J T hb
  unfold wb_X12_flow_158_83 at hb
  refine ix_go 3 (x' := (if x6 < (52 : Int32) then 165 else 200, [some (.inr (.inr (.inl (some (204))))), some (.inl (x1)), some (.inl (x2)), some (.inl (x3)), some (.inl (x4)), some (.inl (x5)), some (.inl (x6))], [], 0, 0, ix_mem 276 I J T)) rfl trivial ?_
  refine ix_br (fun c44 => ?_) (fun c44 => ?_)
  · have h45 := hb.1 c44
    refine ix_go 7 (x' := (178, [some (.inr (.inr (.inl (some (204))))), some (.inl (x1)), some (.inl (x2)), some (.inl (x3)), some (.inl (x4)), some (.inl (x5)), some (.inl (x6))], [.inl (x6), .inl (((52 : Int32)) * (I 204 65)), .inr (.inr (.inl (some (251))))], 0, 0, ix_mem 276 I J T)) rfl ⟨rfl, rfl, rfl, rfl⟩ ?_
    refine ix_go 7 (x' := (190, [some (.inr (.inr (.inl (some (204))))), some (.inl (x1)), some (.inl (x2)), some (.inl (x3)), some (.inl (x4)), some (.inl (x5)), some (.inl (x6))], [.inl (x6), .inl (((60 : Int32)) * (x5)), .inr (.inr (.inl (some (207)))), .inl ((((52 : Int32)) * (I 204 65)) + (x6)), .inr (.inr (.inl (some (251))))], 0, 0, ix_mem 276 I J T)) rfl ⟨rfl, rfl⟩ ?_
    obtain ⟨p46, h47⟩ := h45
    obtain ⟨p48, h49⟩ := h47
    refine ix_go 6 (x' := (158, [some (.inr (.inr (.inl (some (204))))), some (.inl (x1)), some (.inl (x2)), some (.inl (x3)), some (.inl (x4)), some (.inl (x5)), some (.inl (x6 + (1 : Int32)))], [], 0, 0, ix_mem 276 (ix_u2 I 251 ((((52 : Int32)) * (I 204 65)) + (x6)).toNatClampNeg ((J 207 ((((60 : Int32)) * (x5)) + (x6)).toNatClampNeg).toInt32)) J T)) rfl ⟨rfl, rfl, p46, rfl, rfl, p48⟩ ?_
    refine ix_subW ([some (.inr (.inr (.inl (some (204))))), some (.inl (x1)), some (.inl (x2)), some (.inl (x3)), some (.inl (x4)), some (.inl (x5)), some (.inl (x6 + (1 : Int32)))]) (ix_subS (ix_subS (ix_subS (ix_subS (ix_subS (ix_subS (ix_subS (ix_sub0)))))))) ?_
    exact h49
  · have h45 := hb.2 c44
    obtain ⟨p50, h51⟩ := h45
    refine ix_go 7 (x' := (211, [some (.inr (.inr (.inl (some (204))))), some (.inl (x1)), some (.inl (x2)), some (.inl (x3)), some (.inl (x4)), some (.inl (x5)), some (.inl (x6))], [.inr (.inr (.inl (some (204))))], 0, 0, ix_mem 276 (ix_u2 I 247 (I 204 65).toNatClampNeg (x1)) J T)) rfl ⟨rfl, rfl, rfl, rfl, rfl, rfl, p50⟩ ?_
    obtain ⟨p52, h53⟩ := h51
    refine ix_go 7 (x' := (224, [some (.inr (.inr (.inl (some (204))))), some (.inl (x1)), some (.inl (x2)), some (.inl (x3)), some (.inl (x4)), some (.inl (x5)), some (.inl (x6))], [.inr (.inr (.inl (some (249))))], 0, 0, ix_mem 276 (ix_u2 (ix_u2 I 247 (I 204 65).toNatClampNeg (x1)) 248 (I 204 65).toNatClampNeg (x2)) J T)) rfl ⟨rfl, rfl, rfl, rfl, rfl, rfl, p52, rfl, rfl⟩ ?_
    obtain ⟨p54, h55⟩ := h53
    refine ix_go 7 (x' := (235, [some (.inr (.inr (.inl (some (204))))), some (.inl (x1)), some (.inl (x2)), some (.inl (x3)), some (.inl (x4)), some (.inl (x5)), some (.inl (x6))], [.inr (.inr (.inl (some (204)))), .inr (.inr (.inl (some (250))))], 0, 0, ix_mem 276 (ix_u2 (ix_u2 (ix_u2 I 247 (I 204 65).toNatClampNeg (x1)) 248 (I 204 65).toNatClampNeg (x2)) 249 (I 204 65).toNatClampNeg (x3)) J T)) rfl ⟨rfl, rfl, rfl, rfl, p54, rfl, rfl⟩ ?_
    obtain ⟨p56, h57⟩ := h55
    refine ix_go 7 (x' := (247, [some (.inr (.inr (.inl (some (204))))), some (.inl (x1)), some (.inl (x2)), some (.inl (x3)), some (.inl (x4)), some (.inl (x5)), some (.inl (x6))], [.inl ((1 : Int32)), .inl (I 204 65), .inr (.inr (.inl (some (204))))], 0, 0, ix_mem 276 (ix_u2 (ix_u2 (ix_u2 (ix_u2 I 247 (I 204 65).toNatClampNeg (x1)) 248 (I 204 65).toNatClampNeg (x2)) 249 (I 204 65).toNatClampNeg (x3)) 250 (I 204 65).toNatClampNeg (x4)) J T)) rfl ⟨rfl, rfl, rfl, rfl, p56, rfl, rfl⟩ ?_
    refine ix_go 7 (x' := (258, [some (.inr (.inr (.inl (some (204))))), some (.inl (x1)), some (.inl (x2)), some (.inl (x3)), some (.inl (x4)), some (.inl (x5)), some (.inl (x6))], [.inl ((((I 204 65) + ((1 : Int32)))) - ((1 : Int32))), .inr (.inr (.inl (some (204))))], 0, 0, ix_mem 276 (ix_u2 (ix_u2 (ix_u2 (ix_u2 (ix_u2 I 247 (I 204 65).toNatClampNeg (x1)) 248 (I 204 65).toNatClampNeg (x2)) 249 (I 204 65).toNatClampNeg (x3)) 250 (I 204 65).toNatClampNeg (x4)) 204 65 ((I 204 65) + ((1 : Int32)))) J T)) rfl ⟨rfl, rfl, rfl, rfl⟩ ?_
    refine ix_sp rfl ⟨rfl, ⟨ix_lt rfl, ix_eq rfl, ix_lt rfl⟩, ix_le rfl, Nat.le_refl _, Nat.le_refl _, tp_X12_gives h57 (fun v58 I58 J58 T58 h58 => ?_)⟩
    change ix_W _ _ _ (261, [some (.inr (.inr (.inl (some (204))))), some (.inl (x1)), some (.inl (x2)), some (.inl (x3)), some (.inl (x4)), some (.inl (x5)), some (.inl (x6))], [.inl (v58)], 0, 0, ix_mem 276 I58 J58 T58)
    exact ix_sp rfl ⟨Nat.le_refl _, Nat.le_refl _, trivial, hQ _ _ _ _ h58⟩
def wb_X12_flow_83 (x1 : Int32) (x2 : Int32) (x3 : Int32) (x4 : Int32) (x5 : Int32) (x6 : Int32) (I : Nat → Nat → Int32) (J : Nat → Nat → Int64) (T : Option Nat) (V83 : Int32 → Int32 → Int32 → Int32 → Int32 → Int32 → (Nat → Nat → Int32) → (Nat → Nat → Int64) → Option Nat → Prop) (P : Int32 → (Nat → Nat → Int32) → (Nat → Nat → Int64) → Option Nat → Prop) : Prop := ((x6 < (52 : Int32) → ix_inb ((((60 : Int32)) * (x5)) + (x6)) 240 = true ∧ ((lg_cmp (J 207 ((((60 : Int32)) * (x5)) + (x6)).toNatClampNeg) ((0 : Int64)) < 0 → wp_X12_refuse ((1 : Int32)) I J T (fun v35 I35 J35 T35 => P (v35) I35 J35 T35)) ∧ (¬ (lg_cmp (J 207 ((((60 : Int32)) * (x5)) + (x6)).toNatClampNeg) ((0 : Int64)) < 0) → ix_inb ((((60 : Int32)) * (x5)) + (x6)) 240 = true ∧ ((lg_cmp (J 207 ((((60 : Int32)) * (x5)) + (x6)).toNatClampNeg) ((10000 : Int64)) ≤ 0 → V83 (x1) (x2) (x3) (x4) (x5) (x6 + (1 : Int32)) I J T) ∧ (¬ (lg_cmp (J 207 ((((60 : Int32)) * (x5)) + (x6)).toNatClampNeg) ((10000 : Int64)) ≤ 0) → wp_X12_refuse ((1 : Int32)) I J T (fun v40 I40 J40 T40 => P (v40) I40 J40 T40)))))) ∧ (¬ (x6 < (52 : Int32)) → ((I 204 65 = (8 : Int32) → wp_X12_refuse ((4 : Int32)) I J T (fun v43 I43 J43 T43 => P (v43) I43 J43 T43)) ∧ (¬ (I 204 65 = (8 : Int32)) → wl_X12_flow_158_83 (x1) (x2) (x3) (x4) (x5) ((0 : Int32)) I J T V83 P))))
def wl_X12_flow_83 (x1 : Int32) (x2 : Int32) (x3 : Int32) (x4 : Int32) (x5 : Int32) (x6 : Int32) (I : Nat → Nat → Int32) (J : Nat → Nat → Int64) (T : Option Nat) (P : Int32 → (Nat → Nat → Int32) → (Nat → Nat → Int64) → Option Nat → Prop) : Prop := ∀ V : Int32 → Int32 → Int32 → Int32 → Int32 → Int32 → (Nat → Nat → Int32) → (Nat → Nat → Int64) → Option Nat → Prop, (∀ (x1 : Int32) (x2 : Int32) (x3 : Int32) (x4 : Int32) (x5 : Int32) (x6 : Int32) (I : Nat → Nat → Int32) (J : Nat → Nat → Int64) (T : Option Nat), wb_X12_flow_83 x1 x2 x3 x4 x5 x6 I J T V P → V x1 x2 x3 x4 x5 x6 I J T) → V x1 x2 x3 x4 x5 x6 I J T
set_option maxRecDepth 20000 in
theorem tl_X12_flow_83 {d : Nat} {x1 : Int32} {x2 : Int32} {x3 : Int32} {x4 : Int32} {x5 : Int32} {x6 : Int32} {I : Nat → Nat → Int32} {J : Nat → Nat → Int64} {T : Option Nat} {P : Int32 → (Nat → Nat → Int32) → (Nat → Nat → Int64) → Option Nat → Prop} {Q : ix_Q} (h : wl_X12_flow_83 x1 x2 x3 x4 x5 x6 I J T P) (hQ : ∀ v I J T, P v I J T → Q (some (.inl v)) (ix_mem 276 I J T)) : ix_W (ix_C (d + 1)) (12, ix_lk ix_l305, (some .int), 0, 0, Nat.blt 0 0, none) Q (83, [some (.inr (.inr (.inl (some (204))))), some (.inl (x1)), some (.inl (x2)), some (.inl (x3)), some (.inl (x4)), some (.inl (x5)), some (.inl (x6))], [], 0, 0, ix_mem 276 I J T) := by
  refine h (fun x1 x2 x3 x4 x5 x6 I J T => ix_W (ix_C (d + 1)) (12, ix_lk ix_l305, (some .int), 0, 0, Nat.blt 0 0, none) Q (83, [some (.inr (.inr (.inl (some (204))))), some (.inl (x1)), some (.inl (x2)), some (.inl (x3)), some (.inl (x4)), some (.inl (x5)), some (.inl (x6))], [], 0, 0, ix_mem 276 I J T)) ?_
  intro x1 x2 x3 x4 x5 x6 I J T hb
  unfold wb_X12_flow_83 at hb
  refine ix_go 3 (x' := (if x6 < (52 : Int32) then 90 else 140, [some (.inr (.inr (.inl (some (204))))), some (.inl (x1)), some (.inl (x2)), some (.inl (x3)), some (.inl (x4)), some (.inl (x5)), some (.inl (x6))], [], 0, 0, ix_mem 276 I J T)) rfl trivial ?_
  refine ix_br (fun c29 => ?_) (fun c29 => ?_)
  · have h30 := hb.1 c29
    refine ix_go 7 (x' := (102, [some (.inr (.inr (.inl (some (204))))), some (.inl (x1)), some (.inl (x2)), some (.inl (x3)), some (.inl (x4)), some (.inl (x5)), some (.inl (x6))], [.inl ((((60 : Int32)) * (x5)) + (x6)), .inr (.inr (.inl (some (207))))], 0, 0, ix_mem 276 I J T)) rfl ⟨rfl, rfl⟩ ?_
    obtain ⟨p31, h32⟩ := h30
    refine ix_go 4 (x' := (if lg_cmp (J 207 ((((60 : Int32)) * (x5)) + (x6)).toNatClampNeg) ((0 : Int64)) < 0 then 128 else 108, [some (.inr (.inr (.inl (some (204))))), some (.inl (x1)), some (.inl (x2)), some (.inl (x3)), some (.inl (x4)), some (.inl (x5)), some (.inl (x6))], [], 0, 0, ix_mem 276 I J T)) rfl ⟨rfl, rfl, p31⟩ ?_
    refine ix_br (fun c33 => ?_) (fun c33 => ?_)
    · have h34 := h32.1 c33
      refine ix_go 2 (x' := (130, [some (.inr (.inr (.inl (some (204))))), some (.inl (x1)), some (.inl (x2)), some (.inl (x3)), some (.inl (x4)), some (.inl (x5)), some (.inl (x6))], [.inl ((1 : Int32)), .inr (.inr (.inl (some (204))))], 0, 0, ix_mem 276 I J T)) rfl trivial ?_
      refine ix_sp rfl ⟨rfl, ⟨ix_lt rfl, ix_eq rfl, ix_lt rfl⟩, ix_le rfl, Nat.le_refl _, Nat.le_refl _, tp_X12_refuse h34 (fun v35 I35 J35 T35 h35 => ?_)⟩
      change ix_W _ _ _ (133, [some (.inr (.inr (.inl (some (204))))), some (.inl (x1)), some (.inl (x2)), some (.inl (x3)), some (.inl (x4)), some (.inl (x5)), some (.inl (x6))], [.inl (v35)], 0, 0, ix_mem 276 I35 J35 T35)
      exact ix_sp rfl ⟨Nat.le_refl _, Nat.le_refl _, trivial, hQ _ _ _ _ h35⟩
    · have h34 := h32.2 c33
      refine ix_go 7 (x' := (120, [some (.inr (.inr (.inl (some (204))))), some (.inl (x1)), some (.inl (x2)), some (.inl (x3)), some (.inl (x4)), some (.inl (x5)), some (.inl (x6))], [.inl ((((60 : Int32)) * (x5)) + (x6)), .inr (.inr (.inl (some (207))))], 0, 0, ix_mem 276 I J T)) rfl ⟨rfl, rfl⟩ ?_
      obtain ⟨p36, h37⟩ := h34
      refine ix_go 4 (x' := (if lg_cmp (J 207 ((((60 : Int32)) * (x5)) + (x6)).toNatClampNeg) ((10000 : Int64)) ≤ 0 then 134 else 128, [some (.inr (.inr (.inl (some (204))))), some (.inl (x1)), some (.inl (x2)), some (.inl (x3)), some (.inl (x4)), some (.inl (x5)), some (.inl (x6))], [], 0, 0, ix_mem 276 I J T)) rfl ⟨rfl, rfl, p36⟩ ?_
      refine ix_br (fun c38 => ?_) (fun c38 => ?_)
      · have h39 := h37.1 c38
        refine ix_go 2 (x' := (83, [some (.inr (.inr (.inl (some (204))))), some (.inl (x1)), some (.inl (x2)), some (.inl (x3)), some (.inl (x4)), some (.inl (x5)), some (.inl (x6 + (1 : Int32)))], [], 0, 0, ix_mem 276 I J T)) rfl trivial ?_
        refine ix_subW ([some (.inr (.inr (.inl (some (204))))), some (.inl (x1)), some (.inl (x2)), some (.inl (x3)), some (.inl (x4)), some (.inl (x5)), some (.inl (x6 + (1 : Int32)))]) (ix_subS (ix_subS (ix_subS (ix_subS (ix_subS (ix_subS (ix_subS (ix_sub0)))))))) ?_
        exact h39
      · have h39 := h37.2 c38
        refine ix_go 2 (x' := (130, [some (.inr (.inr (.inl (some (204))))), some (.inl (x1)), some (.inl (x2)), some (.inl (x3)), some (.inl (x4)), some (.inl (x5)), some (.inl (x6))], [.inl ((1 : Int32)), .inr (.inr (.inl (some (204))))], 0, 0, ix_mem 276 I J T)) rfl trivial ?_
        refine ix_sp rfl ⟨rfl, ⟨ix_lt rfl, ix_eq rfl, ix_lt rfl⟩, ix_le rfl, Nat.le_refl _, Nat.le_refl _, tp_X12_refuse h39 (fun v40 I40 J40 T40 h40 => ?_)⟩
        change ix_W _ _ _ (133, [some (.inr (.inr (.inl (some (204))))), some (.inl (x1)), some (.inl (x2)), some (.inl (x3)), some (.inl (x4)), some (.inl (x5)), some (.inl (x6))], [.inl (v40)], 0, 0, ix_mem 276 I40 J40 T40)
        exact ix_sp rfl ⟨Nat.le_refl _, Nat.le_refl _, trivial, hQ _ _ _ _ h40⟩
  · have h30 := hb.2 c29
    refine ix_go 4 (x' := (if I 204 65 = (8 : Int32) then 149 else 155, [some (.inr (.inr (.inl (some (204))))), some (.inl (x1)), some (.inl (x2)), some (.inl (x3)), some (.inl (x4)), some (.inl (x5)), some (.inl (x6))], [], 0, 0, ix_mem 276 I J T)) rfl ⟨rfl, rfl⟩ ?_
    refine ix_br (fun c41 => ?_) (fun c41 => ?_)
    · have h42 := h30.1 c41
      refine ix_go 2 (x' := (151, [some (.inr (.inr (.inl (some (204))))), some (.inl (x1)), some (.inl (x2)), some (.inl (x3)), some (.inl (x4)), some (.inl (x5)), some (.inl (x6))], [.inl ((4 : Int32)), .inr (.inr (.inl (some (204))))], 0, 0, ix_mem 276 I J T)) rfl trivial ?_
      refine ix_sp rfl ⟨rfl, ⟨ix_lt rfl, ix_eq rfl, ix_lt rfl⟩, ix_le rfl, Nat.le_refl _, Nat.le_refl _, tp_X12_refuse h42 (fun v43 I43 J43 T43 h43 => ?_)⟩
      change ix_W _ _ _ (154, [some (.inr (.inr (.inl (some (204))))), some (.inl (x1)), some (.inl (x2)), some (.inl (x3)), some (.inl (x4)), some (.inl (x5)), some (.inl (x6))], [.inl (v43)], 0, 0, ix_mem 276 I43 J43 T43)
      exact ix_sp rfl ⟨Nat.le_refl _, Nat.le_refl _, trivial, hQ _ _ _ _ h43⟩
    · have h42 := h30.2 c41
      refine ix_go 2 (x' := (158, [some (.inr (.inr (.inl (some (204))))), some (.inl (x1)), some (.inl (x2)), some (.inl (x3)), some (.inl (x4)), some (.inl (x5)), some (.inl ((0 : Int32)))], [], 0, 0, ix_mem 276 I J T)) rfl trivial ?_
      refine ix_subW ([some (.inr (.inr (.inl (some (204))))), some (.inl (x1)), some (.inl (x2)), some (.inl (x3)), some (.inl (x4)), some (.inl (x5)), some (.inl ((0 : Int32)))]) (ix_subS (ix_subS (ix_subS (ix_subS (ix_subS (ix_subS (ix_subS (ix_sub0)))))))) ?_
      exact tl_X12_flow_158_83 h42 (fun _ _ _ _ _ _ I J T hv => hv) hQ
def wp_X12_flow (a0 : Int32) (a1 : Int32) (a2 : Int32) (a3 : Int32) (a4 : Int32) (I : Nat → Nat → Int32) (J : Nat → Nat → Int64) (T : Option Nat) (P : Int32 → (Nat → Nat → Int32) → (Nat → Nat → Int64) → Option Nat → Prop) : Prop := wp_X12_areTwo (a0) (a1) I J T (fun v1 I1 J1 T1 => ((v1 = 0 → wp_X12_refuse ((1 : Int32)) I1 J1 T1 (fun v4 I4 J4 T4 => P (v4) I4 J4 T4)) ∧ (¬ (v1 = 0) → ((a2 < 0 → wp_X12_refuse ((1 : Int32)) I1 J1 T1 (fun v7 I7 J7 T7 => P (v7) I7 J7 T7)) ∧ (¬ (a2 < 0) → ((a2 ≤ (3 : Int32) → ((a3 < (1 : Int32) → wp_X12_refuse ((1 : Int32)) I1 J1 T1 (fun v12 I12 J12 T12 => P (v12) I12 J12 T12)) ∧ (¬ (a3 < (1 : Int32)) → ((a3 ≤ (100 : Int32) → wp_X12_isTray (a4) I1 J1 T1 (fun v15 I15 J15 T15 => ((v15 = 0 → wp_X12_refuse ((1 : Int32)) I15 J15 T15 (fun v18 I18 J18 T18 => P (v18) I18 J18 T18)) ∧ (¬ (v15 = 0) → ix_inb (a4) 4 = true ∧ ((I15 206 (a4).toNatClampNeg = (-1 : Int32) → wp_X12_refuse ((2 : Int32)) I15 J15 T15 (fun v23 I23 J23 T23 => P (v23) I23 J23 T23)) ∧ (¬ (I15 206 (a4).toNatClampNeg = (-1 : Int32)) → ix_inb (a4) 4 = true ∧ ((I15 206 (a4).toNatClampNeg < (52 : Int32) → wp_X12_refuse ((3 : Int32)) I15 J15 T15 (fun v28 I28 J28 T28 => P (v28) I28 J28 T28)) ∧ (¬ (I15 206 (a4).toNatClampNeg < (52 : Int32)) → wl_X12_flow_83 (a0) (a1) (a2) (a3) (a4) ((0 : Int32)) I15 J15 T15 P)))))))) ∧ (¬ (a3 ≤ (100 : Int32)) → wp_X12_refuse ((1 : Int32)) I1 J1 T1 (fun v59 I59 J59 T59 => P (v59) I59 J59 T59)))))) ∧ (¬ (a2 ≤ (3 : Int32)) → wp_X12_refuse ((1 : Int32)) I1 J1 T1 (fun v60 I60 J60 T60 => P (v60) I60 J60 T60))))))))
set_option maxRecDepth 20000 in
theorem tp_X12_flow {d : Nat} {a0 : Int32} {a1 : Int32} {a2 : Int32} {a3 : Int32} {a4 : Int32} {I : Nat → Nat → Int32} {J : Nat → Nat → Int64} {T : Option Nat} {P : Int32 → (Nat → Nat → Int32) → (Nat → Nat → Int64) → Option Nat → Prop} {Q : ix_Q} (h : wp_X12_flow a0 a1 a2 a3 a4 I J T P) (hQ : ∀ v I J T, P v I J T → Q (some (.inl v)) (ix_mem 276 I J T)) : ix_C (d + 3) 305 [.inr (.inr (.inl (some (204)))), .inl (a0), .inl (a1), .inl (a2), .inl (a3), .inl (a4)] (ix_mem 276 I J T) Q := by
  unfold wp_X12_flow at h
  refine ix_enter (ls := [some (.inr (.inr (.inl (some (204))))), some (.inl (a0)), some (.inl (a1)), some (.inl (a2)), some (.inl (a3)), some (.inl (a4)), none]) rfl rfl rfl (Nat.le_of_ble_eq_true rfl) ?_
  refine ix_go 3 (x' := (3, [some (.inr (.inr (.inl (some (204))))), some (.inl (a0)), some (.inl (a1)), some (.inl (a2)), some (.inl (a3)), some (.inl (a4)), none], [.inl (a1), .inl (a0), .inr (.inr (.inl (some (204))))], 0, 0, ix_mem 276 I J T)) rfl trivial ?_
  refine ix_sp rfl ⟨rfl, ⟨ix_lt rfl, ix_eq rfl, ix_lt rfl⟩, ix_le rfl, Nat.le_refl _, Nat.le_refl _, tp_X12_areTwo h (fun v1 I1 J1 T1 h1 => ?_)⟩
  change ix_W _ _ _ (6, [some (.inr (.inr (.inl (some (204))))), some (.inl (a0)), some (.inl (a1)), some (.inl (a2)), some (.inl (a3)), some (.inl (a4)), none], [.inl (v1)], 0, 0, ix_mem 276 I1 J1 T1)
  refine ix_go 1 (x' := (if v1 = 0 then 39 else 9, [some (.inr (.inr (.inl (some (204))))), some (.inl (a0)), some (.inl (a1)), some (.inl (a2)), some (.inl (a3)), some (.inl (a4)), none], [], 0, 0, ix_mem 276 I1 J1 T1)) rfl trivial ?_
  refine ix_br (fun c2 => ?_) (fun c2 => ?_)
  · have h3 := h1.1 c2
    refine ix_go 2 (x' := (41, [some (.inr (.inr (.inl (some (204))))), some (.inl (a0)), some (.inl (a1)), some (.inl (a2)), some (.inl (a3)), some (.inl (a4)), none], [.inl ((1 : Int32)), .inr (.inr (.inl (some (204))))], 0, 0, ix_mem 276 I1 J1 T1)) rfl trivial ?_
    refine ix_sp rfl ⟨rfl, ⟨ix_lt rfl, ix_eq rfl, ix_lt rfl⟩, ix_le rfl, Nat.le_refl _, Nat.le_refl _, tp_X12_refuse h3 (fun v4 I4 J4 T4 h4 => ?_)⟩
    change ix_W _ _ _ (44, [some (.inr (.inr (.inl (some (204))))), some (.inl (a0)), some (.inl (a1)), some (.inl (a2)), some (.inl (a3)), some (.inl (a4)), none], [.inl (v4)], 0, 0, ix_mem 276 I4 J4 T4)
    exact ix_sp rfl ⟨Nat.le_refl _, Nat.le_refl _, trivial, hQ _ _ _ _ h4⟩
  · have h3 := h1.2 c2
    refine ix_go 2 (x' := (if a2 < 0 then 39 else 13, [some (.inr (.inr (.inl (some (204))))), some (.inl (a0)), some (.inl (a1)), some (.inl (a2)), some (.inl (a3)), some (.inl (a4)), none], [], 0, 0, ix_mem 276 I1 J1 T1)) rfl trivial ?_
    refine ix_br (fun c5 => ?_) (fun c5 => ?_)
    · have h6 := h3.1 c5
      refine ix_go 2 (x' := (41, [some (.inr (.inr (.inl (some (204))))), some (.inl (a0)), some (.inl (a1)), some (.inl (a2)), some (.inl (a3)), some (.inl (a4)), none], [.inl ((1 : Int32)), .inr (.inr (.inl (some (204))))], 0, 0, ix_mem 276 I1 J1 T1)) rfl trivial ?_
      refine ix_sp rfl ⟨rfl, ⟨ix_lt rfl, ix_eq rfl, ix_lt rfl⟩, ix_le rfl, Nat.le_refl _, Nat.le_refl _, tp_X12_refuse h6 (fun v7 I7 J7 T7 h7 => ?_)⟩
      change ix_W _ _ _ (44, [some (.inr (.inr (.inl (some (204))))), some (.inl (a0)), some (.inl (a1)), some (.inl (a2)), some (.inl (a3)), some (.inl (a4)), none], [.inl (v7)], 0, 0, ix_mem 276 I7 J7 T7)
      exact ix_sp rfl ⟨Nat.le_refl _, Nat.le_refl _, trivial, hQ _ _ _ _ h7⟩
    · have h6 := h3.2 c5
      refine ix_go 3 (x' := (if a2 ≤ (3 : Int32) then 18 else 39, [some (.inr (.inr (.inl (some (204))))), some (.inl (a0)), some (.inl (a1)), some (.inl (a2)), some (.inl (a3)), some (.inl (a4)), none], [], 0, 0, ix_mem 276 I1 J1 T1)) rfl trivial ?_
      refine ix_br (fun c8 => ?_) (fun c8 => ?_)
      · have h9 := h6.1 c8
        refine ix_go 3 (x' := (if a3 < (1 : Int32) then 39 else 24, [some (.inr (.inr (.inl (some (204))))), some (.inl (a0)), some (.inl (a1)), some (.inl (a2)), some (.inl (a3)), some (.inl (a4)), none], [], 0, 0, ix_mem 276 I1 J1 T1)) rfl trivial ?_
        refine ix_br (fun c10 => ?_) (fun c10 => ?_)
        · have h11 := h9.1 c10
          refine ix_go 2 (x' := (41, [some (.inr (.inr (.inl (some (204))))), some (.inl (a0)), some (.inl (a1)), some (.inl (a2)), some (.inl (a3)), some (.inl (a4)), none], [.inl ((1 : Int32)), .inr (.inr (.inl (some (204))))], 0, 0, ix_mem 276 I1 J1 T1)) rfl trivial ?_
          refine ix_sp rfl ⟨rfl, ⟨ix_lt rfl, ix_eq rfl, ix_lt rfl⟩, ix_le rfl, Nat.le_refl _, Nat.le_refl _, tp_X12_refuse h11 (fun v12 I12 J12 T12 h12 => ?_)⟩
          change ix_W _ _ _ (44, [some (.inr (.inr (.inl (some (204))))), some (.inl (a0)), some (.inl (a1)), some (.inl (a2)), some (.inl (a3)), some (.inl (a4)), none], [.inl (v12)], 0, 0, ix_mem 276 I12 J12 T12)
          exact ix_sp rfl ⟨Nat.le_refl _, Nat.le_refl _, trivial, hQ _ _ _ _ h12⟩
        · have h11 := h9.2 c10
          refine ix_go 3 (x' := (if a3 ≤ (100 : Int32) then 31 else 39, [some (.inr (.inr (.inl (some (204))))), some (.inl (a0)), some (.inl (a1)), some (.inl (a2)), some (.inl (a3)), some (.inl (a4)), none], [], 0, 0, ix_mem 276 I1 J1 T1)) rfl trivial ?_
          refine ix_br (fun c13 => ?_) (fun c13 => ?_)
          · have h14 := h11.1 c13
            refine ix_go 1 (x' := (33, [some (.inr (.inr (.inl (some (204))))), some (.inl (a0)), some (.inl (a1)), some (.inl (a2)), some (.inl (a3)), some (.inl (a4)), none], [.inl (a4)], 0, 0, ix_mem 276 I1 J1 T1)) rfl trivial ?_
            refine ix_sp rfl ⟨rfl, trivial, ix_le rfl, Nat.le_refl _, Nat.le_refl _, tp_X12_isTray h14 (fun v15 I15 J15 T15 h15 => ?_)⟩
            change ix_W _ _ _ (36, [some (.inr (.inr (.inl (some (204))))), some (.inl (a0)), some (.inl (a1)), some (.inl (a2)), some (.inl (a3)), some (.inl (a4)), none], [.inl (v15)], 0, 0, ix_mem 276 I15 J15 T15)
            refine ix_go 1 (x' := (if v15 = 0 then 39 else 45, [some (.inr (.inr (.inl (some (204))))), some (.inl (a0)), some (.inl (a1)), some (.inl (a2)), some (.inl (a3)), some (.inl (a4)), none], [], 0, 0, ix_mem 276 I15 J15 T15)) rfl trivial ?_
            refine ix_br (fun c16 => ?_) (fun c16 => ?_)
            · have h17 := h15.1 c16
              refine ix_go 2 (x' := (41, [some (.inr (.inr (.inl (some (204))))), some (.inl (a0)), some (.inl (a1)), some (.inl (a2)), some (.inl (a3)), some (.inl (a4)), none], [.inl ((1 : Int32)), .inr (.inr (.inl (some (204))))], 0, 0, ix_mem 276 I15 J15 T15)) rfl trivial ?_
              refine ix_sp rfl ⟨rfl, ⟨ix_lt rfl, ix_eq rfl, ix_lt rfl⟩, ix_le rfl, Nat.le_refl _, Nat.le_refl _, tp_X12_refuse h17 (fun v18 I18 J18 T18 h18 => ?_)⟩
              change ix_W _ _ _ (44, [some (.inr (.inr (.inl (some (204))))), some (.inl (a0)), some (.inl (a1)), some (.inl (a2)), some (.inl (a3)), some (.inl (a4)), none], [.inl (v18)], 0, 0, ix_mem 276 I18 J18 T18)
              exact ix_sp rfl ⟨Nat.le_refl _, Nat.le_refl _, trivial, hQ _ _ _ _ h18⟩
            · have h17 := h15.2 c16
              obtain ⟨p19, h20⟩ := h17
              refine ix_go 6 (x' := (if I15 206 (a4).toNatClampNeg = (-1 : Int32) then 56 else 62, [some (.inr (.inr (.inl (some (204))))), some (.inl (a0)), some (.inl (a1)), some (.inl (a2)), some (.inl (a3)), some (.inl (a4)), none], [], 0, 0, ix_mem 276 I15 J15 T15)) rfl ⟨rfl, rfl, rfl, rfl, p19⟩ ?_
              refine ix_br (fun c21 => ?_) (fun c21 => ?_)
              · have h22 := h20.1 c21
                refine ix_go 2 (x' := (58, [some (.inr (.inr (.inl (some (204))))), some (.inl (a0)), some (.inl (a1)), some (.inl (a2)), some (.inl (a3)), some (.inl (a4)), none], [.inl ((2 : Int32)), .inr (.inr (.inl (some (204))))], 0, 0, ix_mem 276 I15 J15 T15)) rfl trivial ?_
                refine ix_sp rfl ⟨rfl, ⟨ix_lt rfl, ix_eq rfl, ix_lt rfl⟩, ix_le rfl, Nat.le_refl _, Nat.le_refl _, tp_X12_refuse h22 (fun v23 I23 J23 T23 h23 => ?_)⟩
                change ix_W _ _ _ (61, [some (.inr (.inr (.inl (some (204))))), some (.inl (a0)), some (.inl (a1)), some (.inl (a2)), some (.inl (a3)), some (.inl (a4)), none], [.inl (v23)], 0, 0, ix_mem 276 I23 J23 T23)
                exact ix_sp rfl ⟨Nat.le_refl _, Nat.le_refl _, trivial, hQ _ _ _ _ h23⟩
              · have h22 := h20.2 c21
                obtain ⟨p24, h25⟩ := h22
                refine ix_go 6 (x' := (if I15 206 (a4).toNatClampNeg < (52 : Int32) then 74 else 80, [some (.inr (.inr (.inl (some (204))))), some (.inl (a0)), some (.inl (a1)), some (.inl (a2)), some (.inl (a3)), some (.inl (a4)), none], [], 0, 0, ix_mem 276 I15 J15 T15)) rfl ⟨rfl, rfl, rfl, rfl, p24⟩ ?_
                refine ix_br (fun c26 => ?_) (fun c26 => ?_)
                · have h27 := h25.1 c26
                  refine ix_go 2 (x' := (76, [some (.inr (.inr (.inl (some (204))))), some (.inl (a0)), some (.inl (a1)), some (.inl (a2)), some (.inl (a3)), some (.inl (a4)), none], [.inl ((3 : Int32)), .inr (.inr (.inl (some (204))))], 0, 0, ix_mem 276 I15 J15 T15)) rfl trivial ?_
                  refine ix_sp rfl ⟨rfl, ⟨ix_lt rfl, ix_eq rfl, ix_lt rfl⟩, ix_le rfl, Nat.le_refl _, Nat.le_refl _, tp_X12_refuse h27 (fun v28 I28 J28 T28 h28 => ?_)⟩
                  change ix_W _ _ _ (79, [some (.inr (.inr (.inl (some (204))))), some (.inl (a0)), some (.inl (a1)), some (.inl (a2)), some (.inl (a3)), some (.inl (a4)), none], [.inl (v28)], 0, 0, ix_mem 276 I28 J28 T28)
                  exact ix_sp rfl ⟨Nat.le_refl _, Nat.le_refl _, trivial, hQ _ _ _ _ h28⟩
                · have h27 := h25.2 c26
                  refine ix_go 2 (x' := (83, [some (.inr (.inr (.inl (some (204))))), some (.inl (a0)), some (.inl (a1)), some (.inl (a2)), some (.inl (a3)), some (.inl (a4)), some (.inl ((0 : Int32)))], [], 0, 0, ix_mem 276 I15 J15 T15)) rfl trivial ?_
                  refine ix_subW ([some (.inr (.inr (.inl (some (204))))), some (.inl (a0)), some (.inl (a1)), some (.inl (a2)), some (.inl (a3)), some (.inl (a4)), some (.inl ((0 : Int32)))]) (ix_subS (ix_subS (ix_subS (ix_subS (ix_subS (ix_subS (ix_subS (ix_sub0)))))))) ?_
                  exact tl_X12_flow_83 h27 hQ
          · have h14 := h11.2 c13
            refine ix_go 2 (x' := (41, [some (.inr (.inr (.inl (some (204))))), some (.inl (a0)), some (.inl (a1)), some (.inl (a2)), some (.inl (a3)), some (.inl (a4)), none], [.inl ((1 : Int32)), .inr (.inr (.inl (some (204))))], 0, 0, ix_mem 276 I1 J1 T1)) rfl trivial ?_
            refine ix_sp rfl ⟨rfl, ⟨ix_lt rfl, ix_eq rfl, ix_lt rfl⟩, ix_le rfl, Nat.le_refl _, Nat.le_refl _, tp_X12_refuse h14 (fun v59 I59 J59 T59 h59 => ?_)⟩
            change ix_W _ _ _ (44, [some (.inr (.inr (.inl (some (204))))), some (.inl (a0)), some (.inl (a1)), some (.inl (a2)), some (.inl (a3)), some (.inl (a4)), none], [.inl (v59)], 0, 0, ix_mem 276 I59 J59 T59)
            exact ix_sp rfl ⟨Nat.le_refl _, Nat.le_refl _, trivial, hQ _ _ _ _ h59⟩
      · have h9 := h6.2 c8
        refine ix_go 2 (x' := (41, [some (.inr (.inr (.inl (some (204))))), some (.inl (a0)), some (.inl (a1)), some (.inl (a2)), some (.inl (a3)), some (.inl (a4)), none], [.inl ((1 : Int32)), .inr (.inr (.inl (some (204))))], 0, 0, ix_mem 276 I1 J1 T1)) rfl trivial ?_
        refine ix_sp rfl ⟨rfl, ⟨ix_lt rfl, ix_eq rfl, ix_lt rfl⟩, ix_le rfl, Nat.le_refl _, Nat.le_refl _, tp_X12_refuse h9 (fun v60 I60 J60 T60 h60 => ?_)⟩
        change ix_W _ _ _ (44, [some (.inr (.inr (.inl (some (204))))), some (.inl (a0)), some (.inl (a1)), some (.inl (a2)), some (.inl (a3)), some (.inl (a4)), none], [.inl (v60)], 0, 0, ix_mem 276 I60 J60 T60)
        exact ix_sp rfl ⟨Nat.le_refl _, Nat.le_refl _, trivial, hQ _ _ _ _ h60⟩
def wb_X12_trueOf_4 (x1 : Int32) (x2 : Int32) (x3 : Int32) (I : Nat → Nat → Int32) (J : Nat → Nat → Int64) (T : Option Nat) (V4 : Int32 → Int32 → Int32 → (Nat → Nat → Int32) → (Nat → Nat → Int64) → Option Nat → Prop) (P : Int32 → (Nat → Nat → Int32) → (Nat → Nat → Int64) → Option Nat → Prop) : Prop := ((x3 < (52 : Int32) → ix_inb ((((52 : Int32)) * (x1)) + (x3)) 416 = true ∧ V4 (x1) ((x2) + (I 251 ((((52 : Int32)) * (x1)) + (x3)).toNatClampNeg)) (x3 + (1 : Int32)) I J T) ∧ (¬ (x3 < (52 : Int32)) → P (x2) I J T))
def wl_X12_trueOf_4 (x1 : Int32) (x2 : Int32) (x3 : Int32) (I : Nat → Nat → Int32) (J : Nat → Nat → Int64) (T : Option Nat) (P : Int32 → (Nat → Nat → Int32) → (Nat → Nat → Int64) → Option Nat → Prop) : Prop := ∀ V : Int32 → Int32 → Int32 → (Nat → Nat → Int32) → (Nat → Nat → Int64) → Option Nat → Prop, (∀ (x1 : Int32) (x2 : Int32) (x3 : Int32) (I : Nat → Nat → Int32) (J : Nat → Nat → Int64) (T : Option Nat), wb_X12_trueOf_4 x1 x2 x3 I J T V P → V x1 x2 x3 I J T) → V x1 x2 x3 I J T
set_option maxRecDepth 20000 in
theorem tl_X12_trueOf_4 {d : Nat} {x1 : Int32} {x2 : Int32} {x3 : Int32} {I : Nat → Nat → Int32} {J : Nat → Nat → Int64} {T : Option Nat} {P : Int32 → (Nat → Nat → Int32) → (Nat → Nat → Int64) → Option Nat → Prop} {Q : ix_Q} (h : wl_X12_trueOf_4 x1 x2 x3 I J T P) (hQ : ∀ v I J T, P v I J T → Q (some (.inl v)) (ix_mem 276 I J T)) : ix_W (ix_C d) (12, ix_lk ix_l306, (some .int), 0, 0, Nat.blt 0 0, none) Q (4, [some (.inr (.inr (.inl (some (204))))), some (.inl (x1)), some (.inl (x2)), some (.inl (x3))], [], 0, 0, ix_mem 276 I J T) := by
  refine h (fun x1 x2 x3 I J T => ix_W (ix_C d) (12, ix_lk ix_l306, (some .int), 0, 0, Nat.blt 0 0, none) Q (4, [some (.inr (.inr (.inl (some (204))))), some (.inl (x1)), some (.inl (x2)), some (.inl (x3))], [], 0, 0, ix_mem 276 I J T)) ?_
  intro x1 x2 x3 I J T hb
  unfold wb_X12_trueOf_4 at hb
  refine ix_go 3 (x' := (if x3 < (52 : Int32) then 10 else 30, [some (.inr (.inr (.inl (some (204))))), some (.inl (x1)), some (.inl (x2)), some (.inl (x3))], [], 0, 0, ix_mem 276 I J T)) rfl trivial ?_
  refine ix_br (fun c1 => ?_) (fun c1 => ?_)
  · have h2 := hb.1 c1
    refine ix_go 7 (x' := (20, [some (.inr (.inr (.inl (some (204))))), some (.inl (x1)), some (.inl (x2)), some (.inl (x3))], [.inl (x3), .inl (((52 : Int32)) * (x1)), .inr (.inr (.inl (some (251)))), .inl (x2)], 0, 0, ix_mem 276 I J T)) rfl ⟨rfl, rfl⟩ ?_
    obtain ⟨p3, h4⟩ := h2
    refine ix_go 6 (x' := (4, [some (.inr (.inr (.inl (some (204))))), some (.inl (x1)), some (.inl ((x2) + (I 251 ((((52 : Int32)) * (x1)) + (x3)).toNatClampNeg))), some (.inl (x3 + (1 : Int32)))], [], 0, 0, ix_mem 276 I J T)) rfl ⟨rfl, rfl, p3⟩ ?_
    refine ix_subW ([some (.inr (.inr (.inl (some (204))))), some (.inl (x1)), some (.inl ((x2) + (I 251 ((((52 : Int32)) * (x1)) + (x3)).toNatClampNeg))), some (.inl (x3 + (1 : Int32)))]) (ix_subS (ix_subS (ix_subS (ix_subS (ix_sub0))))) ?_
    exact h4
  · have h2 := hb.2 c1
    refine ix_go 1 (x' := (31, [some (.inr (.inr (.inl (some (204))))), some (.inl (x1)), some (.inl (x2)), some (.inl (x3))], [.inl (x2)], 0, 0, ix_mem 276 I J T)) rfl trivial ?_
    exact ix_sp rfl ⟨Nat.le_refl _, Nat.le_refl _, trivial, hQ _ _ _ _ h2⟩
def wp_X12_trueOf (a0 : Int32) (I : Nat → Nat → Int32) (J : Nat → Nat → Int64) (T : Option Nat) (P : Int32 → (Nat → Nat → Int32) → (Nat → Nat → Int64) → Option Nat → Prop) : Prop := wl_X12_trueOf_4 (a0) ((0 : Int32)) ((0 : Int32)) I J T P
set_option maxRecDepth 20000 in
theorem tp_X12_trueOf {d : Nat} {a0 : Int32} {I : Nat → Nat → Int32} {J : Nat → Nat → Int64} {T : Option Nat} {P : Int32 → (Nat → Nat → Int32) → (Nat → Nat → Int64) → Option Nat → Prop} {Q : ix_Q} (h : wp_X12_trueOf a0 I J T P) (hQ : ∀ v I J T, P v I J T → Q (some (.inl v)) (ix_mem 276 I J T)) : ix_C (d + 1) 306 [.inr (.inr (.inl (some (204)))), .inl (a0)] (ix_mem 276 I J T) Q := by
  unfold wp_X12_trueOf at h
  refine ix_enter (ls := [some (.inr (.inr (.inl (some (204))))), some (.inl (a0)), none, none]) rfl rfl rfl (Nat.le_of_ble_eq_true rfl) ?_
  refine ix_go 4 (x' := (4, [some (.inr (.inr (.inl (some (204))))), some (.inl (a0)), some (.inl ((0 : Int32))), some (.inl ((0 : Int32)))], [], 0, 0, ix_mem 276 I J T)) rfl trivial ?_
  refine ix_subW ([some (.inr (.inr (.inl (some (204))))), some (.inl (a0)), some (.inl ((0 : Int32))), some (.inl ((0 : Int32)))]) (ix_subS (ix_subS (ix_subS (ix_subS (ix_sub0))))) ?_
  exact tl_X12_trueOf_4 h hQ
def wp_X12_isTrue (a0 : Int32) (I : Nat → Nat → Int32) (J : Nat → Nat → Int64) (T : Option Nat) (P : Int32 → (Nat → Nat → Int32) → (Nat → Nat → Int64) → Option Nat → Prop) : Prop := wp_X12_isFlow (a0) I J T (fun v1 I1 J1 T1 => ((v1 = 0 → wp_X12_refuse ((1 : Int32)) I1 J1 T1 (fun v4 I4 J4 T4 => P (v4) I4 J4 T4)) ∧ (¬ (v1 = 0) → wp_X12_trueOf (a0) I1 J1 T1 (fun v5 I5 J5 T5 => wp_X12_gives (v5) I5 J5 T5 (fun v6 I6 J6 T6 => P (v6) I6 J6 T6)))))
set_option maxRecDepth 20000 in
theorem tp_X12_isTrue {d : Nat} {a0 : Int32} {I : Nat → Nat → Int32} {J : Nat → Nat → Int64} {T : Option Nat} {P : Int32 → (Nat → Nat → Int32) → (Nat → Nat → Int64) → Option Nat → Prop} {Q : ix_Q} (h : wp_X12_isTrue a0 I J T P) (hQ : ∀ v I J T, P v I J T → Q (some (.inl v)) (ix_mem 276 I J T)) : ix_C (d + 2) 307 [.inr (.inr (.inl (some (204)))), .inl (a0)] (ix_mem 276 I J T) Q := by
  unfold wp_X12_isTrue at h
  refine ix_enter (ls := [some (.inr (.inr (.inl (some (204))))), some (.inl (a0))]) rfl rfl rfl (Nat.le_of_ble_eq_true rfl) ?_
  refine ix_go 2 (x' := (2, [some (.inr (.inr (.inl (some (204))))), some (.inl (a0))], [.inl (a0), .inr (.inr (.inl (some (204))))], 0, 0, ix_mem 276 I J T)) rfl trivial ?_
  refine ix_sp rfl ⟨rfl, ⟨ix_lt rfl, ix_eq rfl, ix_lt rfl⟩, ix_le rfl, Nat.le_refl _, Nat.le_refl _, tp_X12_isFlow h (fun v1 I1 J1 T1 h1 => ?_)⟩
  change ix_W _ _ _ (5, [some (.inr (.inr (.inl (some (204))))), some (.inl (a0))], [.inl (v1)], 0, 0, ix_mem 276 I1 J1 T1)
  refine ix_go 1 (x' := (if v1 = 0 then 20 else 8, [some (.inr (.inr (.inl (some (204))))), some (.inl (a0))], [], 0, 0, ix_mem 276 I1 J1 T1)) rfl trivial ?_
  refine ix_br (fun c2 => ?_) (fun c2 => ?_)
  · have h3 := h1.1 c2
    refine ix_go 2 (x' := (22, [some (.inr (.inr (.inl (some (204))))), some (.inl (a0))], [.inl ((1 : Int32)), .inr (.inr (.inl (some (204))))], 0, 0, ix_mem 276 I1 J1 T1)) rfl trivial ?_
    refine ix_sp rfl ⟨rfl, ⟨ix_lt rfl, ix_eq rfl, ix_lt rfl⟩, ix_le rfl, Nat.le_refl _, Nat.le_refl _, tp_X12_refuse h3 (fun v4 I4 J4 T4 h4 => ?_)⟩
    change ix_W _ _ _ (25, [some (.inr (.inr (.inl (some (204))))), some (.inl (a0))], [.inl (v4)], 0, 0, ix_mem 276 I4 J4 T4)
    exact ix_sp rfl ⟨Nat.le_refl _, Nat.le_refl _, trivial, hQ _ _ _ _ h4⟩
  · have h3 := h1.2 c2
    refine ix_go 3 (x' := (11, [some (.inr (.inr (.inl (some (204))))), some (.inl (a0))], [.inl (a0), .inr (.inr (.inl (some (204)))), .inr (.inr (.inl (some (204))))], 0, 0, ix_mem 276 I1 J1 T1)) rfl trivial ?_
    refine ix_sp rfl ⟨rfl, ⟨ix_lt rfl, ix_eq rfl, ix_lt rfl⟩, ix_le rfl, Nat.le_refl _, Nat.le_refl _, tp_X12_trueOf h3 (fun v5 I5 J5 T5 h5 => ?_)⟩
    change ix_W _ _ _ (14, [some (.inr (.inr (.inl (some (204))))), some (.inl (a0))], [.inl (v5), .inr (.inr (.inl (some (204))))], 0, 0, ix_mem 276 I5 J5 T5)
    refine ix_sp rfl ⟨rfl, ⟨ix_lt rfl, ix_eq rfl, ix_lt rfl⟩, ix_le rfl, Nat.le_refl _, Nat.le_refl _, tp_X12_gives h5 (fun v6 I6 J6 T6 h6 => ?_)⟩
    change ix_W _ _ _ (17, [some (.inr (.inr (.inl (some (204))))), some (.inl (a0))], [.inl (v6)], 0, 0, ix_mem 276 I6 J6 T6)
    refine ix_go 1 (x' := (25, [some (.inr (.inr (.inl (some (204))))), some (.inl (a0))], [.inl (v6)], 0, 0, ix_mem 276 I6 J6 T6)) rfl trivial ?_
    exact ix_sp rfl ⟨Nat.le_refl _, Nat.le_refl _, trivial, hQ _ _ _ _ h6⟩
def wb_X12_draw_32 (x1 : Int32) (x3 : Int64) (x5 : Int32) (I : Nat → Nat → Int32) (J : Nat → Nat → Int64) (T : Option Nat) (V32 : Int32 → Int64 → Int32 → (Nat → Nat → Int32) → (Nat → Nat → Int64) → Option Nat → Prop) (P : Int32 → (Nat → Nat → Int32) → (Nat → Nat → Int64) → Option Nat → Prop) : Prop := ((x5 < (52 : Int32) → ix_nzl ((((52 : Int32)) - (x5)).toInt64) = true ∧ ((lg_cmp (((((((1103515245 : Int64)) * (x3)) + ((12345 : Int64))) &&& ((2147483647 : Int64))) / ((65536 : Int64))) - ((((((1103515245 : Int64)) * (x3)) + ((12345 : Int64))) &&& ((2147483647 : Int64))) / ((65536 : Int64))) / ((((52 : Int32)) - (x5)).toInt64) * ((((52 : Int32)) - (x5)).toInt64)) (((x1) - (I 204 66)).toInt64) < 0 → ix_inb (I 204 66) 52 = true ∧ V32 (x1) (((((1103515245 : Int64)) * (x3)) + ((12345 : Int64))) &&& ((2147483647 : Int64))) (x5 + (1 : Int32)) (ix_u2 (ix_u2 I 252 (I 204 66).toNatClampNeg (x5)) 204 66 ((I 204 66) + ((1 : Int32)))) J T) ∧ (¬ (lg_cmp (((((((1103515245 : Int64)) * (x3)) + ((12345 : Int64))) &&& ((2147483647 : Int64))) / ((65536 : Int64))) - ((((((1103515245 : Int64)) * (x3)) + ((12345 : Int64))) &&& ((2147483647 : Int64))) / ((65536 : Int64))) / ((((52 : Int32)) - (x5)).toInt64) * ((((52 : Int32)) - (x5)).toInt64)) (((x1) - (I 204 66)).toInt64) < 0) → V32 (x1) (((((1103515245 : Int64)) * (x3)) + ((12345 : Int64))) &&& ((2147483647 : Int64))) (x5 + (1 : Int32)) I J T))) ∧ (¬ (x5 < (52 : Int32)) → wp_X12_gives (x1) I J T (fun v17 I17 J17 T17 => P (v17) I17 J17 T17)))
def wl_X12_draw_32 (x1 : Int32) (x3 : Int64) (x5 : Int32) (I : Nat → Nat → Int32) (J : Nat → Nat → Int64) (T : Option Nat) (P : Int32 → (Nat → Nat → Int32) → (Nat → Nat → Int64) → Option Nat → Prop) : Prop := ∀ V : Int32 → Int64 → Int32 → (Nat → Nat → Int32) → (Nat → Nat → Int64) → Option Nat → Prop, (∀ (x1 : Int32) (x3 : Int64) (x5 : Int32) (I : Nat → Nat → Int32) (J : Nat → Nat → Int64) (T : Option Nat), wb_X12_draw_32 x1 x3 x5 I J T V P → V x1 x3 x5 I J T) → V x1 x3 x5 I J T
set_option maxRecDepth 20000 in
theorem tl_X12_draw_32 {d : Nat} {x1 : Int32} {x3 : Int64} {x5 : Int32} {I : Nat → Nat → Int32} {J : Nat → Nat → Int64} {T : Option Nat} {P : Int32 → (Nat → Nat → Int32) → (Nat → Nat → Int64) → Option Nat → Prop} {Q : ix_Q} (h : wl_X12_draw_32 x1 x3 x5 I J T P) (hQ : ∀ v I J T, P v I J T → Q (some (.inl v)) (ix_mem 276 I J T)) : ix_W (ix_C (d + 1)) (12, ix_lk ix_l308, (some .int), 0, 0, Nat.blt 0 0, none) Q (32, [some (.inr (.inr (.inl (some (204))))), some (.inl (x1)), none, some (.inr (.inl (x3))), none, some (.inl (x5))], [], 0, 0, ix_mem 276 I J T) := by
  refine h (fun x1 x3 x5 I J T => ix_W (ix_C (d + 1)) (12, ix_lk ix_l308, (some .int), 0, 0, Nat.blt 0 0, none) Q (32, [some (.inr (.inr (.inl (some (204))))), some (.inl (x1)), none, some (.inr (.inl (x3))), none, some (.inl (x5))], [], 0, 0, ix_mem 276 I J T)) ?_
  intro x1 x3 x5 I J T hb
  unfold wb_X12_draw_32 at hb
  refine ix_go 3 (x' := (if x5 < (52 : Int32) then 39 else 106, [some (.inr (.inr (.inl (some (204))))), some (.inl (x1)), none, some (.inr (.inl (x3))), none, some (.inl (x5))], [], 0, 0, ix_mem 276 I J T)) rfl trivial ?_
  refine ix_br (fun c9 => ?_) (fun c9 => ?_)
  · have h10 := hb.1 c9
    refine ix_go 7 (x' := (52, [some (.inr (.inr (.inl (some (204))))), some (.inl (x1)), none, some (.inr (.inl (x3))), none, some (.inl (x5))], [.inr (.inl (((((1103515245 : Int64)) * (x3)) + ((12345 : Int64))) &&& ((2147483647 : Int64))))], 0, 0, ix_mem 276 I J T)) rfl trivial ?_
    refine ix_go 7 (x' := (63, [some (.inr (.inr (.inl (some (204))))), some (.inl (x1)), none, some (.inr (.inl (((((1103515245 : Int64)) * (x3)) + ((12345 : Int64))) &&& ((2147483647 : Int64))))), none, some (.inl (x5))], [.inl (((52 : Int32)) - (x5)), .inr (.inl ((((((1103515245 : Int64)) * (x3)) + ((12345 : Int64))) &&& ((2147483647 : Int64))) / ((65536 : Int64))))], 0, 0, ix_mem 276 I J T)) rfl rfl ?_
    obtain ⟨p11, h12⟩ := h10
    refine ix_go 7 (x' := (72, [some (.inr (.inr (.inl (some (204))))), some (.inl (x1)), none, some (.inr (.inl (((((1103515245 : Int64)) * (x3)) + ((12345 : Int64))) &&& ((2147483647 : Int64))))), none, some (.inl (x5))], [.inr (.inl (((x1) - (I 204 66)).toInt64)), .inr (.inl (((((((1103515245 : Int64)) * (x3)) + ((12345 : Int64))) &&& ((2147483647 : Int64))) / ((65536 : Int64))) - ((((((1103515245 : Int64)) * (x3)) + ((12345 : Int64))) &&& ((2147483647 : Int64))) / ((65536 : Int64))) / ((((52 : Int32)) - (x5)).toInt64) * ((((52 : Int32)) - (x5)).toInt64)))], 0, 0, ix_mem 276 I J T)) rfl ⟨p11, rfl, rfl⟩ ?_
    refine ix_go 2 (x' := (if lg_cmp (((((((1103515245 : Int64)) * (x3)) + ((12345 : Int64))) &&& ((2147483647 : Int64))) / ((65536 : Int64))) - ((((((1103515245 : Int64)) * (x3)) + ((12345 : Int64))) &&& ((2147483647 : Int64))) / ((65536 : Int64))) / ((((52 : Int32)) - (x5)).toInt64) * ((((52 : Int32)) - (x5)).toInt64)) (((x1) - (I 204 66)).toInt64) < 0 then 79 else 76, [some (.inr (.inr (.inl (some (204))))), some (.inl (x1)), none, some (.inr (.inl (((((1103515245 : Int64)) * (x3)) + ((12345 : Int64))) &&& ((2147483647 : Int64))))), none, some (.inl (x5))], [], 0, 0, ix_mem 276 I J T)) rfl trivial ?_
    refine ix_br (fun c13 => ?_) (fun c13 => ?_)
    · have h14 := h12.1 c13
      obtain ⟨p15, h16⟩ := h14
      refine ix_go 7 (x' := (91, [some (.inr (.inr (.inl (some (204))))), some (.inl (x1)), none, some (.inr (.inl (((((1103515245 : Int64)) * (x3)) + ((12345 : Int64))) &&& ((2147483647 : Int64))))), none, some (.inl (x5))], [.inr (.inr (.inl (some (204))))], 0, 0, ix_mem 276 (ix_u2 I 252 (I 204 66).toNatClampNeg (x5)) J T)) rfl ⟨rfl, rfl, rfl, rfl, rfl, rfl, p15⟩ ?_
      refine ix_go 7 (x' := (32, [some (.inr (.inr (.inl (some (204))))), some (.inl (x1)), none, some (.inr (.inl (((((1103515245 : Int64)) * (x3)) + ((12345 : Int64))) &&& ((2147483647 : Int64))))), none, some (.inl (x5 + (1 : Int32)))], [], 0, 0, ix_mem 276 (ix_u2 (ix_u2 I 252 (I 204 66).toNatClampNeg (x5)) 204 66 ((I 204 66) + ((1 : Int32)))) J T)) rfl ⟨rfl, rfl, rfl, rfl⟩ ?_
      refine ix_subW ([some (.inr (.inr (.inl (some (204))))), some (.inl (x1)), none, some (.inr (.inl (((((1103515245 : Int64)) * (x3)) + ((12345 : Int64))) &&& ((2147483647 : Int64))))), none, some (.inl (x5 + (1 : Int32)))]) (ix_subS (ix_subS (ix_subS (ix_subS (ix_subS (ix_subS (ix_sub0))))))) ?_
      exact h16
    · have h14 := h12.2 c13
      refine ix_go 3 (x' := (32, [some (.inr (.inr (.inl (some (204))))), some (.inl (x1)), none, some (.inr (.inl (((((1103515245 : Int64)) * (x3)) + ((12345 : Int64))) &&& ((2147483647 : Int64))))), none, some (.inl (x5 + (1 : Int32)))], [], 0, 0, ix_mem 276 I J T)) rfl trivial ?_
      refine ix_subW ([some (.inr (.inr (.inl (some (204))))), some (.inl (x1)), none, some (.inr (.inl (((((1103515245 : Int64)) * (x3)) + ((12345 : Int64))) &&& ((2147483647 : Int64))))), none, some (.inl (x5 + (1 : Int32)))]) (ix_subS (ix_subS (ix_subS (ix_subS (ix_subS (ix_subS (ix_sub0))))))) ?_
      exact h14
  · have h10 := hb.2 c9
    refine ix_go 2 (x' := (108, [some (.inr (.inr (.inl (some (204))))), some (.inl (x1)), none, some (.inr (.inl (x3))), none, some (.inl (x5))], [.inl (x1), .inr (.inr (.inl (some (204))))], 0, 0, ix_mem 276 I J T)) rfl trivial ?_
    refine ix_sp rfl ⟨rfl, ⟨ix_lt rfl, ix_eq rfl, ix_lt rfl⟩, ix_le rfl, Nat.le_refl _, Nat.le_refl _, tp_X12_gives h10 (fun v17 I17 J17 T17 h17 => ?_)⟩
    change ix_W _ _ _ (111, [some (.inr (.inr (.inl (some (204))))), some (.inl (x1)), none, some (.inr (.inl (x3))), none, some (.inl (x5))], [.inl (v17)], 0, 0, ix_mem 276 I17 J17 T17)
    exact ix_sp rfl ⟨Nat.le_refl _, Nat.le_refl _, trivial, hQ _ _ _ _ h17⟩
def wp_X12_draw (a0 : Int32) (a1 : Int32) (I : Nat → Nat → Int32) (J : Nat → Nat → Int64) (T : Option Nat) (P : Int32 → (Nat → Nat → Int32) → (Nat → Nat → Int64) → Option Nat → Prop) : Prop := ((a0 < (1 : Int32) → wp_X12_refuse ((1 : Int32)) I J T (fun v3 I3 J3 T3 => P (v3) I3 J3 T3)) ∧ (¬ (a0 < (1 : Int32)) → ((a0 ≤ (52 : Int32) → ((a1 < 0 → wp_X12_refuse ((1 : Int32)) I J T (fun v8 I8 J8 T8 => P (v8) I8 J8 T8)) ∧ (¬ (a1 < 0) → wl_X12_draw_32 (a0) ((a1).toInt64) ((0 : Int32)) (ix_u2 I 204 66 ((0 : Int32))) J T P))) ∧ (¬ (a0 ≤ (52 : Int32)) → wp_X12_refuse ((1 : Int32)) I J T (fun v18 I18 J18 T18 => P (v18) I18 J18 T18)))))
set_option maxRecDepth 20000 in
theorem tp_X12_draw {d : Nat} {a0 : Int32} {a1 : Int32} {I : Nat → Nat → Int32} {J : Nat → Nat → Int64} {T : Option Nat} {P : Int32 → (Nat → Nat → Int32) → (Nat → Nat → Int64) → Option Nat → Prop} {Q : ix_Q} (h : wp_X12_draw a0 a1 I J T P) (hQ : ∀ v I J T, P v I J T → Q (some (.inl v)) (ix_mem 276 I J T)) : ix_C (d + 2) 308 [.inr (.inr (.inl (some (204)))), .inl (a0), .inl (a1)] (ix_mem 276 I J T) Q := by
  unfold wp_X12_draw at h
  refine ix_enter (ls := [some (.inr (.inr (.inl (some (204))))), some (.inl (a0)), some (.inl (a1)), none, none, none]) rfl rfl rfl (Nat.le_of_ble_eq_true rfl) ?_
  refine ix_go 3 (x' := (if a0 < (1 : Int32) then 15 else 5, [some (.inr (.inr (.inl (some (204))))), some (.inl (a0)), some (.inl (a1)), none, none, none], [], 0, 0, ix_mem 276 I J T)) rfl trivial ?_
  refine ix_br (fun c1 => ?_) (fun c1 => ?_)
  · have h2 := h.1 c1
    refine ix_go 2 (x' := (17, [some (.inr (.inr (.inl (some (204))))), some (.inl (a0)), some (.inl (a1)), none, none, none], [.inl ((1 : Int32)), .inr (.inr (.inl (some (204))))], 0, 0, ix_mem 276 I J T)) rfl trivial ?_
    refine ix_sp rfl ⟨rfl, ⟨ix_lt rfl, ix_eq rfl, ix_lt rfl⟩, ix_le rfl, Nat.le_refl _, Nat.le_refl _, tp_X12_refuse h2 (fun v3 I3 J3 T3 h3 => ?_)⟩
    change ix_W _ _ _ (20, [some (.inr (.inr (.inl (some (204))))), some (.inl (a0)), some (.inl (a1)), none, none, none], [.inl (v3)], 0, 0, ix_mem 276 I3 J3 T3)
    exact ix_sp rfl ⟨Nat.le_refl _, Nat.le_refl _, trivial, hQ _ _ _ _ h3⟩
  · have h2 := h.2 c1
    refine ix_go 3 (x' := (if a0 ≤ (52 : Int32) then 11 else 15, [some (.inr (.inr (.inl (some (204))))), some (.inl (a0)), some (.inl (a1)), none, none, none], [], 0, 0, ix_mem 276 I J T)) rfl trivial ?_
    refine ix_br (fun c4 => ?_) (fun c4 => ?_)
    · have h5 := h2.1 c4
      refine ix_go 2 (x' := (if a1 < 0 then 15 else 21, [some (.inr (.inr (.inl (some (204))))), some (.inl (a0)), some (.inl (a1)), none, none, none], [], 0, 0, ix_mem 276 I J T)) rfl trivial ?_
      refine ix_br (fun c6 => ?_) (fun c6 => ?_)
      · have h7 := h5.1 c6
        refine ix_go 2 (x' := (17, [some (.inr (.inr (.inl (some (204))))), some (.inl (a0)), some (.inl (a1)), none, none, none], [.inl ((1 : Int32)), .inr (.inr (.inl (some (204))))], 0, 0, ix_mem 276 I J T)) rfl trivial ?_
        refine ix_sp rfl ⟨rfl, ⟨ix_lt rfl, ix_eq rfl, ix_lt rfl⟩, ix_le rfl, Nat.le_refl _, Nat.le_refl _, tp_X12_refuse h7 (fun v8 I8 J8 T8 h8 => ?_)⟩
        change ix_W _ _ _ (20, [some (.inr (.inr (.inl (some (204))))), some (.inl (a0)), some (.inl (a1)), none, none, none], [.inl (v8)], 0, 0, ix_mem 276 I8 J8 T8)
        exact ix_sp rfl ⟨Nat.le_refl _, Nat.le_refl _, trivial, hQ _ _ _ _ h8⟩
      · have h7 := h5.2 c6
        refine ix_go 7 (x' := (30, [some (.inr (.inr (.inl (some (204))))), some (.inl (a0)), some (.inl (a1)), some (.inr (.inl ((a1).toInt64))), none, none], [.inl ((0 : Int32))], 0, 0, ix_mem 276 (ix_u2 I 204 66 ((0 : Int32))) J T)) rfl ⟨rfl, rfl⟩ ?_
        refine ix_go 1 (x' := (32, [some (.inr (.inr (.inl (some (204))))), some (.inl (a0)), some (.inl (a1)), some (.inr (.inl ((a1).toInt64))), none, some (.inl ((0 : Int32)))], [], 0, 0, ix_mem 276 (ix_u2 I 204 66 ((0 : Int32))) J T)) rfl trivial ?_
        refine ix_subW ([some (.inr (.inr (.inl (some (204))))), some (.inl (a0)), none, some (.inr (.inl ((a1).toInt64))), none, some (.inl ((0 : Int32)))]) (ix_subS (ix_subS (ix_subN (ix_subS (ix_subS (ix_subS (ix_sub0))))))) ?_
        exact tl_X12_draw_32 h7 hQ
    · have h5 := h2.2 c4
      refine ix_go 2 (x' := (17, [some (.inr (.inr (.inl (some (204))))), some (.inl (a0)), some (.inl (a1)), none, none, none], [.inl ((1 : Int32)), .inr (.inr (.inl (some (204))))], 0, 0, ix_mem 276 I J T)) rfl trivial ?_
      refine ix_sp rfl ⟨rfl, ⟨ix_lt rfl, ix_eq rfl, ix_lt rfl⟩, ix_le rfl, Nat.le_refl _, Nat.le_refl _, tp_X12_refuse h5 (fun v18 I18 J18 T18 h18 => ?_)⟩
      change ix_W _ _ _ (20, [some (.inr (.inr (.inl (some (204))))), some (.inl (a0)), some (.inl (a1)), none, none, none], [.inl (v18)], 0, 0, ix_mem 276 I18 J18 T18)
      exact ix_sp rfl ⟨Nat.le_refl _, Nat.le_refl _, trivial, hQ _ _ _ _ h18⟩
