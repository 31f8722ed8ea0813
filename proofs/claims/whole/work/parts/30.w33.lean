def wb_X12_treaty_117_49 (x2 : Int32) (x3 : Int32) (x4 : Int32) (I : Nat → Nat → Int32) (J : Nat → Nat → Int64) (T : Option Nat) (V117 : Int32 → Int32 → Int32 → (Nat → Nat → Int32) → (Nat → Nat → Int64) → Option Nat → Prop) (V49 : Int32 → Int32 → Int32 → (Nat → Nat → Int32) → (Nat → Nat → Int64) → Option Nat → Prop) (P : Int32 → (Nat → Nat → Int32) → (Nat → Nat → Int64) → Option Nat → Prop) : Prop := ((I 204 17 = 0 → ((I 204 22 ≤ 0 → ix_inb (I 204 24) 5 = true ∧ wp_X12_gives ((((I 204 24) + ((1 : Int32)))) - ((1 : Int32))) (ix_u2 (ix_u2 (ix_u2 I 204 20 (I 204 22)) 215 (I 204 24).toNatClampNeg (x2)) 204 24 ((I 204 24) + ((1 : Int32)))) J T (fun v29 I29 J29 T29 => P (v29) I29 J29 T29)) ∧ (¬ (I 204 22 ≤ 0) → wp_X12_refuse ((9 : Int32)) (ix_u2 (ix_u2 (ix_u2 I 204 20 (I 204 22)) 204 44 (x3)) 204 45 (x4)) J T (fun v30 I30 J30 T30 => P (v30) I30 J30 T30)))) ∧ (¬ (I 204 17 = 0) → ((I 204 22 = 0 → wp_X12_clause I J T (fun v33 I33 J33 T33 => ((v33 = 0 → wp_J9_max_7cf53 ((1 : Int32)) (I33 204 22) I33 J33 T33 (fun v36 I36 J36 T36 => V117 (x2) (x3) (x4) (ix_u2 I36 204 22 (v36)) J36 T36)) ∧ (¬ (v33 = 0) → V117 (x2) (x3) (x4) I33 J33 T33)))) ∧ (¬ (I 204 22 = 0) → ((I 204 22 ≤ 0 → ix_inb (I 204 24) 5 = true ∧ wp_X12_gives ((((I 204 24) + ((1 : Int32)))) - ((1 : Int32))) (ix_u2 (ix_u2 (ix_u2 I 204 20 (I 204 22)) 215 (I 204 24).toNatClampNeg (x2)) 204 24 ((I 204 24) + ((1 : Int32)))) J T (fun v41 I41 J41 T41 => P (v41) I41 J41 T41)) ∧ (¬ (I 204 22 ≤ 0) → wp_X12_refuse ((9 : Int32)) (ix_u2 (ix_u2 (ix_u2 I 204 20 (I 204 22)) 204 44 (x3)) 204 45 (x4)) J T (fun v42 I42 J42 T42 => P (v42) I42 J42 T42)))))))
def wl_X12_treaty_117_49 (x2 : Int32) (x3 : Int32) (x4 : Int32) (I : Nat → Nat → Int32) (J : Nat → Nat → Int64) (T : Option Nat) (V49 : Int32 → Int32 → Int32 → (Nat → Nat → Int32) → (Nat → Nat → Int64) → Option Nat → Prop) (P : Int32 → (Nat → Nat → Int32) → (Nat → Nat → Int64) → Option Nat → Prop) : Prop := ∀ V : Int32 → Int32 → Int32 → (Nat → Nat → Int32) → (Nat → Nat → Int64) → Option Nat → Prop, (∀ (x2 : Int32) (x3 : Int32) (x4 : Int32) (I : Nat → Nat → Int32) (J : Nat → Nat → Int64) (T : Option Nat), wb_X12_treaty_117_49 x2 x3 x4 I J T V V49 P → V x2 x3 x4 I J T) → V x2 x3 x4 I J T
set_option maxRecDepth 20000 in
theorem tl_X12_treaty_117_49 {d : Nat} {x2 : Int32} {x3 : Int32} {x4 : Int32} {I : Nat → Nat → Int32} {J : Nat → Nat → Int64} {T : Option Nat} {V49 : Int32 → Int32 → Int32 → (Nat → Nat → Int32) → (Nat → Nat → Int64) → Option Nat → Prop} {P : Int32 → (Nat → Nat → Int32) → (Nat → Nat → Int64) → Option Nat → Prop} {Q : ix_Q} (h : wl_X12_treaty_117_49 x2 x3 x4 I J T V49 P) (hV49 : ∀ (x1 : Int32) (x2 : Int32) (x3 : Int32) I J T, V49 x1 x2 x3 I J T → ix_W (ix_C (d + 8)) (12, ix_lk ix_l269, (some .int), 0, 0, Nat.blt 0 0, none) Q (49, [some (.inr (.inr (.inl (some (204))))), some (.inl (x1)), some (.inl (x2)), some (.inl (x3)), none, none], [], 0, 0, ix_mem 276 I J T)) (hQ : ∀ v I J T, P v I J T → Q (some (.inl v)) (ix_mem 276 I J T)) : ix_W (ix_C (d + 8)) (12, ix_lk ix_l269, (some .int), 0, 0, Nat.blt 0 0, none) Q (117, [some (.inr (.inr (.inl (some (204))))), none, some (.inl (x2)), some (.inl (x3)), some (.inl (x4)), none], [], 0, 0, ix_mem 276 I J T) := by
  refine h (fun x2 x3 x4 I J T => ix_W (ix_C (d + 8)) (12, ix_lk ix_l269, (some .int), 0, 0, Nat.blt 0 0, none) Q (117, [some (.inr (.inr (.inl (some (204))))), none, some (.inl (x2)), some (.inl (x3)), some (.inl (x4)), none], [], 0, 0, ix_mem 276 I J T)) ?_
  intro x2 x3 x4 I J T hb
  unfold wb_X12_treaty_117_49 at hb
  refine ix_go 3 (x' := (if I 204 17 = 0 then 157 else 124, [some (.inr (.inr (.inl (some (204))))), none, some (.inl (x2)), some (.inl (x3)), some (.inl (x4)), none], [], 0, 0, ix_mem 276 I J T)) rfl ⟨rfl, rfl⟩ ?_
  refine ix_br (fun c23 => ?_) (fun c23 => ?_)
  · have h24 := hb.1 c23
    refine ix_go 7 (x' := (if I 204 22 ≤ 0 then 190 else 172, [some (.inr (.inr (.inl (some (204))))), none, some (.inl (x2)), some (.inl (x3)), some (.inl (x4)), none], [], 0, 0, ix_mem 276 (ix_u2 I 204 20 (I 204 22)) J T)) rfl ⟨rfl, rfl, rfl, rfl, rfl, rfl⟩ ?_
    refine ix_br (fun c25 => ?_) (fun c25 => ?_)
    · have h26 := h24.1 c25
      obtain ⟨p27, h28⟩ := h26
      refine ix_go 7 (x' := (201, [some (.inr (.inr (.inl (some (204))))), none, some (.inl (x2)), some (.inl (x3)), some (.inl (x4)), none], [.inr (.inr (.inl (some (204))))], 0, 0, ix_mem 276 (ix_u2 (ix_u2 I 204 20 (I 204 22)) 215 (I 204 24).toNatClampNeg (x2)) J T)) rfl ⟨rfl, rfl, rfl, rfl, rfl, rfl, p27⟩ ?_
      refine ix_go 7 (x' := (212, [some (.inr (.inr (.inl (some (204))))), none, some (.inl (x2)), some (.inl (x3)), some (.inl (x4)), none], [.inr (.inr (.inl (some (204)))), .inr (.inr (.inl (some (204))))], 0, 0, ix_mem 276 (ix_u2 (ix_u2 (ix_u2 I 204 20 (I 204 22)) 215 (I 204 24).toNatClampNeg (x2)) 204 24 ((I 204 24) + ((1 : Int32)))) J T)) rfl ⟨rfl, rfl, rfl, rfl⟩ ?_
      refine ix_go 3 (x' := (217, [some (.inr (.inr (.inl (some (204))))), none, some (.inl (x2)), some (.inl (x3)), some (.inl (x4)), none], [.inl ((((I 204 24) + ((1 : Int32)))) - ((1 : Int32))), .inr (.inr (.inl (some (204))))], 0, 0, ix_mem 276 (ix_u2 (ix_u2 (ix_u2 I 204 20 (I 204 22)) 215 (I 204 24).toNatClampNeg (x2)) 204 24 ((I 204 24) + ((1 : Int32)))) J T)) rfl ⟨rfl, rfl⟩ ?_
      refine ix_sp rfl ⟨rfl, ⟨ix_lt rfl, ix_eq rfl, ix_lt rfl⟩, ix_le rfl, Nat.le_refl _, Nat.le_refl _, tp_X12_gives h28 (fun v29 I29 J29 T29 h29 => ?_)⟩
      change ix_W _ _ _ (220, [some (.inr (.inr (.inl (some (204))))), none, some (.inl (x2)), some (.inl (x3)), some (.inl (x4)), none], [.inl (v29)], 0, 0, ix_mem 276 I29 J29 T29)
      exact ix_sp rfl ⟨Nat.le_refl _, Nat.le_refl _, trivial, hQ _ _ _ _ h29⟩
    · have h26 := h24.2 c25
      refine ix_go 7 (x' := (184, [some (.inr (.inr (.inl (some (204))))), none, some (.inl (x2)), some (.inl (x3)), some (.inl (x4)), none], [.inr (.inr (.inl (some (204))))], 0, 0, ix_mem 276 (ix_u2 (ix_u2 (ix_u2 I 204 20 (I 204 22)) 204 44 (x3)) 204 45 (x4)) J T)) rfl ⟨rfl, rfl, rfl, rfl⟩ ?_
      refine ix_go 1 (x' := (186, [some (.inr (.inr (.inl (some (204))))), none, some (.inl (x2)), some (.inl (x3)), some (.inl (x4)), none], [.inl ((9 : Int32)), .inr (.inr (.inl (some (204))))], 0, 0, ix_mem 276 (ix_u2 (ix_u2 (ix_u2 I 204 20 (I 204 22)) 204 44 (x3)) 204 45 (x4)) J T)) rfl trivial ?_
      refine ix_sp rfl ⟨rfl, ⟨ix_lt rfl, ix_eq rfl, ix_lt rfl⟩, ix_le rfl, Nat.le_refl _, Nat.le_refl _, tp_X12_refuse h26 (fun v30 I30 J30 T30 h30 => ?_)⟩
      change ix_W _ _ _ (189, [some (.inr (.inr (.inl (some (204))))), none, some (.inl (x2)), some (.inl (x3)), some (.inl (x4)), none], [.inl (v30)], 0, 0, ix_mem 276 I30 J30 T30)
      exact ix_sp rfl ⟨Nat.le_refl _, Nat.le_refl _, trivial, hQ _ _ _ _ h30⟩
  · have h24 := hb.2 c23
    refine ix_go 3 (x' := (if I 204 22 = 0 then 131 else 157, [some (.inr (.inr (.inl (some (204))))), none, some (.inl (x2)), some (.inl (x3)), some (.inl (x4)), none], [], 0, 0, ix_mem 276 I J T)) rfl ⟨rfl, rfl⟩ ?_
    refine ix_br (fun c31 => ?_) (fun c31 => ?_)
    · have h32 := h24.1 c31
      refine ix_go 1 (x' := (132, [some (.inr (.inr (.inl (some (204))))), none, some (.inl (x2)), some (.inl (x3)), some (.inl (x4)), none], [.inr (.inr (.inl (some (204))))], 0, 0, ix_mem 276 I J T)) rfl trivial ?_
      refine ix_sp rfl ⟨rfl, ⟨ix_lt rfl, ix_eq rfl, ix_lt rfl⟩, ix_le rfl, Nat.le_refl _, Nat.le_refl _, tp_X12_clause h32 (fun v33 I33 J33 T33 h33 => ?_)⟩
      change ix_W _ _ _ (135, [some (.inr (.inr (.inl (some (204))))), none, some (.inl (x2)), some (.inl (x3)), some (.inl (x4)), none], [.inl (v33)], 0, 0, ix_mem 276 I33 J33 T33)
      refine ix_go 3 (x' := (if v33 = 0 then 142 else 154, [some (.inr (.inr (.inl (some (204))))), none, some (.inl (x2)), some (.inl (x3)), some (.inl (x4)), some (.inl (v33))], [], 0, 0, ix_mem 276 I33 J33 T33)) rfl trivial ?_
      refine ix_br (fun c34 => ?_) (fun c34 => ?_)
      · have h35 := h33.1 c34
        refine ix_go 4 (x' := (148, [some (.inr (.inr (.inl (some (204))))), none, some (.inl (x2)), some (.inl (x3)), some (.inl (x4)), some (.inl (v33))], [.inl (I33 204 22), .inl ((1 : Int32)), .inr (.inr (.inl (some (204))))], 0, 0, ix_mem 276 I33 J33 T33)) rfl ⟨rfl, rfl⟩ ?_
        refine ix_sp rfl ⟨rfl, trivial, ix_le rfl, Nat.le_refl _, Nat.le_refl _, tp_J9_max_7cf53 h35 (fun v36 I36 J36 T36 h36 => ?_)⟩
        change ix_W _ _ _ (151, [some (.inr (.inr (.inl (some (204))))), none, some (.inl (x2)), some (.inl (x3)), some (.inl (x4)), some (.inl (v33))], [.inl (v36), .inr (.inr (.inl (some (204))))], 0, 0, ix_mem 276 I36 J36 T36)
        refine ix_go 2 (x' := (117, [some (.inr (.inr (.inl (some (204))))), none, some (.inl (x2)), some (.inl (x3)), some (.inl (x4)), some (.inl (v33))], [], 0, 0, ix_mem 276 (ix_u2 I36 204 22 (v36)) J36 T36)) rfl ⟨rfl, rfl⟩ ?_
        refine ix_subW ([some (.inr (.inr (.inl (some (204))))), none, some (.inl (x2)), some (.inl (x3)), some (.inl (x4)), none]) (ix_subS (ix_subS (ix_subS (ix_subS (ix_subS (ix_subN (ix_sub0))))))) ?_
        exact h36
      · have h35 := h33.2 c34
        refine ix_go 1 (x' := (117, [some (.inr (.inr (.inl (some (204))))), none, some (.inl (x2)), some (.inl (x3)), some (.inl (x4)), some (.inl (v33))], [], 0, 0, ix_mem 276 I33 J33 T33)) rfl trivial ?_
        refine ix_subW ([some (.inr (.inr (.inl (some (204))))), none, some (.inl (x2)), some (.inl (x3)), some (.inl (x4)), none]) (ix_subS (ix_subS (ix_subS (ix_subS (ix_subS (ix_subN (ix_sub0))))))) ?_
        exact h35
    · have h32 := h24.2 c31
      refine ix_go 7 (x' := (if I 204 22 ≤ 0 then 190 else 172, [some (.inr (.inr (.inl (some (204))))), none, some (.inl (x2)), some (.inl (x3)), some (.inl (x4)), none], [], 0, 0, ix_mem 276 (ix_u2 I 204 20 (I 204 22)) J T)) rfl ⟨rfl, rfl, rfl, rfl, rfl, rfl⟩ ?_
      refine ix_br (fun c37 => ?_) (fun c37 => ?_)
      · have h38 := h32.1 c37
        obtain ⟨p39, h40⟩ := h38
        refine ix_go 7 (x' := (201, [some (.inr (.inr (.inl (some (204))))), none, some (.inl (x2)), some (.inl (x3)), some (.inl (x4)), none], [.inr (.inr (.inl (some (204))))], 0, 0, ix_mem 276 (ix_u2 (ix_u2 I 204 20 (I 204 22)) 215 (I 204 24).toNatClampNeg (x2)) J T)) rfl ⟨rfl, rfl, rfl, rfl, rfl, rfl, p39⟩ ?_
        refine ix_go 7 (x' := (212, [some (.inr (.inr (.inl (some (204))))), none, some (.inl (x2)), some (.inl (x3)), some (.inl (x4)), none], [.inr (.inr (.inl (some (204)))), .inr (.inr (.inl (some (204))))], 0, 0, ix_mem 276 (ix_u2 (ix_u2 (ix_u2 I 204 20 (I 204 22)) 215 (I 204 24).toNatClampNeg (x2)) 204 24 ((I 204 24) + ((1 : Int32)))) J T)) rfl ⟨rfl, rfl, rfl, rfl⟩ ?_
        refine ix_go 3 (x' := (217, [some (.inr (.inr (.inl (some (204))))), none, some (.inl (x2)), some (.inl (x3)), some (.inl (x4)), none], [.inl ((((I 204 24) + ((1 : Int32)))) - ((1 : Int32))), .inr (.inr (.inl (some (204))))], 0, 0, ix_mem 276 (ix_u2 (ix_u2 (ix_u2 I 204 20 (I 204 22)) 215 (I 204 24).toNatClampNeg (x2)) 204 24 ((I 204 24) + ((1 : Int32)))) J T)) rfl ⟨rfl, rfl⟩ ?_
        refine ix_sp rfl ⟨rfl, ⟨ix_lt rfl, ix_eq rfl, ix_lt rfl⟩, ix_le rfl, Nat.le_refl _, Nat.le_refl _, tp_X12_gives h40 (fun v41 I41 J41 T41 h41 => ?_)⟩
        change ix_W _ _ _ (220, [some (.inr (.inr (.inl (some (204))))), none, some (.inl (x2)), some (.inl (x3)), some (.inl (x4)), none], [.inl (v41)], 0, 0, ix_mem 276 I41 J41 T41)
        exact ix_sp rfl ⟨Nat.le_refl _, Nat.le_refl _, trivial, hQ _ _ _ _ h41⟩
      · have h38 := h32.2 c37
        refine ix_go 7 (x' := (184, [some (.inr (.inr (.inl (some (204))))), none, some (.inl (x2)), some (.inl (x3)), some (.inl (x4)), none], [.inr (.inr (.inl (some (204))))], 0, 0, ix_mem 276 (ix_u2 (ix_u2 (ix_u2 I 204 20 (I 204 22)) 204 44 (x3)) 204 45 (x4)) J T)) rfl ⟨rfl, rfl, rfl, rfl⟩ ?_
        refine ix_go 1 (x' := (186, [some (.inr (.inr (.inl (some (204))))), none, some (.inl (x2)), some (.inl (x3)), some (.inl (x4)), none], [.inl ((9 : Int32)), .inr (.inr (.inl (some (204))))], 0, 0, ix_mem 276 (ix_u2 (ix_u2 (ix_u2 I 204 20 (I 204 22)) 204 44 (x3)) 204 45 (x4)) J T)) rfl trivial ?_
        refine ix_sp rfl ⟨rfl, ⟨ix_lt rfl, ix_eq rfl, ix_lt rfl⟩, ix_le rfl, Nat.le_refl _, Nat.le_refl _, tp_X12_refuse h38 (fun v42 I42 J42 T42 h42 => ?_)⟩
        change ix_W _ _ _ (189, [some (.inr (.inr (.inl (some (204))))), none, some (.inl (x2)), some (.inl (x3)), some (.inl (x4)), none], [.inl (v42)], 0, 0, ix_mem 276 I42 J42 T42)
        exact ix_sp rfl ⟨Nat.le_refl _, Nat.le_refl _, trivial, hQ _ _ _ _ h42⟩
def wb_X12_treaty_49 (x1 : Int32) (x2 : Int32) (x3 : Int32) (I : Nat → Nat → Int32) (J : Nat → Nat → Int64) (T : Option Nat) (V49 : Int32 → Int32 → Int32 → (Nat → Nat → Int32) → (Nat → Nat → Int64) → Option Nat → Prop) (P : Int32 → (Nat → Nat → Int32) → (Nat → Nat → Int64) → Option Nat → Prop) : Prop := ((x3 < x1 → ix_inb (x3) 600 = true ∧ ix_inb (x3) 600 = true ∧ V49 (x1) (x2) (x3 + (1 : Int32)) (ix_u2 I 214 (x3).toNatClampNeg ((I 213 (x3).toNatClampNeg).toInt8.toInt32)) J T) ∧ (¬ (x3 < x1) → ix_inb (I 204 24) 5 = true ∧ wp_X12_next (ix_u2 (ix_u2 (ix_u2 (ix_u2 (ix_u2 I 204 15 ((0 : Int32))) 204 22 ((0 : Int32))) 204 21 ((-1 : Int32))) 204 19 ((0 : Int32))) 216 (I 204 24).toNatClampNeg ((0 : Int32))) J T (fun I22 J22 T22 => wl_X12_treaty_117_49 (x2) (I 204 44) (I 204 45) I22 J22 T22 V49 P)))
def wl_X12_treaty_49 (x1 : Int32) (x2 : Int32) (x3 : Int32) (I : Nat → Nat → Int32) (J : Nat → Nat → Int64) (T : Option Nat) (P : Int32 → (Nat → Nat → Int32) → (Nat → Nat → Int64) → Option Nat → Prop) : Prop := ∀ V : Int32 → Int32 → Int32 → (Nat → Nat → Int32) → (Nat → Nat → Int64) → Option Nat → Prop, (∀ (x1 : Int32) (x2 : Int32) (x3 : Int32) (I : Nat → Nat → Int32) (J : Nat → Nat → Int64) (T : Option Nat), wb_X12_treaty_49 x1 x2 x3 I J T V P → V x1 x2 x3 I J T) → V x1 x2 x3 I J T
set_option maxRecDepth 20000 in
theorem tl_X12_treaty_49 {d : Nat} {x1 : Int32} {x2 : Int32} {x3 : Int32} {I : Nat → Nat → Int32} {J : Nat → Nat → Int64} {T : Option Nat} {P : Int32 → (Nat → Nat → Int32) → (Nat → Nat → Int64) → Option Nat → Prop} {Q : ix_Q} (h : wl_X12_treaty_49 x1 x2 x3 I J T P) (hQ : ∀ v I J T, P v I J T → Q (some (.inl v)) (ix_mem 276 I J T)) : ix_W (ix_C (d + 8)) (12, ix_lk ix_l269, (some .int), 0, 0, Nat.blt 0 0, none) Q (49, [some (.inr (.inr (.inl (some (204))))), some (.inl (x1)), some (.inl (x2)), some (.inl (x3)), none, none], [], 0, 0, ix_mem 276 I J T) := by
  refine h (fun x1 x2 x3 I J T => ix_W (ix_C (d + 8)) (12, ix_lk ix_l269, (some .int), 0, 0, Nat.blt 0 0, none) Q (49, [some (.inr (.inr (.inl (some (204))))), some (.inl (x1)), some (.inl (x2)), some (.inl (x3)), none, none], [], 0, 0, ix_mem 276 I J T)) ?_
  intro x1 x2 x3 I J T hb
  unfold wb_X12_treaty_49 at hb
  refine ix_go 3 (x' := (if x3 < x1 then 54 else 72, [some (.inr (.inr (.inl (some (204))))), some (.inl (x1)), some (.inl (x2)), some (.inl (x3)), none, none], [], 0, 0, ix_mem 276 I J T)) rfl trivial ?_
  refine ix_br (fun c14 => ?_) (fun c14 => ?_)
  · have h15 := hb.1 c14
    obtain ⟨p16, h17⟩ := h15
    refine ix_go 7 (x' := (65, [some (.inr (.inr (.inl (some (204))))), some (.inl (x1)), some (.inl (x2)), some (.inl (x3)), none, none], [.inl (I 213 (x3).toNatClampNeg), .inl (x3), .inr (.inr (.inl (some (214))))], 0, 0, ix_mem 276 I J T)) rfl ⟨rfl, rfl, rfl, rfl, rfl, rfl, p16⟩ ?_
    obtain ⟨p18, h19⟩ := h17
    refine ix_go 3 (x' := (49, [some (.inr (.inr (.inl (some (204))))), some (.inl (x1)), some (.inl (x2)), some (.inl (x3 + (1 : Int32))), none, none], [], 0, 0, ix_mem 276 (ix_u2 I 214 (x3).toNatClampNeg ((I 213 (x3).toNatClampNeg).toInt8.toInt32)) J T)) rfl ⟨rfl, rfl, p18⟩ ?_
    refine ix_subW ([some (.inr (.inr (.inl (some (204))))), some (.inl (x1)), some (.inl (x2)), some (.inl (x3 + (1 : Int32))), none, none]) (ix_subS (ix_subS (ix_subS (ix_subS (ix_subS (ix_subS (ix_sub0))))))) ?_
    exact h19
  · have h15 := hb.2 c14
    refine ix_go 7 (x' := (83, [some (.inr (.inr (.inl (some (204))))), some (.inl (x1)), some (.inl (x2)), some (.inl (x3)), none, none], [.inr (.inr (.inl (some (204))))], 0, 0, ix_mem 276 (ix_u2 (ix_u2 I 204 15 ((0 : Int32))) 204 22 ((0 : Int32))) J T)) rfl ⟨rfl, rfl, rfl, rfl⟩ ?_
    refine ix_go 7 (x' := (96, [some (.inr (.inr (.inl (some (204))))), some (.inl (x1)), some (.inl (x2)), some (.inl (x3)), none, none], [.inr (.inr (.inl (some (216))))], 0, 0, ix_mem 276 (ix_u2 (ix_u2 (ix_u2 (ix_u2 I 204 15 ((0 : Int32))) 204 22 ((0 : Int32))) 204 21 ((-1 : Int32))) 204 19 ((0 : Int32))) J T)) rfl ⟨rfl, rfl, rfl, rfl, rfl, rfl⟩ ?_
    obtain ⟨p20, h21⟩ := h15
    refine ix_go 7 (x' := (107, [some (.inr (.inr (.inl (some (204))))), some (.inl (x1)), some (.inl (x2)), some (.inl (I 204 44)), none, none], [], 0, 0, ix_mem 276 (ix_u2 (ix_u2 (ix_u2 (ix_u2 (ix_u2 I 204 15 ((0 : Int32))) 204 22 ((0 : Int32))) 204 21 ((-1 : Int32))) 204 19 ((0 : Int32))) 216 (I 204 24).toNatClampNeg ((0 : Int32))) J T)) rfl ⟨rfl, rfl, rfl, rfl, p20, rfl, rfl⟩ ?_
    refine ix_go 4 (x' := (114, [some (.inr (.inr (.inl (some (204))))), some (.inl (x1)), some (.inl (x2)), some (.inl (I 204 44)), some (.inl (I 204 45)), none], [.inr (.inr (.inl (some (204))))], 0, 0, ix_mem 276 (ix_u2 (ix_u2 (ix_u2 (ix_u2 (ix_u2 I 204 15 ((0 : Int32))) 204 22 ((0 : Int32))) 204 21 ((-1 : Int32))) 204 19 ((0 : Int32))) 216 (I 204 24).toNatClampNeg ((0 : Int32))) J T)) rfl ⟨rfl, rfl⟩ ?_
    refine ix_sp rfl ⟨rfl, ⟨ix_lt rfl, ix_eq rfl, ix_lt rfl⟩, ix_le rfl, Nat.le_refl _, Nat.le_refl _, tp_X12_next h21 (fun I22 J22 T22 h22 => ?_)⟩
    change ix_W _ _ _ (117, [some (.inr (.inr (.inl (some (204))))), some (.inl (x1)), some (.inl (x2)), some (.inl (I 204 44)), some (.inl (I 204 45)), none], [], 0, 0, ix_mem 276 I22 J22 T22)
    refine ix_subW ([some (.inr (.inr (.inl (some (204))))), none, some (.inl (x2)), some (.inl (I 204 44)), some (.inl (I 204 45)), none]) (ix_subS (ix_subN (ix_subS (ix_subS (ix_subS (ix_subS (ix_sub0))))))) ?_
    exact tl_X12_treaty_117_49 h22 (fun _ _ _ I J T hv => hv) hQ
def wp_X12_treaty (a0 : Int32) (a1 : Int32) (I : Nat → Nat → Int32) (J : Nat → Nat → Int64) (T : Option Nat) (P : Int32 → (Nat → Nat → Int32) → (Nat → Nat → Int64) → Option Nat → Prop) : Prop := ((a0 < 0 → wp_X12_refuse ((1 : Int32)) I J T (fun v3 I3 J3 T3 => P (v3) I3 J3 T3)) ∧ (¬ (a0 < 0) → ((a0 ≤ I 204 15 → ((a1 < 0 → wp_X12_refuse ((1 : Int32)) I J T (fun v8 I8 J8 T8 => P (v8) I8 J8 T8)) ∧ (¬ (a1 < 0) → ((a1 ≤ (27 : Int32) → ((I 204 24 = (4 : Int32) → wp_X12_refuse ((4 : Int32)) I J T (fun v13 I13 J13 T13 => P (v13) I13 J13 T13)) ∧ (¬ (I 204 24 = (4 : Int32)) → wl_X12_treaty_49 (a0) (a1) ((0 : Int32)) (ix_u2 I 204 16 (a0)) J T P))) ∧ (¬ (a1 ≤ (27 : Int32)) → wp_X12_refuse ((1 : Int32)) I J T (fun v43 I43 J43 T43 => P (v43) I43 J43 T43)))))) ∧ (¬ (a0 ≤ I 204 15) → wp_X12_refuse ((1 : Int32)) I J T (fun v44 I44 J44 T44 => P (v44) I44 J44 T44)))))
set_option maxRecDepth 20000 in
theorem tp_X12_treaty {d : Nat} {a0 : Int32} {a1 : Int32} {I : Nat → Nat → Int32} {J : Nat → Nat → Int64} {T : Option Nat} {P : Int32 → (Nat → Nat → Int32) → (Nat → Nat → Int64) → Option Nat → Prop} {Q : ix_Q} (h : wp_X12_treaty a0 a1 I J T P) (hQ : ∀ v I J T, P v I J T → Q (some (.inl v)) (ix_mem 276 I J T)) : ix_C (d + 9) 269 [.inr (.inr (.inl (some (204)))), .inl (a0), .inl (a1)] (ix_mem 276 I J T) Q := by
  unfold wp_X12_treaty at h
  refine ix_enter (ls := [some (.inr (.inr (.inl (some (204))))), some (.inl (a0)), some (.inl (a1)), none, none, none]) rfl rfl rfl (Nat.le_of_ble_eq_true rfl) ?_
  refine ix_go 2 (x' := (if a0 < 0 then 22 else 4, [some (.inr (.inr (.inl (some (204))))), some (.inl (a0)), some (.inl (a1)), none, none, none], [], 0, 0, ix_mem 276 I J T)) rfl trivial ?_
  refine ix_br (fun c1 => ?_) (fun c1 => ?_)
  · have h2 := h.1 c1
    refine ix_go 2 (x' := (24, [some (.inr (.inr (.inl (some (204))))), some (.inl (a0)), some (.inl (a1)), none, none, none], [.inl ((1 : Int32)), .inr (.inr (.inl (some (204))))], 0, 0, ix_mem 276 I J T)) rfl trivial ?_
    refine ix_sp rfl ⟨rfl, ⟨ix_lt rfl, ix_eq rfl, ix_lt rfl⟩, ix_le rfl, Nat.le_refl _, Nat.le_refl _, tp_X12_refuse h2 (fun v3 I3 J3 T3 h3 => ?_)⟩
    change ix_W _ _ _ (27, [some (.inr (.inr (.inl (some (204))))), some (.inl (a0)), some (.inl (a1)), none, none, none], [.inl (v3)], 0, 0, ix_mem 276 I3 J3 T3)
    exact ix_sp rfl ⟨Nat.le_refl _, Nat.le_refl _, trivial, hQ _ _ _ _ h3⟩
  · have h2 := h.2 c1
    refine ix_go 4 (x' := (if a0 ≤ I 204 15 then 12 else 22, [some (.inr (.inr (.inl (some (204))))), some (.inl (a0)), some (.inl (a1)), none, none, none], [], 0, 0, ix_mem 276 I J T)) rfl ⟨rfl, rfl⟩ ?_
    refine ix_br (fun c4 => ?_) (fun c4 => ?_)
    · have h5 := h2.1 c4
      refine ix_go 2 (x' := (if a1 < 0 then 22 else 16, [some (.inr (.inr (.inl (some (204))))), some (.inl (a0)), some (.inl (a1)), none, none, none], [], 0, 0, ix_mem 276 I J T)) rfl trivial ?_
      refine ix_br (fun c6 => ?_) (fun c6 => ?_)
      · have h7 := h5.1 c6
        refine ix_go 2 (x' := (24, [some (.inr (.inr (.inl (some (204))))), some (.inl (a0)), some (.inl (a1)), none, none, none], [.inl ((1 : Int32)), .inr (.inr (.inl (some (204))))], 0, 0, ix_mem 276 I J T)) rfl trivial ?_
        refine ix_sp rfl ⟨rfl, ⟨ix_lt rfl, ix_eq rfl, ix_lt rfl⟩, ix_le rfl, Nat.le_refl _, Nat.le_refl _, tp_X12_refuse h7 (fun v8 I8 J8 T8 h8 => ?_)⟩
        change ix_W _ _ _ (27, [some (.inr (.inr (.inl (some (204))))), some (.inl (a0)), some (.inl (a1)), none, none, none], [.inl (v8)], 0, 0, ix_mem 276 I8 J8 T8)
        exact ix_sp rfl ⟨Nat.le_refl _, Nat.le_refl _, trivial, hQ _ _ _ _ h8⟩
      · have h7 := h5.2 c6
        refine ix_go 3 (x' := (if a1 ≤ (27 : Int32) then 28 else 22, [some (.inr (.inr (.inl (some (204))))), some (.inl (a0)), some (.inl (a1)), none, none, none], [], 0, 0, ix_mem 276 I J T)) rfl trivial ?_
        refine ix_br (fun c9 => ?_) (fun c9 => ?_)
        · have h10 := h7.1 c9
          refine ix_go 4 (x' := (if I 204 24 = (4 : Int32) then 36 else 42, [some (.inr (.inr (.inl (some (204))))), some (.inl (a0)), some (.inl (a1)), none, none, none], [], 0, 0, ix_mem 276 I J T)) rfl ⟨rfl, rfl⟩ ?_
          refine ix_br (fun c11 => ?_) (fun c11 => ?_)
          · have h12 := h10.1 c11
            refine ix_go 2 (x' := (38, [some (.inr (.inr (.inl (some (204))))), some (.inl (a0)), some (.inl (a1)), none, none, none], [.inl ((4 : Int32)), .inr (.inr (.inl (some (204))))], 0, 0, ix_mem 276 I J T)) rfl trivial ?_
            refine ix_sp rfl ⟨rfl, ⟨ix_lt rfl, ix_eq rfl, ix_lt rfl⟩, ix_le rfl, Nat.le_refl _, Nat.le_refl _, tp_X12_refuse h12 (fun v13 I13 J13 T13 h13 => ?_)⟩
            change ix_W _ _ _ (41, [some (.inr (.inr (.inl (some (204))))), some (.inl (a0)), some (.inl (a1)), none, none, none], [.inl (v13)], 0, 0, ix_mem 276 I13 J13 T13)
            exact ix_sp rfl ⟨Nat.le_refl _, Nat.le_refl _, trivial, hQ _ _ _ _ h13⟩
          · have h12 := h10.2 c11
            refine ix_go 5 (x' := (49, [some (.inr (.inr (.inl (some (204))))), some (.inl (a0)), some (.inl (a1)), some (.inl ((0 : Int32))), none, none], [], 0, 0, ix_mem 276 (ix_u2 I 204 16 (a0)) J T)) rfl ⟨rfl, rfl⟩ ?_
            refine ix_subW ([some (.inr (.inr (.inl (some (204))))), some (.inl (a0)), some (.inl (a1)), some (.inl ((0 : Int32))), none, none]) (ix_subS (ix_subS (ix_subS (ix_subS (ix_subS (ix_subS (ix_sub0))))))) ?_
            exact tl_X12_treaty_49 h12 hQ
        · have h10 := h7.2 c9
          refine ix_go 2 (x' := (24, [some (.inr (.inr (.inl (some (204))))), some (.inl (a0)), some (.inl (a1)), none, none, none], [.inl ((1 : Int32)), .inr (.inr (.inl (some (204))))], 0, 0, ix_mem 276 I J T)) rfl trivial ?_
          refine ix_sp rfl ⟨rfl, ⟨ix_lt rfl, ix_eq rfl, ix_lt rfl⟩, ix_le rfl, Nat.le_refl _, Nat.le_refl _, tp_X12_refuse h10 (fun v43 I43 J43 T43 h43 => ?_)⟩
          change ix_W _ _ _ (27, [some (.inr (.inr (.inl (some (204))))), some (.inl (a0)), some (.inl (a1)), none, none, none], [.inl (v43)], 0, 0, ix_mem 276 I43 J43 T43)
          exact ix_sp rfl ⟨Nat.le_refl _, Nat.le_refl _, trivial, hQ _ _ _ _ h43⟩
    · have h5 := h2.2 c4
      refine ix_go 2 (x' := (24, [some (.inr (.inr (.inl (some (204))))), some (.inl (a0)), some (.inl (a1)), none, none, none], [.inl ((1 : Int32)), .inr (.inr (.inl (some (204))))], 0, 0, ix_mem 276 I J T)) rfl trivial ?_
      refine ix_sp rfl ⟨rfl, ⟨ix_lt rfl, ix_eq rfl, ix_lt rfl⟩, ix_le rfl, Nat.le_refl _, Nat.le_refl _, tp_X12_refuse h5 (fun v44 I44 J44 T44 h44 => ?_)⟩
      change ix_W _ _ _ (27, [some (.inr (.inr (.inl (some (204))))), some (.inl (a0)), some (.inl (a1)), none, none, none], [.inl (v44)], 0, 0, ix_mem 276 I44 J44 T44)
      exact ix_sp rfl ⟨Nat.le_refl _, Nat.le_refl _, trivial, hQ _ _ _ _ h44⟩
def wp_X12_fault (a0 : Int32) (I : Nat → Nat → Int32) (J : Nat → Nat → Int64) (T : Option Nat) (P : Int32 → (Nat → Nat → Int32) → (Nat → Nat → Int64) → Option Nat → Prop) : Prop := ((a0 = 0 → P (I 204 20) I J T) ∧ (¬ (a0 = 0) → ((a0 = (1 : Int32) → P (I 204 21) I J T) ∧ (¬ (a0 = (1 : Int32)) → P ((-1 : Int32)) I J T))))
set_option maxRecDepth 20000 in
theorem tp_X12_fault {d : Nat} {a0 : Int32} {I : Nat → Nat → Int32} {J : Nat → Nat → Int64} {T : Option Nat} {P : Int32 → (Nat → Nat → Int32) → (Nat → Nat → Int64) → Option Nat → Prop} {Q : ix_Q} (h : wp_X12_fault a0 I J T P) (hQ : ∀ v I J T, P v I J T → Q (some (.inl v)) (ix_mem 276 I J T)) : ix_C (d + 1) 270 [.inr (.inr (.inl (some (204)))), .inl (a0)] (ix_mem 276 I J T) Q := by
  unfold wp_X12_fault at h
  refine ix_enter (ls := [some (.inr (.inr (.inl (some (204))))), some (.inl (a0))]) rfl rfl rfl (Nat.le_of_ble_eq_true rfl) ?_
  refine ix_go 2 (x' := (if a0 = 0 then 4 else 11, [some (.inr (.inr (.inl (some (204))))), some (.inl (a0))], [], 0, 0, ix_mem 276 I J T)) rfl trivial ?_
  refine ix_br (fun c1 => ?_) (fun c1 => ?_)
  · have h2 := h.1 c1
    refine ix_go 3 (x' := (24, [some (.inr (.inr (.inl (some (204))))), some (.inl (a0))], [.inl (I 204 20)], 0, 0, ix_mem 276 I J T)) rfl ⟨rfl, rfl⟩ ?_
    exact ix_sp rfl ⟨Nat.le_refl _, Nat.le_refl _, trivial, hQ _ _ _ _ h2⟩
  · have h2 := h.2 c1
    refine ix_go 3 (x' := (if a0 = (1 : Int32) then 16 else 23, [some (.inr (.inr (.inl (some (204))))), some (.inl (a0))], [], 0, 0, ix_mem 276 I J T)) rfl trivial ?_
    refine ix_br (fun c3 => ?_) (fun c3 => ?_)
    · have h4 := h2.1 c3
      refine ix_go 3 (x' := (24, [some (.inr (.inr (.inl (some (204))))), some (.inl (a0))], [.inl (I 204 21)], 0, 0, ix_mem 276 I J T)) rfl ⟨rfl, rfl⟩ ?_
      exact ix_sp rfl ⟨Nat.le_refl _, Nat.le_refl _, trivial, hQ _ _ _ _ h4⟩
    · have h4 := h2.2 c3
      refine ix_go 1 (x' := (24, [some (.inr (.inr (.inl (some (204))))), some (.inl (a0))], [.inl ((-1 : Int32))], 0, 0, ix_mem 276 I J T)) rfl trivial ?_
      exact ix_sp rfl ⟨Nat.le_refl _, Nat.le_refl _, trivial, hQ _ _ _ _ h4⟩
def wp_X12_isTreaty (a0 : Int32) (I : Nat → Nat → Int32) (J : Nat → Nat → Int64) (T : Option Nat) (P : Int32 → (Nat → Nat → Int32) → (Nat → Nat → Int64) → Option Nat → Prop) : Prop := ((a0 < 0 → P ((0 : Int32)) I J T) ∧ (¬ (a0 < 0) → ((a0 < I 204 24 → P ((1 : Int32)) I J T) ∧ (¬ (a0 < I 204 24) → P ((0 : Int32)) I J T))))
set_option maxRecDepth 20000 in
theorem tp_X12_isTreaty {d : Nat} {a0 : Int32} {I : Nat → Nat → Int32} {J : Nat → Nat → Int64} {T : Option Nat} {P : Int32 → (Nat → Nat → Int32) → (Nat → Nat → Int64) → Option Nat → Prop} {Q : ix_Q} (h : wp_X12_isTreaty a0 I J T P) (hQ : ∀ v I J T, P v I J T → Q (some (.inl v)) (ix_mem 276 I J T)) : ix_C (d + 1) 271 [.inr (.inr (.inl (some (204)))), .inl (a0)] (ix_mem 276 I J T) Q := by
  unfold wp_X12_isTreaty at h
  refine ix_enter (ls := [some (.inr (.inr (.inl (some (204))))), some (.inl (a0))]) rfl rfl rfl (Nat.le_of_ble_eq_true rfl) ?_
  refine ix_go 2 (x' := (if a0 < 0 then 16 else 4, [some (.inr (.inr (.inl (some (204))))), some (.inl (a0))], [], 0, 0, ix_mem 276 I J T)) rfl trivial ?_
  refine ix_br (fun c1 => ?_) (fun c1 => ?_)
  · have h2 := h.1 c1
    refine ix_go 1 (x' := (17, [some (.inr (.inr (.inl (some (204))))), some (.inl (a0))], [.inl ((0 : Int32))], 0, 0, ix_mem 276 I J T)) rfl trivial ?_
    exact ix_sp rfl ⟨Nat.le_refl _, Nat.le_refl _, ix_01_ok rfl, hQ _ _ _ _ h2⟩
  · have h2 := h.2 c1
    refine ix_go 4 (x' := (if a0 < I 204 24 then 12 else 16, [some (.inr (.inr (.inl (some (204))))), some (.inl (a0))], [], 0, 0, ix_mem 276 I J T)) rfl ⟨rfl, rfl⟩ ?_
    refine ix_br (fun c3 => ?_) (fun c3 => ?_)
    · have h4 := h2.1 c3
      refine ix_go 2 (x' := (17, [some (.inr (.inr (.inl (some (204))))), some (.inl (a0))], [.inl ((1 : Int32))], 0, 0, ix_mem 276 I J T)) rfl trivial ?_
      exact ix_sp rfl ⟨Nat.le_refl _, Nat.le_refl _, ix_01_ok rfl, hQ _ _ _ _ h4⟩
    · have h4 := h2.2 c3
      refine ix_go 1 (x' := (17, [some (.inr (.inr (.inl (some (204))))), some (.inl (a0))], [.inl ((0 : Int32))], 0, 0, ix_mem 276 I J T)) rfl trivial ?_
      exact ix_sp rfl ⟨Nat.le_refl _, Nat.le_refl _, ix_01_ok rfl, hQ _ _ _ _ h4⟩
def wp_X12_clauses (a0 : Int32) (I : Nat → Nat → Int32) (J : Nat → Nat → Int64) (T : Option Nat) (P : Int32 → (Nat → Nat → Int32) → (Nat → Nat → Int64) → Option Nat → Prop) : Prop := wp_X12_isTreaty (a0) I J T (fun v1 I1 J1 T1 => ((v1 = 0 → wp_X12_refuse ((1 : Int32)) I1 J1 T1 (fun v4 I4 J4 T4 => P (v4) I4 J4 T4)) ∧ (¬ (v1 = 0) → ix_inb (a0) 5 = true ∧ wp_X12_gives (I1 216 (a0).toNatClampNeg) I1 J1 T1 (fun v7 I7 J7 T7 => P (v7) I7 J7 T7))))
set_option maxRecDepth 20000 in
theorem tp_X12_clauses {d : Nat} {a0 : Int32} {I : Nat → Nat → Int32} {J : Nat → Nat → Int64} {T : Option Nat} {P : Int32 → (Nat → Nat → Int32) → (Nat → Nat → Int64) → Option Nat → Prop} {Q : ix_Q} (h : wp_X12_clauses a0 I J T P) (hQ : ∀ v I J T, P v I J T → Q (some (.inl v)) (ix_mem 276 I J T)) : ix_C (d + 2) 272 [.inr (.inr (.inl (some (204)))), .inl (a0)] (ix_mem 276 I J T) Q := by
  unfold wp_X12_clauses at h
  refine ix_enter (ls := [some (.inr (.inr (.inl (some (204))))), some (.inl (a0))]) rfl rfl rfl (Nat.le_of_ble_eq_true rfl) ?_
  refine ix_go 2 (x' := (2, [some (.inr (.inr (.inl (some (204))))), some (.inl (a0))], [.inl (a0), .inr (.inr (.inl (some (204))))], 0, 0, ix_mem 276 I J T)) rfl trivial ?_
  refine ix_sp rfl ⟨rfl, ⟨ix_lt rfl, ix_eq rfl, ix_lt rfl⟩, ix_le rfl, Nat.le_refl _, Nat.le_refl _, tp_X12_isTreaty h (fun v1 I1 J1 T1 h1 => ?_)⟩
  change ix_W _ _ _ (5, [some (.inr (.inr (.inl (some (204))))), some (.inl (a0))], [.inl (v1)], 0, 0, ix_mem 276 I1 J1 T1)
  refine ix_go 1 (x' := (if v1 = 0 then 21 else 8, [some (.inr (.inr (.inl (some (204))))), some (.inl (a0))], [], 0, 0, ix_mem 276 I1 J1 T1)) rfl trivial ?_
  refine ix_br (fun c2 => ?_) (fun c2 => ?_)
  · have h3 := h1.1 c2
    refine ix_go 2 (x' := (23, [some (.inr (.inr (.inl (some (204))))), some (.inl (a0))], [.inl ((1 : Int32)), .inr (.inr (.inl (some (204))))], 0, 0, ix_mem 276 I1 J1 T1)) rfl trivial ?_
    refine ix_sp rfl ⟨rfl, ⟨ix_lt rfl, ix_eq rfl, ix_lt rfl⟩, ix_le rfl, Nat.le_refl _, Nat.le_refl _, tp_X12_refuse h3 (fun v4 I4 J4 T4 h4 => ?_)⟩
    change ix_W _ _ _ (26, [some (.inr (.inr (.inl (some (204))))), some (.inl (a0))], [.inl (v4)], 0, 0, ix_mem 276 I4 J4 T4)
    exact ix_sp rfl ⟨Nat.le_refl _, Nat.le_refl _, trivial, hQ _ _ _ _ h4⟩
  · have h3 := h1.2 c2
    obtain ⟨p5, h6⟩ := h3
    refine ix_go 5 (x' := (15, [some (.inr (.inr (.inl (some (204))))), some (.inl (a0))], [.inl (I1 216 (a0).toNatClampNeg), .inr (.inr (.inl (some (204))))], 0, 0, ix_mem 276 I1 J1 T1)) rfl ⟨rfl, rfl, rfl, rfl, p5⟩ ?_
    refine ix_sp rfl ⟨rfl, ⟨ix_lt rfl, ix_eq rfl, ix_lt rfl⟩, ix_le rfl, Nat.le_refl _, Nat.le_refl _, tp_X12_gives h6 (fun v7 I7 J7 T7 h7 => ?_)⟩
    change ix_W _ _ _ (18, [some (.inr (.inr (.inl (some (204))))), some (.inl (a0))], [.inl (v7)], 0, 0, ix_mem 276 I7 J7 T7)
    refine ix_go 1 (x' := (26, [some (.inr (.inr (.inl (some (204))))), some (.inl (a0))], [.inl (v7)], 0, 0, ix_mem 276 I7 J7 T7)) rfl trivial ?_
    exact ix_sp rfl ⟨Nat.le_refl _, Nat.le_refl _, trivial, hQ _ _ _ _ h7⟩
def wb_X12_force_4 (x1 : Int32) (x2 : Int32) (x3 : Int32) (I : Nat → Nat → Int32) (J : Nat → Nat → Int64) (T : Option Nat) (V4 : Int32 → Int32 → Int32 → (Nat → Nat → Int32) → (Nat → Nat → Int64) → Option Nat → Prop) (P : Int32 → (Nat → Nat → Int32) → (Nat → Nat → Int64) → Option Nat → Prop) : Prop := ((x3 < I 204 24 → ix_inb (x3) 5 = true ∧ ((I 215 (x3).toNatClampNeg ≤ x1 → ((x2 = (-1 : Int32) → V4 (x1) (x3) (x3 + (1 : Int32)) I J T) ∧ (¬ (x2 = (-1 : Int32)) → ix_inb (x3) 5 = true ∧ ix_inb (x2) 5 = true ∧ ((I 215 (x3).toNatClampNeg < I 215 (x2).toNatClampNeg → V4 (x1) (x2) (x3 + (1 : Int32)) I J T) ∧ (¬ (I 215 (x3).toNatClampNeg < I 215 (x2).toNatClampNeg) → V4 (x1) (x3) (x3 + (1 : Int32)) I J T))))) ∧ (¬ (I 215 (x3).toNatClampNeg ≤ x1) → V4 (x1) (x2) (x3 + (1 : Int32)) I J T))) ∧ (¬ (x3 < I 204 24) → P (x2) I J T))
def wl_X12_force_4 (x1 : Int32) (x2 : Int32) (x3 : Int32) (I : Nat → Nat → Int32) (J : Nat → Nat → Int64) (T : Option Nat) (P : Int32 → (Nat → Nat → Int32) → (Nat → Nat → Int64) → Option Nat → Prop) : Prop := ∀ V : Int32 → Int32 → Int32 → (Nat → Nat → Int32) → (Nat → Nat → Int64) → Option Nat → Prop, (∀ (x1 : Int32) (x2 : Int32) (x3 : Int32) (I : Nat → Nat → Int32) (J : Nat → Nat → Int64) (T : Option Nat), wb_X12_force_4 x1 x2 x3 I J T V P → V x1 x2 x3 I J T) → V x1 x2 x3 I J T
set_option maxRecDepth 20000 in
theorem tl_X12_force_4 {d : Nat} {x1 : Int32} {x2 : Int32} {x3 : Int32} {I : Nat → Nat → Int32} {J : Nat → Nat → Int64} {T : Option Nat} {P : Int32 → (Nat → Nat → Int32) → (Nat → Nat → Int64) → Option Nat → Prop} {Q : ix_Q} (h : wl_X12_force_4 x1 x2 x3 I J T P) (hQ : ∀ v I J T, P v I J T → Q (some (.inl v)) (ix_mem 276 I J T)) : ix_W (ix_C d) (12, ix_lk ix_l273, (some .int), 0, 0, Nat.blt 0 0, none) Q (4, [some (.inr (.inr (.inl (some (204))))), some (.inl (x1)), some (.inl (x2)), some (.inl (x3))], [], 0, 0, ix_mem 276 I J T) := by
  refine h (fun x1 x2 x3 I J T => ix_W (ix_C d) (12, ix_lk ix_l273, (some .int), 0, 0, Nat.blt 0 0, none) Q (4, [some (.inr (.inr (.inl (some (204))))), some (.inl (x1)), some (.inl (x2)), some (.inl (x3))], [], 0, 0, ix_mem 276 I J T)) ?_
  intro x1 x2 x3 I J T hb
  unfold wb_X12_force_4 at hb
  refine ix_go 4 (x' := (if x3 < I 204 24 then 12 else 50, [some (.inr (.inr (.inl (some (204))))), some (.inl (x1)), some (.inl (x2)), some (.inl (x3))], [], 0, 0, ix_mem 276 I J T)) rfl ⟨rfl, rfl⟩ ?_
  refine ix_br (fun c1 => ?_) (fun c1 => ?_)
  · have h2 := hb.1 c1
    obtain ⟨p3, h4⟩ := h2
    refine ix_go 6 (x' := (if I 215 (x3).toNatClampNeg ≤ x1 then 22 else 44, [some (.inr (.inr (.inl (some (204))))), some (.inl (x1)), some (.inl (x2)), some (.inl (x3))], [], 0, 0, ix_mem 276 I J T)) rfl ⟨rfl, rfl, rfl, rfl, p3⟩ ?_
    refine ix_br (fun c5 => ?_) (fun c5 => ?_)
    · have h6 := h4.1 c5
      refine ix_go 3 (x' := (if x2 = (-1 : Int32) then 42 else 27, [some (.inr (.inr (.inl (some (204))))), some (.inl (x1)), some (.inl (x2)), some (.inl (x3))], [], 0, 0, ix_mem 276 I J T)) rfl trivial ?_
      refine ix_br (fun c7 => ?_) (fun c7 => ?_)
      · have h8 := h6.1 c7
        refine ix_go 4 (x' := (4, [some (.inr (.inr (.inl (some (204))))), some (.inl (x1)), some (.inl (x3)), some (.inl (x3 + (1 : Int32)))], [], 0, 0, ix_mem 276 I J T)) rfl trivial ?_
        refine ix_subW ([some (.inr (.inr (.inl (some (204))))), some (.inl (x1)), some (.inl (x3)), some (.inl (x3 + (1 : Int32)))]) (ix_subS (ix_subS (ix_subS (ix_subS (ix_sub0))))) ?_
        exact h8
      · have h8 := h6.2 c7
        obtain ⟨p9, h10⟩ := h8
        refine ix_go 7 (x' := (38, [some (.inr (.inr (.inl (some (204))))), some (.inl (x1)), some (.inl (x2)), some (.inl (x3))], [.inl (x2), .inr (.inr (.inl (some (215)))), .inl (I 215 (x3).toNatClampNeg)], 0, 0, ix_mem 276 I J T)) rfl ⟨rfl, rfl, rfl, rfl, p9, rfl, rfl⟩ ?_
        obtain ⟨p11, h12⟩ := h10
        refine ix_go 2 (x' := (if I 215 (x3).toNatClampNeg < I 215 (x2).toNatClampNeg then 44 else 42, [some (.inr (.inr (.inl (some (204))))), some (.inl (x1)), some (.inl (x2)), some (.inl (x3))], [], 0, 0, ix_mem 276 I J T)) rfl ⟨rfl, rfl, p11⟩ ?_
        refine ix_br (fun c13 => ?_) (fun c13 => ?_)
        · have h14 := h12.1 c13
          refine ix_go 2 (x' := (4, [some (.inr (.inr (.inl (some (204))))), some (.inl (x1)), some (.inl (x2)), some (.inl (x3 + (1 : Int32)))], [], 0, 0, ix_mem 276 I J T)) rfl trivial ?_
          refine ix_subW ([some (.inr (.inr (.inl (some (204))))), some (.inl (x1)), some (.inl (x2)), some (.inl (x3 + (1 : Int32)))]) (ix_subS (ix_subS (ix_subS (ix_subS (ix_sub0))))) ?_
          exact h14
        · have h14 := h12.2 c13
          refine ix_go 4 (x' := (4, [some (.inr (.inr (.inl (some (204))))), some (.inl (x1)), some (.inl (x3)), some (.inl (x3 + (1 : Int32)))], [], 0, 0, ix_mem 276 I J T)) rfl trivial ?_
          refine ix_subW ([some (.inr (.inr (.inl (some (204))))), some (.inl (x1)), some (.inl (x3)), some (.inl (x3 + (1 : Int32)))]) (ix_subS (ix_subS (ix_subS (ix_subS (ix_sub0))))) ?_
          exact h14
    · have h6 := h4.2 c5
      refine ix_go 2 (x' := (4, [some (.inr (.inr (.inl (some (204))))), some (.inl (x1)), some (.inl (x2)), some (.inl (x3 + (1 : Int32)))], [], 0, 0, ix_mem 276 I J T)) rfl trivial ?_
      refine ix_subW ([some (.inr (.inr (.inl (some (204))))), some (.inl (x1)), some (.inl (x2)), some (.inl (x3 + (1 : Int32)))]) (ix_subS (ix_subS (ix_subS (ix_subS (ix_sub0))))) ?_
      exact h6
  · have h2 := hb.2 c1
    refine ix_go 1 (x' := (51, [some (.inr (.inr (.inl (some (204))))), some (.inl (x1)), some (.inl (x2)), some (.inl (x3))], [.inl (x2)], 0, 0, ix_mem 276 I J T)) rfl trivial ?_
    exact ix_sp rfl ⟨Nat.le_refl _, Nat.le_refl _, trivial, hQ _ _ _ _ h2⟩
def wp_X12_force (a0 : Int32) (I : Nat → Nat → Int32) (J : Nat → Nat → Int64) (T : Option Nat) (P : Int32 → (Nat → Nat → Int32) → (Nat → Nat → Int64) → Option Nat → Prop) : Prop := wl_X12_force_4 (a0) ((-1 : Int32)) ((0 : Int32)) I J T P
set_option maxRecDepth 20000 in
theorem tp_X12_force {d : Nat} {a0 : Int32} {I : Nat → Nat → Int32} {J : Nat → Nat → Int64} {T : Option Nat} {P : Int32 → (Nat → Nat → Int32) → (Nat → Nat → Int64) → Option Nat → Prop} {Q : ix_Q} (h : wp_X12_force a0 I J T P) (hQ : ∀ v I J T, P v I J T → Q (some (.inl v)) (ix_mem 276 I J T)) : ix_C (d + 1) 273 [.inr (.inr (.inl (some (204)))), .inl (a0)] (ix_mem 276 I J T) Q := by
  unfold wp_X12_force at h
  refine ix_enter (ls := [some (.inr (.inr (.inl (some (204))))), some (.inl (a0)), none, none]) rfl rfl rfl (Nat.le_of_ble_eq_true rfl) ?_
  refine ix_go 4 (x' := (4, [some (.inr (.inr (.inl (some (204))))), some (.inl (a0)), some (.inl ((-1 : Int32))), some (.inl ((0 : Int32)))], [], 0, 0, ix_mem 276 I J T)) rfl trivial ?_
  refine ix_subW ([some (.inr (.inr (.inl (some (204))))), some (.inl (a0)), some (.inl ((-1 : Int32))), some (.inl ((0 : Int32)))]) (ix_subS (ix_subS (ix_subS (ix_subS (ix_sub0))))) ?_
  exact tl_X12_force_4 h hQ
def wp_X12_inForce (a0 : Int32) (I : Nat → Nat → Int32) (J : Nat → Nat → Int64) (T : Option Nat) (P : Int32 → (Nat → Nat → Int32) → (Nat → Nat → Int64) → Option Nat → Prop) : Prop := ((a0 < 0 → wp_X12_refuse ((1 : Int32)) I J T (fun v3 I3 J3 T3 => P (v3) I3 J3 T3)) ∧ (¬ (a0 < 0) → ((a0 ≤ (27 : Int32) → wp_X12_force (a0) I J T (fun v6 I6 J6 T6 => ((v6 = (-1 : Int32) → wp_X12_refuse ((6 : Int32)) I6 J6 T6 (fun v9 I9 J9 T9 => P (v9) I9 J9 T9)) ∧ (¬ (v6 = (-1 : Int32)) → wp_X12_gives (v6) I6 J6 T6 (fun v10 I10 J10 T10 => P (v10) I10 J10 T10))))) ∧ (¬ (a0 ≤ (27 : Int32)) → wp_X12_refuse ((1 : Int32)) I J T (fun v11 I11 J11 T11 => P (v11) I11 J11 T11)))))
set_option maxRecDepth 20000 in
theorem tp_X12_inForce {d : Nat} {a0 : Int32} {I : Nat → Nat → Int32} {J : Nat → Nat → Int64} {T : Option Nat} {P : Int32 → (Nat → Nat → Int32) → (Nat → Nat → Int64) → Option Nat → Prop} {Q : ix_Q} (h : wp_X12_inForce a0 I J T P) (hQ : ∀ v I J T, P v I J T → Q (some (.inl v)) (ix_mem 276 I J T)) : ix_C (d + 2) 274 [.inr (.inr (.inl (some (204)))), .inl (a0)] (ix_mem 276 I J T) Q := by
  unfold wp_X12_inForce at h
  refine ix_enter (ls := [some (.inr (.inr (.inl (some (204))))), some (.inl (a0)), none]) rfl rfl rfl (Nat.le_of_ble_eq_true rfl) ?_
  refine ix_go 2 (x' := (if a0 < 0 then 10 else 4, [some (.inr (.inr (.inl (some (204))))), some (.inl (a0)), none], [], 0, 0, ix_mem 276 I J T)) rfl trivial ?_
  refine ix_br (fun c1 => ?_) (fun c1 => ?_)
  · have h2 := h.1 c1
    refine ix_go 2 (x' := (12, [some (.inr (.inr (.inl (some (204))))), some (.inl (a0)), none], [.inl ((1 : Int32)), .inr (.inr (.inl (some (204))))], 0, 0, ix_mem 276 I J T)) rfl trivial ?_
    refine ix_sp rfl ⟨rfl, ⟨ix_lt rfl, ix_eq rfl, ix_lt rfl⟩, ix_le rfl, Nat.le_refl _, Nat.le_refl _, tp_X12_refuse h2 (fun v3 I3 J3 T3 h3 => ?_)⟩
    change ix_W _ _ _ (15, [some (.inr (.inr (.inl (some (204))))), some (.inl (a0)), none], [.inl (v3)], 0, 0, ix_mem 276 I3 J3 T3)
    exact ix_sp rfl ⟨Nat.le_refl _, Nat.le_refl _, trivial, hQ _ _ _ _ h3⟩
  · have h2 := h.2 c1
    refine ix_go 3 (x' := (if a0 ≤ (27 : Int32) then 16 else 10, [some (.inr (.inr (.inl (some (204))))), some (.inl (a0)), none], [], 0, 0, ix_mem 276 I J T)) rfl trivial ?_
    refine ix_br (fun c4 => ?_) (fun c4 => ?_)
    · have h5 := h2.1 c4
      refine ix_go 2 (x' := (18, [some (.inr (.inr (.inl (some (204))))), some (.inl (a0)), none], [.inl (a0), .inr (.inr (.inl (some (204))))], 0, 0, ix_mem 276 I J T)) rfl trivial ?_
      refine ix_sp rfl ⟨rfl, ⟨ix_lt rfl, ix_eq rfl, ix_lt rfl⟩, ix_le rfl, Nat.le_refl _, Nat.le_refl _, tp_X12_force h5 (fun v6 I6 J6 T6 h6 => ?_)⟩
      change ix_W _ _ _ (21, [some (.inr (.inr (.inl (some (204))))), some (.inl (a0)), none], [.inl (v6)], 0, 0, ix_mem 276 I6 J6 T6)
      refine ix_go 4 (x' := (if v6 = (-1 : Int32) then 27 else 36, [some (.inr (.inr (.inl (some (204))))), some (.inl (a0)), some (.inl (v6))], [], 0, 0, ix_mem 276 I6 J6 T6)) rfl trivial ?_
      refine ix_br (fun c7 => ?_) (fun c7 => ?_)
      · have h8 := h6.1 c7
        refine ix_go 2 (x' := (30, [some (.inr (.inr (.inl (some (204))))), some (.inl (a0)), some (.inl (v6))], [.inl ((6 : Int32)), .inr (.inr (.inl (some (204))))], 0, 0, ix_mem 276 I6 J6 T6)) rfl trivial ?_
        refine ix_sp rfl ⟨rfl, ⟨ix_lt rfl, ix_eq rfl, ix_lt rfl⟩, ix_le rfl, Nat.le_refl _, Nat.le_refl _, tp_X12_refuse h8 (fun v9 I9 J9 T9 h9 => ?_)⟩
        change ix_W _ _ _ (33, [some (.inr (.inr (.inl (some (204))))), some (.inl (a0)), some (.inl (v6))], [.inl (v9)], 0, 0, ix_mem 276 I9 J9 T9)
        refine ix_go 1 (x' := (41, [some (.inr (.inr (.inl (some (204))))), some (.inl (a0)), some (.inl (v6))], [.inl (v9)], 0, 0, ix_mem 276 I9 J9 T9)) rfl trivial ?_
        exact ix_sp rfl ⟨Nat.le_refl _, Nat.le_refl _, trivial, hQ _ _ _ _ h9⟩
      · have h8 := h6.2 c7
        refine ix_go 2 (x' := (38, [some (.inr (.inr (.inl (some (204))))), some (.inl (a0)), some (.inl (v6))], [.inl (v6), .inr (.inr (.inl (some (204))))], 0, 0, ix_mem 276 I6 J6 T6)) rfl trivial ?_
        refine ix_sp rfl ⟨rfl, ⟨ix_lt rfl, ix_eq rfl, ix_lt rfl⟩, ix_le rfl, Nat.le_refl _, Nat.le_refl _, tp_X12_gives h8 (fun v10 I10 J10 T10 h10 => ?_)⟩
        change ix_W _ _ _ (41, [some (.inr (.inr (.inl (some (204))))), some (.inl (a0)), some (.inl (v6))], [.inl (v10)], 0, 0, ix_mem 276 I10 J10 T10)
        exact ix_sp rfl ⟨Nat.le_refl _, Nat.le_refl _, trivial, hQ _ _ _ _ h10⟩
    · have h5 := h2.2 c4
      refine ix_go 2 (x' := (12, [some (.inr (.inr (.inl (some (204))))), some (.inl (a0)), none], [.inl ((1 : Int32)), .inr (.inr (.inl (some (204))))], 0, 0, ix_mem 276 I J T)) rfl trivial ?_
      refine ix_sp rfl ⟨rfl, ⟨ix_lt rfl, ix_eq rfl, ix_lt rfl⟩, ix_le rfl, Nat.le_refl _, Nat.le_refl _, tp_X12_refuse h5 (fun v11 I11 J11 T11 h11 => ?_)⟩
      change ix_W _ _ _ (15, [some (.inr (.inr (.inl (some (204))))), some (.inl (a0)), none], [.inl (v11)], 0, 0, ix_mem 276 I11 J11 T11)
      exact ix_sp rfl ⟨Nat.le_refl _, Nat.le_refl _, trivial, hQ _ _ _ _ h11⟩
def wp_X12_isClause (a0 : Int32) (a1 : Int32) (I : Nat → Nat → Int32) (J : Nat → Nat → Int64) (T : Option Nat) (P : Int32 → (Nat → Nat → Int32) → (Nat → Nat → Int64) → Option Nat → Prop) : Prop := wp_X12_isTreaty (a0) I J T (fun v1 I1 J1 T1 => ((v1 = 0 → P ((0 : Int32)) I1 J1 T1) ∧ (¬ (v1 = 0) → ((a1 < 0 → P ((0 : Int32)) I1 J1 T1) ∧ (¬ (a1 < 0) → ix_inb (a0) 5 = true ∧ ((a1 < I1 216 (a0).toNatClampNeg → P ((1 : Int32)) I1 J1 T1) ∧ (¬ (a1 < I1 216 (a0).toNatClampNeg) → P ((0 : Int32)) I1 J1 T1)))))))
set_option maxRecDepth 20000 in
theorem tp_X12_isClause {d : Nat} {a0 : Int32} {a1 : Int32} {I : Nat → Nat → Int32} {J : Nat → Nat → Int64} {T : Option Nat} {P : Int32 → (Nat → Nat → Int32) → (Nat → Nat → Int64) → Option Nat → Prop} {Q : ix_Q} (h : wp_X12_isClause a0 a1 I J T P) (hQ : ∀ v I J T, P v I J T → Q (some (.inl v)) (ix_mem 276 I J T)) : ix_C (d + 2) 275 [.inr (.inr (.inl (some (204)))), .inl (a0), .inl (a1)] (ix_mem 276 I J T) Q := by
  unfold wp_X12_isClause at h
  refine ix_enter (ls := [some (.inr (.inr (.inl (some (204))))), some (.inl (a0)), some (.inl (a1))]) rfl rfl rfl (Nat.le_of_ble_eq_true rfl) ?_
  refine ix_go 2 (x' := (2, [some (.inr (.inr (.inl (some (204))))), some (.inl (a0)), some (.inl (a1))], [.inl (a0), .inr (.inr (.inl (some (204))))], 0, 0, ix_mem 276 I J T)) rfl trivial ?_
  refine ix_sp rfl ⟨rfl, ⟨ix_lt rfl, ix_eq rfl, ix_lt rfl⟩, ix_le rfl, Nat.le_refl _, Nat.le_refl _, tp_X12_isTreaty h (fun v1 I1 J1 T1 h1 => ?_)⟩
  change ix_W _ _ _ (5, [some (.inr (.inr (.inl (some (204))))), some (.inl (a0)), some (.inl (a1))], [.inl (v1)], 0, 0, ix_mem 276 I1 J1 T1)
  refine ix_go 1 (x' := (if v1 = 0 then 26 else 8, [some (.inr (.inr (.inl (some (204))))), some (.inl (a0)), some (.inl (a1))], [], 0, 0, ix_mem 276 I1 J1 T1)) rfl trivial ?_
  refine ix_br (fun c2 => ?_) (fun c2 => ?_)
  · have h3 := h1.1 c2
    refine ix_go 1 (x' := (27, [some (.inr (.inr (.inl (some (204))))), some (.inl (a0)), some (.inl (a1))], [.inl ((0 : Int32))], 0, 0, ix_mem 276 I1 J1 T1)) rfl trivial ?_
    exact ix_sp rfl ⟨Nat.le_refl _, Nat.le_refl _, ix_01_ok rfl, hQ _ _ _ _ h3⟩
  · have h3 := h1.2 c2
    refine ix_go 2 (x' := (if a1 < 0 then 26 else 12, [some (.inr (.inr (.inl (some (204))))), some (.inl (a0)), some (.inl (a1))], [], 0, 0, ix_mem 276 I1 J1 T1)) rfl trivial ?_
    refine ix_br (fun c4 => ?_) (fun c4 => ?_)
    · have h5 := h3.1 c4
      refine ix_go 1 (x' := (27, [some (.inr (.inr (.inl (some (204))))), some (.inl (a0)), some (.inl (a1))], [.inl ((0 : Int32))], 0, 0, ix_mem 276 I1 J1 T1)) rfl trivial ?_
      exact ix_sp rfl ⟨Nat.le_refl _, Nat.le_refl _, ix_01_ok rfl, hQ _ _ _ _ h5⟩
    · have h5 := h3.2 c4
      obtain ⟨p6, h7⟩ := h5
      refine ix_go 6 (x' := (if a1 < I1 216 (a0).toNatClampNeg then 22 else 26, [some (.inr (.inr (.inl (some (204))))), some (.inl (a0)), some (.inl (a1))], [], 0, 0, ix_mem 276 I1 J1 T1)) rfl ⟨rfl, rfl, rfl, rfl, p6⟩ ?_
      refine ix_br (fun c8 => ?_) (fun c8 => ?_)
      · have h9 := h7.1 c8
        refine ix_go 2 (x' := (27, [some (.inr (.inr (.inl (some (204))))), some (.inl (a0)), some (.inl (a1))], [.inl ((1 : Int32))], 0, 0, ix_mem 276 I1 J1 T1)) rfl trivial ?_
        exact ix_sp rfl ⟨Nat.le_refl _, Nat.le_refl _, ix_01_ok rfl, hQ _ _ _ _ h9⟩
      · have h9 := h7.2 c8
        refine ix_go 1 (x' := (27, [some (.inr (.inr (.inl (some (204))))), some (.inl (a0)), some (.inl (a1))], [.inl ((0 : Int32))], 0, 0, ix_mem 276 I1 J1 T1)) rfl trivial ?_
        exact ix_sp rfl ⟨Nat.le_refl _, Nat.le_refl _, ix_01_ok rfl, hQ _ _ _ _ h9⟩
def wb_X12_outOf_9 (x1 : Int32) (x2 : Int32) (x3 : Int32) (x4 : Int32) (x5 : Int32) (x6 : Int32) (I : Nat → Nat → Int32) (J : Nat → Nat → Int64) (T : Option Nat) (V9 : Int32 → Int32 → Int32 → Int32 → Int32 → Int32 → (Nat → Nat → Int32) → (Nat → Nat → Int64) → Option Nat → Prop) (P : Int32 → (Nat → Nat → Int32) → (Nat → Nat → Int64) → Option Nat → Prop) : Prop := ((x6 < I 204 53 → ix_inb (x6) 40 = true ∧ ((I 237 (x6).toNatClampNeg = x1 → ix_inb (x6) 40 = true ∧ ((I 238 (x6).toNatClampNeg = x2 → ix_inb (x6) 40 = true ∧ ((I 239 (x6).toNatClampNeg ≤ x3 → ix_inb (x6) 40 = true ∧ ((I 239 (x6).toNatClampNeg < x5 → V9 (x1) (x2) (x3) (x4) (x5) (x6 + (1 : Int32)) I J T) ∧ (¬ (I 239 (x6).toNatClampNeg < x5) → ix_inb (x6) 40 = true ∧ ix_inb (x6) 40 = true ∧ V9 (x1) (x2) (x3) (I 240 (x6).toNatClampNeg) (I 239 (x6).toNatClampNeg) (x6 + (1 : Int32)) I J T))) ∧ (¬ (I 239 (x6).toNatClampNeg ≤ x3) → V9 (x1) (x2) (x3) (x4) (x5) (x6 + (1 : Int32)) I J T))) ∧ (¬ (I 238 (x6).toNatClampNeg = x2) → V9 (x1) (x2) (x3) (x4) (x5) (x6 + (1 : Int32)) I J T))) ∧ (¬ (I 237 (x6).toNatClampNeg = x1) → V9 (x1) (x2) (x3) (x4) (x5) (x6 + (1 : Int32)) I J T))) ∧ (¬ (x6 < I 204 53) → ix_01 (x4) = true ∧ P (x4) I J T))
def wl_X12_outOf_9 (x1 : Int32) (x2 : Int32) (x3 : Int32) (x4 : Int32) (x5 : Int32) (x6 : Int32) (I : Nat → Nat → Int32) (J : Nat → Nat → Int64) (T : Option Nat) (P : Int32 → (Nat → Nat → Int32) → (Nat → Nat → Int64) → Option Nat → Prop) : Prop := ∀ V : Int32 → Int32 → Int32 → Int32 → Int32 → Int32 → (Nat → Nat → Int32) → (Nat → Nat → Int64) → Option Nat → Prop, (∀ (x1 : Int32) (x2 : Int32) (x3 : Int32) (x4 : Int32) (x5 : Int32) (x6 : Int32) (I : Nat → Nat → Int32) (J : Nat → Nat → Int64) (T : Option Nat), wb_X12_outOf_9 x1 x2 x3 x4 x5 x6 I J T V P → V x1 x2 x3 x4 x5 x6 I J T) → V x1 x2 x3 x4 x5 x6 I J T
set_option maxRecDepth 20000 in
theorem tl_X12_outOf_9 {d : Nat} {x1 : Int32} {x2 : Int32} {x3 : Int32} {x4 : Int32} {x5 : Int32} {x6 : Int32} {I : Nat → Nat → Int32} {J : Nat → Nat → Int64} {T : Option Nat} {P : Int32 → (Nat → Nat → Int32) → (Nat → Nat → Int64) → Option Nat → Prop} {Q : ix_Q} (h : wl_X12_outOf_9 x1 x2 x3 x4 x5 x6 I J T P) (hQ : ∀ v I J T, P v I J T → Q (some (.inl v)) (ix_mem 276 I J T)) : ix_W (ix_C d) (12, ix_lk ix_l276, (some .boolean), 0, 0, Nat.blt 0 0, none) Q (9, [some (.inr (.inr (.inl (some (204))))), some (.inl (x1)), some (.inl (x2)), some (.inl (x3)), some (.inl (x4)), some (.inl (x5)), some (.inl (x6))], [], 0, 0, ix_mem 276 I J T) := by
  refine h (fun x1 x2 x3 x4 x5 x6 I J T => ix_W (ix_C d) (12, ix_lk ix_l276, (some .boolean), 0, 0, Nat.blt 0 0, none) Q (9, [some (.inr (.inr (.inl (some (204))))), some (.inl (x1)), some (.inl (x2)), some (.inl (x3)), some (.inl (x4)), some (.inl (x5)), some (.inl (x6))], [], 0, 0, ix_mem 276 I J T)) ?_
  intro x1 x2 x3 x4 x5 x6 I J T hb
  unfold wb_X12_outOf_9 at hb
  refine ix_go 4 (x' := (if x6 < I 204 53 then 18 else 90, [some (.inr (.inr (.inl (some (204))))), some (.inl (x1)), some (.inl (x2)), some (.inl (x3)), some (.inl (x4)), some (.inl (x5)), some (.inl (x6))], [], 0, 0, ix_mem 276 I J T)) rfl ⟨rfl, rfl⟩ ?_
  refine ix_br (fun c1 => ?_) (fun c1 => ?_)
  · have h2 := hb.1 c1
    obtain ⟨p3, h4⟩ := h2
    refine ix_go 6 (x' := (if I 237 (x6).toNatClampNeg = x1 then 29 else 84, [some (.inr (.inr (.inl (some (204))))), some (.inl (x1)), some (.inl (x2)), some (.inl (x3)), some (.inl (x4)), some (.inl (x5)), some (.inl (x6))], [], 0, 0, ix_mem 276 I J T)) rfl ⟨rfl, rfl, rfl, rfl, p3⟩ ?_
    refine ix_br (fun c5 => ?_) (fun c5 => ?_)
    · have h6 := h4.1 c5
      obtain ⟨p7, h8⟩ := h6
      refine ix_go 6 (x' := (if I 238 (x6).toNatClampNeg = x2 then 40 else 84, [some (.inr (.inr (.inl (some (204))))), some (.inl (x1)), some (.inl (x2)), some (.inl (x3)), some (.inl (x4)), some (.inl (x5)), some (.inl (x6))], [], 0, 0, ix_mem 276 I J T)) rfl ⟨rfl, rfl, rfl, rfl, p7⟩ ?_
      refine ix_br (fun c9 => ?_) (fun c9 => ?_)
      · have h10 := h8.1 c9
        obtain ⟨p11, h12⟩ := h10
        refine ix_go 6 (x' := (if I 239 (x6).toNatClampNeg ≤ x3 then 51 else 84, [some (.inr (.inr (.inl (some (204))))), some (.inl (x1)), some (.inl (x2)), some (.inl (x3)), some (.inl (x4)), some (.inl (x5)), some (.inl (x6))], [], 0, 0, ix_mem 276 I J T)) rfl ⟨rfl, rfl, rfl, rfl, p11⟩ ?_
        refine ix_br (fun c13 => ?_) (fun c13 => ?_)
        · have h14 := h12.1 c13
          obtain ⟨p15, h16⟩ := h14
          refine ix_go 6 (x' := (if I 239 (x6).toNatClampNeg < x5 then 63 else 66, [some (.inr (.inr (.inl (some (204))))), some (.inl (x1)), some (.inl (x2)), some (.inl (x3)), some (.inl (x4)), some (.inl (x5)), some (.inl (x6))], [], 0, 0, ix_mem 276 I J T)) rfl ⟨rfl, rfl, rfl, rfl, p15⟩ ?_
          refine ix_br (fun c17 => ?_) (fun c17 => ?_)
          · have h18 := h16.1 c17
            refine ix_go 3 (x' := (9, [some (.inr (.inr (.inl (some (204))))), some (.inl (x1)), some (.inl (x2)), some (.inl (x3)), some (.inl (x4)), some (.inl (x5)), some (.inl (x6 + (1 : Int32)))], [], 0, 0, ix_mem 276 I J T)) rfl trivial ?_
            refine ix_subW ([some (.inr (.inr (.inl (some (204))))), some (.inl (x1)), some (.inl (x2)), some (.inl (x3)), some (.inl (x4)), some (.inl (x5)), some (.inl (x6 + (1 : Int32)))]) (ix_subS (ix_subS (ix_subS (ix_subS (ix_subS (ix_subS (ix_subS (ix_sub0)))))))) ?_
            exact h18
          · have h18 := h16.2 c17
            obtain ⟨p19, h20⟩ := h18
            refine ix_go 7 (x' := (79, [some (.inr (.inr (.inl (some (204))))), some (.inl (x1)), some (.inl (x2)), some (.inl (x3)), some (.inl (x4)), some (.inl (I 239 (x6).toNatClampNeg)), some (.inl (x6))], [.inr (.inr (.inl (some (240))))], 0, 0, ix_mem 276 I J T)) rfl ⟨rfl, rfl, rfl, rfl, p19, rfl, rfl⟩ ?_
            obtain ⟨p21, h22⟩ := h20
            refine ix_go 5 (x' := (9, [some (.inr (.inr (.inl (some (204))))), some (.inl (x1)), some (.inl (x2)), some (.inl (x3)), some (.inl (I 240 (x6).toNatClampNeg)), some (.inl (I 239 (x6).toNatClampNeg)), some (.inl (x6 + (1 : Int32)))], [], 0, 0, ix_mem 276 I J T)) rfl ⟨rfl, rfl, p21⟩ ?_
            refine ix_subW ([some (.inr (.inr (.inl (some (204))))), some (.inl (x1)), some (.inl (x2)), some (.inl (x3)), some (.inl (I 240 (x6).toNatClampNeg)), some (.inl (I 239 (x6).toNatClampNeg)), some (.inl (x6 + (1 : Int32)))]) (ix_subS (ix_subS (ix_subS (ix_subS (ix_subS (ix_subS (ix_subS (ix_sub0)))))))) ?_
            exact h22
        · have h14 := h12.2 c13
          refine ix_go 2 (x' := (9, [some (.inr (.inr (.inl (some (204))))), some (.inl (x1)), some (.inl (x2)), some (.inl (x3)), some (.inl (x4)), some (.inl (x5)), some (.inl (x6 + (1 : Int32)))], [], 0, 0, ix_mem 276 I J T)) rfl trivial ?_
          refine ix_subW ([some (.inr (.inr (.inl (some (204))))), some (.inl (x1)), some (.inl (x2)), some (.inl (x3)), some (.inl (x4)), some (.inl (x5)), some (.inl (x6 + (1 : Int32)))]) (ix_subS (ix_subS (ix_subS (ix_subS (ix_subS (ix_subS (ix_subS (ix_sub0)))))))) ?_
          exact h14
      · have h10 := h8.2 c9
        refine ix_go 2 (x' := (9, [some (.inr (.inr (.inl (some (204))))), some (.inl (x1)), some (.inl (x2)), some (.inl (x3)), some (.inl (x4)), some (.inl (x5)), some (.inl (x6 + (1 : Int32)))], [], 0, 0, ix_mem 276 I J T)) rfl trivial ?_
        refine ix_subW ([some (.inr (.inr (.inl (some (204))))), some (.inl (x1)), some (.inl (x2)), some (.inl (x3)), some (.inl (x4)), some (.inl (x5)), some (.inl (x6 + (1 : Int32)))]) (ix_subS (ix_subS (ix_subS (ix_subS (ix_subS (ix_subS (ix_subS (ix_sub0)))))))) ?_
        exact h10
    · have h6 := h4.2 c5
      refine ix_go 2 (x' := (9, [some (.inr (.inr (.inl (some (204))))), some (.inl (x1)), some (.inl (x2)), some (.inl (x3)), some (.inl (x4)), some (.inl (x5)), some (.inl (x6 + (1 : Int32)))], [], 0, 0, ix_mem 276 I J T)) rfl trivial ?_
      refine ix_subW ([some (.inr (.inr (.inl (some (204))))), some (.inl (x1)), some (.inl (x2)), some (.inl (x3)), some (.inl (x4)), some (.inl (x5)), some (.inl (x6 + (1 : Int32)))]) (ix_subS (ix_subS (ix_subS (ix_subS (ix_subS (ix_subS (ix_subS (ix_sub0)))))))) ?_
      exact h6
  · have h2 := hb.2 c1
    refine ix_go 1 (x' := (92, [some (.inr (.inr (.inl (some (204))))), some (.inl (x1)), some (.inl (x2)), some (.inl (x3)), some (.inl (x4)), some (.inl (x5)), some (.inl (x6))], [.inl (x4)], 0, 0, ix_mem 276 I J T)) rfl trivial ?_
    exact ix_sp rfl ⟨Nat.le_refl _, Nat.le_refl _, ix_01_ok h2.1, hQ _ _ _ _ h2.2⟩
def wp_X12_outOf (a0 : Int32) (a1 : Int32) (a2 : Int32) (I : Nat → Nat → Int32) (J : Nat → Nat → Int64) (T : Option Nat) (P : Int32 → (Nat → Nat → Int32) → (Nat → Nat → Int64) → Option Nat → Prop) : Prop := wl_X12_outOf_9 (a0) (a1) (a2) ((0 : Int32)) ((-1 : Int32)) ((0 : Int32)) I J T P
set_option maxRecDepth 20000 in
theorem tp_X12_outOf {d : Nat} {a0 : Int32} {a1 : Int32} {a2 : Int32} {I : Nat → Nat → Int32} {J : Nat → Nat → Int64} {T : Option Nat} {P : Int32 → (Nat → Nat → Int32) → (Nat → Nat → Int64) → Option Nat → Prop} {Q : ix_Q} (h : wp_X12_outOf a0 a1 a2 I J T P) (hQ : ∀ v I J T, P v I J T → Q (some (.inl v)) (ix_mem 276 I J T)) : ix_C (d + 1) 276 [.inr (.inr (.inl (some (204)))), .inl (a0), .inl (a1), .inl (a2)] (ix_mem 276 I J T) Q := by
  unfold wp_X12_outOf at h
  refine ix_enter (ls := [some (.inr (.inr (.inl (some (204))))), some (.inl (a0)), some (.inl (a1)), some (.inl (a2)), none, none, none]) rfl rfl rfl (Nat.le_of_ble_eq_true rfl) ?_
  refine ix_go 6 (x' := (9, [some (.inr (.inr (.inl (some (204))))), some (.inl (a0)), some (.inl (a1)), some (.inl (a2)), some (.inl ((0 : Int32))), some (.inl ((-1 : Int32))), some (.inl ((0 : Int32)))], [], 0, 0, ix_mem 276 I J T)) rfl trivial ?_
  refine ix_subW ([some (.inr (.inr (.inl (some (204))))), some (.inl (a0)), some (.inl (a1)), some (.inl (a2)), some (.inl ((0 : Int32))), some (.inl ((-1 : Int32))), some (.inl ((0 : Int32)))]) (ix_subS (ix_subS (ix_subS (ix_subS (ix_subS (ix_subS (ix_subS (ix_sub0)))))))) ?_
  exact tl_X12_outOf_9 h hQ
def wp_X12_reserve (a0 : Int32) (a1 : Int32) (a2 : Int32) (a3 : Int32) (a4 : Int32) (I : Nat → Nat → Int32) (J : Nat → Nat → Int64) (T : Option Nat) (P : Int32 → (Nat → Nat → Int32) → (Nat → Nat → Int64) → Option Nat → Prop) : Prop := wp_X12_isLand (a0) I J T (fun v1 I1 J1 T1 => ((v1 = 0 → wp_X12_is ((1 : Int32)) I1 J1 T1 (fun v4 I4 J4 T4 => ix_01 (v4) = true ∧ P (v4) I4 J4 T4)) ∧ (¬ (v1 = 0) → wp_X12_isClause (a1) (a2) I1 J1 T1 (fun v5 I5 J5 T5 => ((v5 = 0 → wp_X12_is ((1 : Int32)) I5 J5 T5 (fun v8 I8 J8 T8 => ix_01 (v8) = true ∧ P (v8) I8 J8 T8)) ∧ (¬ (v5 = 0) → wp_X12_isDay (a3) I5 J5 T5 (fun v9 I9 J9 T9 => ((v9 = 0 → wp_X12_is ((1 : Int32)) I9 J9 T9 (fun v12 I12 J12 T12 => ix_01 (v12) = true ∧ P (v12) I12 J12 T12)) ∧ (¬ (v9 = 0) → ((I9 204 53 = (40 : Int32) → wp_X12_is ((4 : Int32)) I9 J9 T9 (fun v15 I15 J15 T15 => ix_01 (v15) = true ∧ P (v15) I15 J15 T15)) ∧ (¬ (I9 204 53 = (40 : Int32)) → wp_X12_outOf (a0) ((((12 : Int32)) * (a1)) + (a2)) (a3) I9 J9 T9 (fun v16 I16 J16 T16 => ((v16 = a4 → wp_X12_is ((7 : Int32)) I16 J16 T16 (fun v19 I19 J19 T19 => ix_01 (v19) = true ∧ P (v19) I19 J19 T19)) ∧ (¬ (v16 = a4) → ix_inb (I16 204 53) 40 = true ∧ ix_inb (I16 204 53) 40 = true ∧ ix_inb (I16 204 53) 40 = true ∧ (false || (true && ix_01 (a4))) = true ∧ ix_inb (I16 204 53) 40 = true ∧ wp_X12_is ((0 : Int32)) (ix_u2 (ix_u2 (ix_u2 (ix_u2 (ix_u2 I16 237 (I16 204 53).toNatClampNeg (a0)) 238 (I16 204 53).toNatClampNeg ((((12 : Int32)) * (a1)) + (a2))) 239 (I16 204 53).toNatClampNeg (a3)) 240 (I16 204 53).toNatClampNeg (a4)) 204 53 ((I16 204 53) + ((1 : Int32)))) J16 T16 (fun v30 I30 J30 T30 => ix_01 (v30) = true ∧ P (v30) I30 J30 T30)))))))))))))))
set_option maxRecDepth 20000 in
theorem tp_X12_reserve {d : Nat} {a0 : Int32} {a1 : Int32} {a2 : Int32} {a3 : Int32} {a4 : Int32} {I : Nat → Nat → Int32} {J : Nat → Nat → Int64} {T : Option Nat} {P : Int32 → (Nat → Nat → Int32) → (Nat → Nat → Int64) → Option Nat → Prop} {Q : ix_Q} (h : wp_X12_reserve a0 a1 a2 a3 a4 I J T P) (hQ : ∀ v I J T, P v I J T → Q (some (.inl v)) (ix_mem 276 I J T)) : ix_C (d + 3) 277 [.inr (.inr (.inl (some (204)))), .inl (a0), .inl (a1), .inl (a2), .inl (a3), .inl (a4)] (ix_mem 276 I J T) Q := by
  unfold wp_X12_reserve at h
  refine ix_enter (ls := [some (.inr (.inr (.inl (some (204))))), some (.inl (a0)), some (.inl (a1)), some (.inl (a2)), some (.inl (a3)), some (.inl (a4)), none]) rfl rfl rfl (Nat.le_of_ble_eq_true rfl) ?_
  refine ix_go 2 (x' := (2, [some (.inr (.inr (.inl (some (204))))), some (.inl (a0)), some (.inl (a1)), some (.inl (a2)), some (.inl (a3)), some (.inl (a4)), none], [.inl (a0), .inr (.inr (.inl (some (204))))], 0, 0, ix_mem 276 I J T)) rfl trivial ?_
  refine ix_sp rfl ⟨rfl, ⟨ix_lt rfl, ix_eq rfl, ix_lt rfl⟩, ix_le rfl, Nat.le_refl _, Nat.le_refl _, tp_X12_isLand h (fun v1 I1 J1 T1 h1 => ?_)⟩
  change ix_W _ _ _ (5, [some (.inr (.inr (.inl (some (204))))), some (.inl (a0)), some (.inl (a1)), some (.inl (a2)), some (.inl (a3)), some (.inl (a4)), none], [.inl (v1)], 0, 0, ix_mem 276 I1 J1 T1)
  refine ix_go 1 (x' := (if v1 = 0 then 25 else 8, [some (.inr (.inr (.inl (some (204))))), some (.inl (a0)), some (.inl (a1)), some (.inl (a2)), some (.inl (a3)), some (.inl (a4)), none], [], 0, 0, ix_mem 276 I1 J1 T1)) rfl trivial ?_
  refine ix_br (fun c2 => ?_) (fun c2 => ?_)
  · have h3 := h1.1 c2
    refine ix_go 2 (x' := (27, [some (.inr (.inr (.inl (some (204))))), some (.inl (a0)), some (.inl (a1)), some (.inl (a2)), some (.inl (a3)), some (.inl (a4)), none], [.inl ((1 : Int32)), .inr (.inr (.inl (some (204))))], 0, 0, ix_mem 276 I1 J1 T1)) rfl trivial ?_
    refine ix_sp rfl ⟨rfl, ⟨ix_lt rfl, ix_eq rfl, ix_lt rfl⟩, ix_le rfl, Nat.le_refl _, Nat.le_refl _, tp_X12_is h3 (fun v4 I4 J4 T4 h4 => ?_)⟩
    change ix_W _ _ _ (30, [some (.inr (.inr (.inl (some (204))))), some (.inl (a0)), some (.inl (a1)), some (.inl (a2)), some (.inl (a3)), some (.inl (a4)), none], [.inl (v4)], 0, 0, ix_mem 276 I4 J4 T4)
    exact ix_sp rfl ⟨Nat.le_refl _, Nat.le_refl _, ix_01_ok h4.1, hQ _ _ _ _ h4.2⟩
  · have h3 := h1.2 c2
    refine ix_go 3 (x' := (11, [some (.inr (.inr (.inl (some (204))))), some (.inl (a0)), some (.inl (a1)), some (.inl (a2)), some (.inl (a3)), some (.inl (a4)), none], [.inl (a2), .inl (a1), .inr (.inr (.inl (some (204))))], 0, 0, ix_mem 276 I1 J1 T1)) rfl trivial ?_
    refine ix_sp rfl ⟨rfl, ⟨ix_lt rfl, ix_eq rfl, ix_lt rfl⟩, ix_le rfl, Nat.le_refl _, Nat.le_refl _, tp_X12_isClause h3 (fun v5 I5 J5 T5 h5 => ?_)⟩
    change ix_W _ _ _ (14, [some (.inr (.inr (.inl (some (204))))), some (.inl (a0)), some (.inl (a1)), some (.inl (a2)), some (.inl (a3)), some (.inl (a4)), none], [.inl (v5)], 0, 0, ix_mem 276 I5 J5 T5)
    refine ix_go 1 (x' := (if v5 = 0 then 25 else 17, [some (.inr (.inr (.inl (some (204))))), some (.inl (a0)), some (.inl (a1)), some (.inl (a2)), some (.inl (a3)), some (.inl (a4)), none], [], 0, 0, ix_mem 276 I5 J5 T5)) rfl trivial ?_
    refine ix_br (fun c6 => ?_) (fun c6 => ?_)
    · have h7 := h5.1 c6
      refine ix_go 2 (x' := (27, [some (.inr (.inr (.inl (some (204))))), some (.inl (a0)), some (.inl (a1)), some (.inl (a2)), some (.inl (a3)), some (.inl (a4)), none], [.inl ((1 : Int32)), .inr (.inr (.inl (some (204))))], 0, 0, ix_mem 276 I5 J5 T5)) rfl trivial ?_
      refine ix_sp rfl ⟨rfl, ⟨ix_lt rfl, ix_eq rfl, ix_lt rfl⟩, ix_le rfl, Nat.le_refl _, Nat.le_refl _, tp_X12_is h7 (fun v8 I8 J8 T8 h8 => ?_)⟩
      change ix_W _ _ _ (30, [some (.inr (.inr (.inl (some (204))))), some (.inl (a0)), some (.inl (a1)), some (.inl (a2)), some (.inl (a3)), some (.inl (a4)), none], [.inl (v8)], 0, 0, ix_mem 276 I8 J8 T8)
      exact ix_sp rfl ⟨Nat.le_refl _, Nat.le_refl _, ix_01_ok h8.1, hQ _ _ _ _ h8.2⟩
    · have h7 := h5.2 c6
      refine ix_go 1 (x' := (19, [some (.inr (.inr (.inl (some (204))))), some (.inl (a0)), some (.inl (a1)), some (.inl (a2)), some (.inl (a3)), some (.inl (a4)), none], [.inl (a3)], 0, 0, ix_mem 276 I5 J5 T5)) rfl trivial ?_
      refine ix_sp rfl ⟨rfl, trivial, ix_le rfl, Nat.le_refl _, Nat.le_refl _, tp_X12_isDay h7 (fun v9 I9 J9 T9 h9 => ?_)⟩
      change ix_W _ _ _ (22, [some (.inr (.inr (.inl (some (204))))), some (.inl (a0)), some (.inl (a1)), some (.inl (a2)), some (.inl (a3)), some (.inl (a4)), none], [.inl (v9)], 0, 0, ix_mem 276 I9 J9 T9)
      refine ix_go 1 (x' := (if v9 = 0 then 25 else 31, [some (.inr (.inr (.inl (some (204))))), some (.inl (a0)), some (.inl (a1)), some (.inl (a2)), some (.inl (a3)), some (.inl (a4)), none], [], 0, 0, ix_mem 276 I9 J9 T9)) rfl trivial ?_
      refine ix_br (fun c10 => ?_) (fun c10 => ?_)
      · have h11 := h9.1 c10
        refine ix_go 2 (x' := (27, [some (.inr (.inr (.inl (some (204))))), some (.inl (a0)), some (.inl (a1)), some (.inl (a2)), some (.inl (a3)), some (.inl (a4)), none], [.inl ((1 : Int32)), .inr (.inr (.inl (some (204))))], 0, 0, ix_mem 276 I9 J9 T9)) rfl trivial ?_
        refine ix_sp rfl ⟨rfl, ⟨ix_lt rfl, ix_eq rfl, ix_lt rfl⟩, ix_le rfl, Nat.le_refl _, Nat.le_refl _, tp_X12_is h11 (fun v12 I12 J12 T12 h12 => ?_)⟩
        change ix_W _ _ _ (30, [some (.inr (.inr (.inl (some (204))))), some (.inl (a0)), some (.inl (a1)), some (.inl (a2)), some (.inl (a3)), some (.inl (a4)), none], [.inl (v12)], 0, 0, ix_mem 276 I12 J12 T12)
        exact ix_sp rfl ⟨Nat.le_refl _, Nat.le_refl _, ix_01_ok h12.1, hQ _ _ _ _ h12.2⟩
      · have h11 := h9.2 c10
        refine ix_go 4 (x' := (if I9 204 53 = (40 : Int32) then 40 else 46, [some (.inr (.inr (.inl (some (204))))), some (.inl (a0)), some (.inl (a1)), some (.inl (a2)), some (.inl (a3)), some (.inl (a4)), none], [], 0, 0, ix_mem 276 I9 J9 T9)) rfl ⟨rfl, rfl⟩ ?_
        refine ix_br (fun c13 => ?_) (fun c13 => ?_)
        · have h14 := h11.1 c13
          refine ix_go 2 (x' := (42, [some (.inr (.inr (.inl (some (204))))), some (.inl (a0)), some (.inl (a1)), some (.inl (a2)), some (.inl (a3)), some (.inl (a4)), none], [.inl ((4 : Int32)), .inr (.inr (.inl (some (204))))], 0, 0, ix_mem 276 I9 J9 T9)) rfl trivial ?_
          refine ix_sp rfl ⟨rfl, ⟨ix_lt rfl, ix_eq rfl, ix_lt rfl⟩, ix_le rfl, Nat.le_refl _, Nat.le_refl _, tp_X12_is h14 (fun v15 I15 J15 T15 h15 => ?_)⟩
          change ix_W _ _ _ (45, [some (.inr (.inr (.inl (some (204))))), some (.inl (a0)), some (.inl (a1)), some (.inl (a2)), some (.inl (a3)), some (.inl (a4)), none], [.inl (v15)], 0, 0, ix_mem 276 I15 J15 T15)
          exact ix_sp rfl ⟨Nat.le_refl _, Nat.le_refl _, ix_01_ok h15.1, hQ _ _ _ _ h15.2⟩
        · have h14 := h11.2 c13
          refine ix_go 7 (x' := (55, [some (.inr (.inr (.inl (some (204))))), some (.inl (a0)), some (.inl (a1)), some (.inl (a2)), some (.inl (a3)), some (.inl (a4)), some (.inl ((((12 : Int32)) * (a1)) + (a2)))], [.inr (.inr (.inl (some (204))))], 0, 0, ix_mem 276 I9 J9 T9)) rfl trivial ?_
          refine ix_go 3 (x' := (60, [some (.inr (.inr (.inl (some (204))))), some (.inl (a0)), some (.inl (a1)), some (.inl (a2)), some (.inl (a3)), some (.inl (a4)), some (.inl ((((12 : Int32)) * (a1)) + (a2)))], [.inl (a3), .inl ((((12 : Int32)) * (a1)) + (a2)), .inl (a0), .inr (.inr (.inl (some (204))))], 0, 0, ix_mem 276 I9 J9 T9)) rfl trivial ?_
          refine ix_sp rfl ⟨rfl, ⟨ix_lt rfl, ix_eq rfl, ix_lt rfl⟩, ix_le rfl, Nat.le_refl _, Nat.le_refl _, tp_X12_outOf h14 (fun v16 I16 J16 T16 h16 => ?_)⟩
          change ix_W _ _ _ (63, [some (.inr (.inr (.inl (some (204))))), some (.inl (a0)), some (.inl (a1)), some (.inl (a2)), some (.inl (a3)), some (.inl (a4)), some (.inl ((((12 : Int32)) * (a1)) + (a2)))], [.inl (v16)], 0, 0, ix_mem 276 I16 J16 T16)
          refine ix_go 2 (x' := (if v16 = a4 then 68 else 75, [some (.inr (.inr (.inl (some (204))))), some (.inl (a0)), some (.inl (a1)), some (.inl (a2)), some (.inl (a3)), some (.inl (a4)), some (.inl ((((12 : Int32)) * (a1)) + (a2)))], [], 0, 0, ix_mem 276 I16 J16 T16)) rfl trivial ?_
          refine ix_br (fun c17 => ?_) (fun c17 => ?_)
          · have h18 := h16.1 c17
            refine ix_go 2 (x' := (71, [some (.inr (.inr (.inl (some (204))))), some (.inl (a0)), some (.inl (a1)), some (.inl (a2)), some (.inl (a3)), some (.inl (a4)), some (.inl ((((12 : Int32)) * (a1)) + (a2)))], [.inl ((7 : Int32)), .inr (.inr (.inl (some (204))))], 0, 0, ix_mem 276 I16 J16 T16)) rfl trivial ?_
            refine ix_sp rfl ⟨rfl, ⟨ix_lt rfl, ix_eq rfl, ix_lt rfl⟩, ix_le rfl, Nat.le_refl _, Nat.le_refl _, tp_X12_is h18 (fun v19 I19 J19 T19 h19 => ?_)⟩
            change ix_W _ _ _ (74, [some (.inr (.inr (.inl (some (204))))), some (.inl (a0)), some (.inl (a1)), some (.inl (a2)), some (.inl (a3)), some (.inl (a4)), some (.inl ((((12 : Int32)) * (a1)) + (a2)))], [.inl (v19)], 0, 0, ix_mem 276 I19 J19 T19)
            exact ix_sp rfl ⟨Nat.le_refl _, Nat.le_refl _, ix_01_ok h19.1, hQ _ _ _ _ h19.2⟩
          · have h18 := h16.2 c17
            obtain ⟨p20, h21⟩ := h18
            refine ix_go 7 (x' := (86, [some (.inr (.inr (.inl (some (204))))), some (.inl (a0)), some (.inl (a1)), some (.inl (a2)), some (.inl (a3)), some (.inl (a4)), some (.inl ((((12 : Int32)) * (a1)) + (a2)))], [.inr (.inr (.inl (some (204))))], 0, 0, ix_mem 276 (ix_u2 I16 237 (I16 204 53).toNatClampNeg (a0)) J16 T16)) rfl ⟨rfl, rfl, rfl, rfl, rfl, rfl, p20⟩ ?_
            obtain ⟨p22, h23⟩ := h21
            refine ix_go 7 (x' := (100, [some (.inr (.inr (.inl (some (204))))), some (.inl (a0)), some (.inl (a1)), some (.inl (a2)), some (.inl (a3)), some (.inl (a4)), some (.inl ((((12 : Int32)) * (a1)) + (a2)))], [.inr (.inr (.inl (some (239))))], 0, 0, ix_mem 276 (ix_u2 (ix_u2 I16 237 (I16 204 53).toNatClampNeg (a0)) 238 (I16 204 53).toNatClampNeg ((((12 : Int32)) * (a1)) + (a2))) J16 T16)) rfl ⟨rfl, rfl, rfl, rfl, rfl, rfl, p22, rfl, rfl⟩ ?_
            obtain ⟨p24, h25⟩ := h23
            refine ix_go 7 (x' := (112, [some (.inr (.inr (.inl (some (204))))), some (.inl (a0)), some (.inl (a1)), some (.inl (a2)), some (.inl (a3)), some (.inl (a4)), some (.inl ((((12 : Int32)) * (a1)) + (a2)))], [.inr (.inr (.inl (some (204)))), .inr (.inr (.inl (some (240))))], 0, 0, ix_mem 276 (ix_u2 (ix_u2 (ix_u2 I16 237 (I16 204 53).toNatClampNeg (a0)) 238 (I16 204 53).toNatClampNeg ((((12 : Int32)) * (a1)) + (a2))) 239 (I16 204 53).toNatClampNeg (a3)) J16 T16)) rfl ⟨rfl, rfl, rfl, rfl, p24, rfl, rfl⟩ ?_
            obtain ⟨p26, h27⟩ := h25
            obtain ⟨p28, h29⟩ := h27
            refine ix_go 7 (x' := (124, [some (.inr (.inr (.inl (some (204))))), some (.inl (a0)), some (.inl (a1)), some (.inl (a2)), some (.inl (a3)), some (.inl (a4)), some (.inl ((((12 : Int32)) * (a1)) + (a2)))], [.inl ((1 : Int32)), .inl (I16 204 53), .inr (.inr (.inl (some (204))))], 0, 0, ix_mem 276 (ix_u2 (ix_u2 (ix_u2 (ix_u2 I16 237 (I16 204 53).toNatClampNeg (a0)) 238 (I16 204 53).toNatClampNeg ((((12 : Int32)) * (a1)) + (a2))) 239 (I16 204 53).toNatClampNeg (a3)) 240 (I16 204 53).toNatClampNeg (a4)) J16 T16)) rfl ⟨rfl, rfl, rfl, p26, p28, rfl, rfl⟩ ?_
            refine ix_go 4 (x' := (130, [some (.inr (.inr (.inl (some (204))))), some (.inl (a0)), some (.inl (a1)), some (.inl (a2)), some (.inl (a3)), some (.inl (a4)), some (.inl ((((12 : Int32)) * (a1)) + (a2)))], [.inl ((0 : Int32)), .inr (.inr (.inl (some (204))))], 0, 0, ix_mem 276 (ix_u2 (ix_u2 (ix_u2 (ix_u2 (ix_u2 I16 237 (I16 204 53).toNatClampNeg (a0)) 238 (I16 204 53).toNatClampNeg ((((12 : Int32)) * (a1)) + (a2))) 239 (I16 204 53).toNatClampNeg (a3)) 240 (I16 204 53).toNatClampNeg (a4)) 204 53 ((I16 204 53) + ((1 : Int32)))) J16 T16)) rfl ⟨rfl, rfl⟩ ?_
            refine ix_sp rfl ⟨rfl, ⟨ix_lt rfl, ix_eq rfl, ix_lt rfl⟩, ix_le rfl, Nat.le_refl _, Nat.le_refl _, tp_X12_is h29 (fun v30 I30 J30 T30 h30 => ?_)⟩
            change ix_W _ _ _ (133, [some (.inr (.inr (.inl (some (204))))), some (.inl (a0)), some (.inl (a1)), some (.inl (a2)), some (.inl (a3)), some (.inl (a4)), some (.inl ((((12 : Int32)) * (a1)) + (a2)))], [.inl (v30)], 0, 0, ix_mem 276 I30 J30 T30)
            exact ix_sp rfl ⟨Nat.le_refl _, Nat.le_refl _, ix_01_ok h30.1, hQ _ _ _ _ h30.2⟩
