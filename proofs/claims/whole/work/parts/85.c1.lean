/-! findCarriages, over the memory that stands while the first constructor runs: 44 cells; of cell 0 (the object itself) only the fields that are set by then -/
def ix_R0 (c j : Nat) : Option Nat := match ix_RR 0 j with
  | some r => cond (Nat.blt r c) (some r) none
  | none => none
def ix_mq (I : Nat → Nat → Int32) (J : Nat → Nat → Int64) (_ : Option Nat) : ix_M := (44, ix_TG, ix_LN, I, J, fun a j => cond (Nat.beq a 0) (ix_R0 8 j) (ix_RR a j))
theorem rw_12y {i : Int32} (h : ix_inb i 7 = true) : (ix_RR 12 i.toNatClampNeg).isSome = true ∧ Nat.blt (ix_row 12 i) 44 = true ∧ Nat.beq (ix_TG (ix_row 12 i)) 14 = true ∧ ix_LN (ix_row 12 i) = 7 ∧ ix_row 12 i = 13 + i.toNatClampNeg := (by decide : ∀ j, j < 7 → (ix_RR 12 j).isSome = true ∧ Nat.blt ((ix_RR 12 j).getD 0) 44 = true ∧ Nat.beq (ix_TG ((ix_RR 12 j).getD 0)) 14 = true ∧ ix_LN ((ix_RR 12 j).getD 0) = 7 ∧ (ix_RR 12 j).getD 0 = 13 + j) _ (ix_inb_lt h)
theorem rw_20y {i : Int32} (h : ix_inb i 7 = true) : (ix_RR 20 i.toNatClampNeg).isSome = true ∧ Nat.blt (ix_row 20 i) 44 = true ∧ Nat.beq (ix_TG (ix_row 20 i)) 14 = true ∧ ix_LN (ix_row 20 i) = 7 ∧ ix_row 20 i = 21 + i.toNatClampNeg := (by decide : ∀ j, j < 7 → (ix_RR 20 j).isSome = true ∧ Nat.blt ((ix_RR 20 j).getD 0) 44 = true ∧ Nat.beq (ix_TG ((ix_RR 20 j).getD 0)) 14 = true ∧ ix_LN ((ix_RR 20 j).getD 0) = 7 ∧ (ix_RR 20 j).getD 0 = 21 + j) _ (ix_inb_lt h)
theorem rw_28y {i : Int32} (h : ix_inb i 7 = true) : (ix_RR 28 i.toNatClampNeg).isSome = true ∧ Nat.blt (ix_row 28 i) 44 = true ∧ Nat.beq (ix_TG (ix_row 28 i)) 14 = true ∧ ix_LN (ix_row 28 i) = 7 ∧ ix_row 28 i = 29 + i.toNatClampNeg := (by decide : ∀ j, j < 7 → (ix_RR 28 j).isSome = true ∧ Nat.blt ((ix_RR 28 j).getD 0) 44 = true ∧ Nat.beq (ix_TG ((ix_RR 28 j).getD 0)) 14 = true ∧ ix_LN ((ix_RR 28 j).getD 0) = 7 ∧ (ix_RR 28 j).getD 0 = 29 + j) _ (ix_inb_lt h)
set_option maxRecDepth 20000 in
theorem tp_J9_min_7cf53y {d : Nat} {a0 : Int32} {a1 : Int32} {I : Nat → Nat → Int32} {J : Nat → Nat → Int64} {T : Option Nat} {P : Int32 → (Nat → Nat → Int32) → (Nat → Nat → Int64) → Option Nat → Prop} {Q : ix_Q} (h : wp_J9_min_7cf53 a0 a1 I J T P) (hQ : ∀ v I J T, P v I J T → Q (some (.inl v)) (ix_mq I J T)) : ix_C (d + 1) 344 [.inl (a0), .inl (a1)] (ix_mq I J T) Q := by
  unfold wp_J9_min_7cf53 at h
  refine ix_enter (ls := [some (.inl (a0)), some (.inl (a1))]) rfl rfl rfl (Nat.le_of_ble_eq_true rfl) ?_
  refine ix_go 3 (x' := (if a0 ≤ a1 then 5 else 9, [some (.inl (a0)), some (.inl (a1))], [], 0, 0, ix_mq I J T)) rfl trivial ?_
  refine ix_br (fun c1 => ?_) (fun c1 => ?_)
  · have h2 := h.1 c1
    refine ix_go 2 (x' := (10, [some (.inl (a0)), some (.inl (a1))], [.inl (a0)], 0, 0, ix_mq I J T)) rfl trivial ?_
    exact ix_sp rfl ⟨Nat.le_refl _, Nat.le_refl _, trivial, hQ _ _ _ _ h2⟩
  · have h2 := h.2 c1
    refine ix_go 1 (x' := (10, [some (.inl (a0)), some (.inl (a1))], [.inl (a1)], 0, 0, ix_mq I J T)) rfl trivial ?_
    exact ix_sp rfl ⟨Nat.le_refl _, Nat.le_refl _, trivial, hQ _ _ _ _ h2⟩
set_option maxRecDepth 20000 in
theorem tl_X5_findCarriages_10_2y {d : Nat} {x1 : Int32} {x2 : Int32} {I : Nat → Nat → Int32} {J : Nat → Nat → Int64} {T : Option Nat} {V2 : Int32 → (Nat → Nat → Int32) → (Nat → Nat → Int64) → Option Nat → Prop} {P : (Nat → Nat → Int32) → (Nat → Nat → Int64) → Option Nat → Prop} {Q : ix_Q} (h : wl_X5_findCarriages_10_2 x1 x2 I J T V2 P) (hV2 : ∀ (x1 : Int32) I J T, V2 x1 I J T → ix_W (ix_C d) (5, ix_lk ix_l67, none, 0, 0, Nat.blt 0 0, none) Q (2, [some (.inr (.inr (.inl (some (8))))), some (.inl (x1)), none, none, none], [], 0, 0, ix_mq I J T)) (hQ : ∀ I J T, P I J T → Q none (ix_mq I J T)) : ix_W (ix_C d) (5, ix_lk ix_l67, none, 0, 0, Nat.blt 0 0, none) Q (10, [some (.inr (.inr (.inl (some (8))))), some (.inl (x1)), some (.inl (x2)), none, none], [], 0, 0, ix_mq I J T) := by
  refine h (fun x1 x2 I J T => ix_W (ix_C d) (5, ix_lk ix_l67, none, 0, 0, Nat.blt 0 0, none) Q (10, [some (.inr (.inr (.inl (some (8))))), some (.inl (x1)), some (.inl (x2)), none, none], [], 0, 0, ix_mq I J T)) ?_
  intro x1 x2 I J T hb
  unfold wb_X5_findCarriages_10_2 at hb
  refine ix_go 3 (x' := (if x2 < (7 : Int32) then 16 else 65, [some (.inr (.inr (.inl (some (8))))), some (.inl (x1)), some (.inl (x2)), none, none], [], 0, 0, ix_mq I J T)) rfl trivial ?_
  refine ix_br (fun c3 => ?_) (fun c3 => ?_)
  · have h4 := hb.1 c3
    obtain ⟨p5, h6⟩ := h4
    obtain ⟨p7, h8⟩ := h6
    refine ix_go 7 (x' := (if I (ix_row 12 (x1)) (x2).toNatClampNeg ≤ 0 then 38 else 27, [some (.inr (.inr (.inl (some (8))))), some (.inl (x1)), some (.inl (x2)), none, none], [], 0, 0, ix_mq I J T)) rfl ⟨rfl, rfl, rfl, rfl, rfl, p5, (rw_12y p5).1, (rw_12y p5).2.1, (rw_12y p5).2.2.1, (ix_inbL (rw_12y p5).2.2.2.1 p7)⟩ ?_
    refine ix_br (fun c9 => ?_) (fun c9 => ?_)
    · have h10 := h8.1 c9
      obtain ⟨p11, h12⟩ := h10
      refine ix_go 10 (x' := (if x1 = x2 then 53 else 57, [some (.inr (.inr (.inl (some (8))))), some (.inl (x1)), some (.inl (x2)), some (.inl ((1000000 : Int32))), none], [.inl (x2), .inr (.inr (.inl (some (ix_row 28 (x1)))))], 0, 0, ix_mq I J T)) rfl ⟨rfl, rfl, rfl, rfl, rfl, p11, (rw_28y p11).1⟩ ?_
      refine ix_br (fun c13 => ?_) (fun c13 => ?_)
      · have h14 := h12.1 c13
        obtain ⟨p15, h16⟩ := h14
        refine ix_go 5 (x' := (10, [some (.inr (.inr (.inl (some (8))))), some (.inl (x1)), some (.inl (x2 + (1 : Int32))), some (.inl ((1000000 : Int32))), none], [], 0, 0, ix_mq (ix_u2 I (ix_row 28 (x1)) (x2).toNatClampNeg ((0 : Int32))) J T)) rfl ⟨(rw_28y p11).2.1, (rw_28y p11).2.2.1, (ix_inbL (rw_28y p11).2.2.2.1 p15)⟩ ?_
        refine ix_subW ([some (.inr (.inr (.inl (some (8))))), some (.inl (x1)), some (.inl (x2 + (1 : Int32))), none, none]) (ix_subS (ix_subS (ix_subS (ix_subN (ix_subS (ix_sub0)))))) ?_
        exact h16
      · have h14 := h12.2 c13
        obtain ⟨p17, h18⟩ := h14
        refine ix_go 4 (x' := (10, [some (.inr (.inr (.inl (some (8))))), some (.inl (x1)), some (.inl (x2 + (1 : Int32))), some (.inl ((1000000 : Int32))), none], [], 0, 0, ix_mq (ix_u2 I (ix_row 28 (x1)) (x2).toNatClampNeg ((1000000 : Int32))) J T)) rfl ⟨(rw_28y p11).2.1, (rw_28y p11).2.2.1, (ix_inbL (rw_28y p11).2.2.2.1 p17)⟩ ?_
        refine ix_subW ([some (.inr (.inr (.inl (some (8))))), some (.inl (x1)), some (.inl (x2 + (1 : Int32))), none, none]) (ix_subS (ix_subS (ix_subS (ix_subN (ix_subS (ix_sub0)))))) ?_
        exact h18
    · have h10 := h8.2 c9
      obtain ⟨p19, h20⟩ := h10
      obtain ⟨p21, h22⟩ := h20
      obtain ⟨p23, h24⟩ := h22
      refine ix_go 16 (x' := (if x1 = x2 then 53 else 57, [some (.inr (.inr (.inl (some (8))))), some (.inl (x1)), some (.inl (x2)), some (.inl (I (ix_row 20 (x1)) (x2).toNatClampNeg)), none], [.inl (x2), .inr (.inr (.inl (some (ix_row 28 (x1)))))], 0, 0, ix_mq I J T)) rfl ⟨rfl, rfl, rfl, rfl, rfl, p19, (rw_20y p19).1, (rw_20y p19).2.1, (rw_20y p19).2.2.1, (ix_inbL (rw_20y p19).2.2.2.1 p21), rfl, rfl, rfl, rfl, rfl, p23, (rw_28y p23).1⟩ ?_
      refine ix_br (fun c25 => ?_) (fun c25 => ?_)
      · have h26 := h24.1 c25
        obtain ⟨p27, h28⟩ := h26
        refine ix_go 5 (x' := (10, [some (.inr (.inr (.inl (some (8))))), some (.inl (x1)), some (.inl (x2 + (1 : Int32))), some (.inl (I (ix_row 20 (x1)) (x2).toNatClampNeg)), none], [], 0, 0, ix_mq (ix_u2 I (ix_row 28 (x1)) (x2).toNatClampNeg ((0 : Int32))) J T)) rfl ⟨(rw_28y p23).2.1, (rw_28y p23).2.2.1, (ix_inbL (rw_28y p23).2.2.2.1 p27)⟩ ?_
        refine ix_subW ([some (.inr (.inr (.inl (some (8))))), some (.inl (x1)), some (.inl (x2 + (1 : Int32))), none, none]) (ix_subS (ix_subS (ix_subS (ix_subN (ix_subS (ix_sub0)))))) ?_
        exact h28
      · have h26 := h24.2 c25
        obtain ⟨p29, h30⟩ := h26
        refine ix_go 4 (x' := (10, [some (.inr (.inr (.inl (some (8))))), some (.inl (x1)), some (.inl (x2 + (1 : Int32))), some (.inl (I (ix_row 20 (x1)) (x2).toNatClampNeg)), none], [], 0, 0, ix_mq (ix_u2 I (ix_row 28 (x1)) (x2).toNatClampNeg (I (ix_row 20 (x1)) (x2).toNatClampNeg)) J T)) rfl ⟨(rw_28y p23).2.1, (rw_28y p23).2.2.1, (ix_inbL (rw_28y p23).2.2.2.1 p29)⟩ ?_
        refine ix_subW ([some (.inr (.inr (.inl (some (8))))), some (.inl (x1)), some (.inl (x2 + (1 : Int32))), none, none]) (ix_subS (ix_subS (ix_subS (ix_subN (ix_subS (ix_sub0)))))) ?_
        exact h30
  · have h4 := hb.2 c3
    refine ix_go 2 (x' := (2, [some (.inr (.inr (.inl (some (8))))), some (.inl (x1 + (1 : Int32))), some (.inl (x2)), none, none], [], 0, 0, ix_mq I J T)) rfl trivial ?_
    refine ix_subW ([some (.inr (.inr (.inl (some (8))))), some (.inl (x1 + (1 : Int32))), none, none, none]) (ix_subS (ix_subS (ix_subN (ix_subS (ix_subS (ix_sub0)))))) ?_
    exact hV2 _ _ _ _ h4
set_option maxRecDepth 20000 in
theorem tl_X5_findCarriages_89_2_73_81y {d : Nat} {x1 : Int32} {x2 : Int32} {x3 : Int32} {I : Nat → Nat → Int32} {J : Nat → Nat → Int64} {T : Option Nat} {V2 : Int32 → (Nat → Nat → Int32) → (Nat → Nat → Int64) → Option Nat → Prop} {V73 : Int32 → (Nat → Nat → Int32) → (Nat → Nat → Int64) → Option Nat → Prop} {V81 : Int32 → Int32 → (Nat → Nat → Int32) → (Nat → Nat → Int64) → Option Nat → Prop} {P : (Nat → Nat → Int32) → (Nat → Nat → Int64) → Option Nat → Prop} {Q : ix_Q} (h : wl_X5_findCarriages_89_2_73_81 x1 x2 x3 I J T V2 V73 V81 P) (hV2 : ∀ (x1 : Int32) I J T, V2 x1 I J T → ix_W (ix_C (d + 1)) (5, ix_lk ix_l67, none, 0, 0, Nat.blt 0 0, none) Q (2, [some (.inr (.inr (.inl (some (8))))), some (.inl (x1)), none, none, none], [], 0, 0, ix_mq I J T)) (hV73 : ∀ (x1 : Int32) I J T, V73 x1 I J T → ix_W (ix_C (d + 1)) (5, ix_lk ix_l67, none, 0, 0, Nat.blt 0 0, none) Q (73, [some (.inr (.inr (.inl (some (8))))), some (.inl (x1)), none, none, none], [], 0, 0, ix_mq I J T)) (hV81 : ∀ (x1 : Int32) (x2 : Int32) I J T, V81 x1 x2 I J T → ix_W (ix_C (d + 1)) (5, ix_lk ix_l67, none, 0, 0, Nat.blt 0 0, none) Q (81, [some (.inr (.inr (.inl (some (8))))), some (.inl (x1)), some (.inl (x2)), none, none], [], 0, 0, ix_mq I J T)) (hQ : ∀ I J T, P I J T → Q none (ix_mq I J T)) : ix_W (ix_C (d + 1)) (5, ix_lk ix_l67, none, 0, 0, Nat.blt 0 0, none) Q (89, [some (.inr (.inr (.inl (some (8))))), some (.inl (x1)), some (.inl (x2)), some (.inl (x3)), none], [], 0, 0, ix_mq I J T) := by
  refine h (fun x1 x2 x3 I J T => ix_W (ix_C (d + 1)) (5, ix_lk ix_l67, none, 0, 0, Nat.blt 0 0, none) Q (89, [some (.inr (.inr (.inl (some (8))))), some (.inl (x1)), some (.inl (x2)), some (.inl (x3)), none], [], 0, 0, ix_mq I J T)) ?_
  intro x1 x2 x3 I J T hb
  unfold wb_X5_findCarriages_89_2_73_81 at hb
  refine ix_go 3 (x' := (if x3 < (7 : Int32) then 95 else 141, [some (.inr (.inr (.inl (some (8))))), some (.inl (x1)), some (.inl (x2)), some (.inl (x3)), none], [], 0, 0, ix_mq I J T)) rfl trivial ?_
  refine ix_br (fun c35 => ?_) (fun c35 => ?_)
  · have h36 := hb.1 c35
    obtain ⟨p37, h38⟩ := h36
    obtain ⟨p39, h40⟩ := h38
    obtain ⟨p41, h42⟩ := h40
    obtain ⟨p43, h44⟩ := h42
    obtain ⟨p45, h46⟩ := h44
    obtain ⟨p47, h48⟩ := h46
    obtain ⟨p49, h50⟩ := h48
    refine ix_go 26 (x' := (131, [some (.inr (.inr (.inl (some (8))))), some (.inl (x1)), some (.inl (x2)), some (.inl (x3)), some (.inl ((I (ix_row 28 (x2)) (x1).toNatClampNeg) + (I (ix_row 28 (x1)) (x3).toNatClampNeg)))], [.inl ((I (ix_row 28 (x2)) (x1).toNatClampNeg) + (I (ix_row 28 (x1)) (x3).toNatClampNeg)), .inl (I (ix_row 28 (x2)) (x3).toNatClampNeg), .inl (x3), .inr (.inr (.inl (some (ix_row 28 (x2)))))], 0, 0, ix_mq I J T)) rfl ⟨rfl, rfl, rfl, rfl, rfl, p37, (rw_28y p37).1, (rw_28y p37).2.1, (rw_28y p37).2.2.1, (ix_inbL (rw_28y p37).2.2.2.1 p39), rfl, rfl, rfl, rfl, rfl, p41, (rw_28y p41).1, (rw_28y p41).2.1, (rw_28y p41).2.2.1, (ix_inbL (rw_28y p41).2.2.2.1 p43), rfl, rfl, rfl, rfl, rfl, p45, (rw_28y p45).1, rfl, rfl, rfl, rfl, rfl, p47, (rw_28y p47).1, (rw_28y p47).2.1, (rw_28y p47).2.2.1, (ix_inbL (rw_28y p47).2.2.2.1 p49)⟩ ?_
    refine ix_sp rfl ⟨rfl, trivial, ix_le rfl, Nat.le_refl _, Nat.le_refl _, tp_J9_min_7cf53y h50 (fun v51 I51 J51 T51 h51 => ?_)⟩
    change ix_W _ _ _ (134, [some (.inr (.inr (.inl (some (8))))), some (.inl (x1)), some (.inl (x2)), some (.inl (x3)), some (.inl ((I (ix_row 28 (x2)) (x1).toNatClampNeg) + (I (ix_row 28 (x1)) (x3).toNatClampNeg)))], [.inl (v51), .inl (x3), .inr (.inr (.inl (some (ix_row 28 (x2)))))], 0, 0, ix_mq I51 J51 T51)
    obtain ⟨p52, h53⟩ := h51
    refine ix_go 3 (x' := (89, [some (.inr (.inr (.inl (some (8))))), some (.inl (x1)), some (.inl (x2)), some (.inl (x3 + (1 : Int32))), some (.inl ((I (ix_row 28 (x2)) (x1).toNatClampNeg) + (I (ix_row 28 (x1)) (x3).toNatClampNeg)))], [], 0, 0, ix_mq (ix_u2 I51 (ix_row 28 (x2)) (x3).toNatClampNeg (v51)) J51 T51)) rfl ⟨(rw_28y p47).2.1, (rw_28y p47).2.2.1, (ix_inbL (rw_28y p47).2.2.2.1 p52)⟩ ?_
    refine ix_subW ([some (.inr (.inr (.inl (some (8))))), some (.inl (x1)), some (.inl (x2)), some (.inl (x3 + (1 : Int32))), none]) (ix_subS (ix_subS (ix_subS (ix_subS (ix_subN (ix_sub0)))))) ?_
    exact h53
  · have h36 := hb.2 c35
    refine ix_go 2 (x' := (81, [some (.inr (.inr (.inl (some (8))))), some (.inl (x1)), some (.inl (x2 + (1 : Int32))), some (.inl (x3)), none], [], 0, 0, ix_mq I J T)) rfl trivial ?_
    refine ix_subW ([some (.inr (.inr (.inl (some (8))))), some (.inl (x1)), some (.inl (x2 + (1 : Int32))), none, none]) (ix_subS (ix_subS (ix_subS (ix_subN (ix_subS (ix_sub0)))))) ?_
    exact hV81 _ _ _ _ _ h36
set_option maxRecDepth 20000 in
theorem tl_X5_findCarriages_81_2_73y {d : Nat} {x1 : Int32} {x2 : Int32} {I : Nat → Nat → Int32} {J : Nat → Nat → Int64} {T : Option Nat} {V2 : Int32 → (Nat → Nat → Int32) → (Nat → Nat → Int64) → Option Nat → Prop} {V73 : Int32 → (Nat → Nat → Int32) → (Nat → Nat → Int64) → Option Nat → Prop} {P : (Nat → Nat → Int32) → (Nat → Nat → Int64) → Option Nat → Prop} {Q : ix_Q} (h : wl_X5_findCarriages_81_2_73 x1 x2 I J T V2 V73 P) (hV2 : ∀ (x1 : Int32) I J T, V2 x1 I J T → ix_W (ix_C (d + 1)) (5, ix_lk ix_l67, none, 0, 0, Nat.blt 0 0, none) Q (2, [some (.inr (.inr (.inl (some (8))))), some (.inl (x1)), none, none, none], [], 0, 0, ix_mq I J T)) (hV73 : ∀ (x1 : Int32) I J T, V73 x1 I J T → ix_W (ix_C (d + 1)) (5, ix_lk ix_l67, none, 0, 0, Nat.blt 0 0, none) Q (73, [some (.inr (.inr (.inl (some (8))))), some (.inl (x1)), none, none, none], [], 0, 0, ix_mq I J T)) (hQ : ∀ I J T, P I J T → Q none (ix_mq I J T)) : ix_W (ix_C (d + 1)) (5, ix_lk ix_l67, none, 0, 0, Nat.blt 0 0, none) Q (81, [some (.inr (.inr (.inl (some (8))))), some (.inl (x1)), some (.inl (x2)), none, none], [], 0, 0, ix_mq I J T) := by
  refine h (fun x1 x2 I J T => ix_W (ix_C (d + 1)) (5, ix_lk ix_l67, none, 0, 0, Nat.blt 0 0, none) Q (81, [some (.inr (.inr (.inl (some (8))))), some (.inl (x1)), some (.inl (x2)), none, none], [], 0, 0, ix_mq I J T)) ?_
  intro x1 x2 I J T hb
  unfold wb_X5_findCarriages_81_2_73 at hb
  refine ix_go 3 (x' := (if x2 < (7 : Int32) then 87 else 147, [some (.inr (.inr (.inl (some (8))))), some (.inl (x1)), some (.inl (x2)), none, none], [], 0, 0, ix_mq I J T)) rfl trivial ?_
  refine ix_br (fun c33 => ?_) (fun c33 => ?_)
  · have h34 := hb.1 c33
    refine ix_go 2 (x' := (89, [some (.inr (.inr (.inl (some (8))))), some (.inl (x1)), some (.inl (x2)), some (.inl ((0 : Int32))), none], [], 0, 0, ix_mq I J T)) rfl trivial ?_
    refine ix_subW ([some (.inr (.inr (.inl (some (8))))), some (.inl (x1)), some (.inl (x2)), some (.inl ((0 : Int32))), none]) (ix_subS (ix_subS (ix_subS (ix_subS (ix_subS (ix_sub0)))))) ?_
    exact tl_X5_findCarriages_89_2_73_81y h34 hV2 hV73 (fun _ _ I J T hv => hv) hQ
  · have h34 := hb.2 c33
    refine ix_go 2 (x' := (73, [some (.inr (.inr (.inl (some (8))))), some (.inl (x1 + (1 : Int32))), some (.inl (x2)), none, none], [], 0, 0, ix_mq I J T)) rfl trivial ?_
    refine ix_subW ([some (.inr (.inr (.inl (some (8))))), some (.inl (x1 + (1 : Int32))), none, none, none]) (ix_subS (ix_subS (ix_subN (ix_subS (ix_subS (ix_sub0)))))) ?_
    exact hV73 _ _ _ _ h34
set_option maxRecDepth 20000 in
theorem tl_X5_findCarriages_73_2y {d : Nat} {x1 : Int32} {I : Nat → Nat → Int32} {J : Nat → Nat → Int64} {T : Option Nat} {V2 : Int32 → (Nat → Nat → Int32) → (Nat → Nat → Int64) → Option Nat → Prop} {P : (Nat → Nat → Int32) → (Nat → Nat → Int64) → Option Nat → Prop} {Q : ix_Q} (h : wl_X5_findCarriages_73_2 x1 I J T V2 P) (hV2 : ∀ (x1 : Int32) I J T, V2 x1 I J T → ix_W (ix_C (d + 1)) (5, ix_lk ix_l67, none, 0, 0, Nat.blt 0 0, none) Q (2, [some (.inr (.inr (.inl (some (8))))), some (.inl (x1)), none, none, none], [], 0, 0, ix_mq I J T)) (hQ : ∀ I J T, P I J T → Q none (ix_mq I J T)) : ix_W (ix_C (d + 1)) (5, ix_lk ix_l67, none, 0, 0, Nat.blt 0 0, none) Q (73, [some (.inr (.inr (.inl (some (8))))), some (.inl (x1)), none, none, none], [], 0, 0, ix_mq I J T) := by
  refine h (fun x1 I J T => ix_W (ix_C (d + 1)) (5, ix_lk ix_l67, none, 0, 0, Nat.blt 0 0, none) Q (73, [some (.inr (.inr (.inl (some (8))))), some (.inl (x1)), none, none, none], [], 0, 0, ix_mq I J T)) ?_
  intro x1 I J T hb
  unfold wb_X5_findCarriages_73_2 at hb
  refine ix_go 3 (x' := (if x1 < (7 : Int32) then 79 else 153, [some (.inr (.inr (.inl (some (8))))), some (.inl (x1)), none, none, none], [], 0, 0, ix_mq I J T)) rfl trivial ?_
  refine ix_br (fun c31 => ?_) (fun c31 => ?_)
  · have h32 := hb.1 c31
    refine ix_go 2 (x' := (81, [some (.inr (.inr (.inl (some (8))))), some (.inl (x1)), some (.inl ((0 : Int32))), none, none], [], 0, 0, ix_mq I J T)) rfl trivial ?_
    refine ix_subW ([some (.inr (.inr (.inl (some (8))))), some (.inl (x1)), some (.inl ((0 : Int32))), none, none]) (ix_subS (ix_subS (ix_subS (ix_subS (ix_subS (ix_sub0)))))) ?_
    exact tl_X5_findCarriages_81_2_73y h32 hV2 (fun _ I J T hv => hv) hQ
  · have h32 := hb.2 c31
    exact ix_sp rfl ⟨Nat.le_refl _, Nat.le_refl _, rfl, hQ _ _ _ h32⟩
set_option maxRecDepth 20000 in
theorem tl_X5_findCarriages_2y {d : Nat} {x1 : Int32} {I : Nat → Nat → Int32} {J : Nat → Nat → Int64} {T : Option Nat} {P : (Nat → Nat → Int32) → (Nat → Nat → Int64) → Option Nat → Prop} {Q : ix_Q} (h : wl_X5_findCarriages_2 x1 I J T P) (hQ : ∀ I J T, P I J T → Q none (ix_mq I J T)) : ix_W (ix_C (d + 1)) (5, ix_lk ix_l67, none, 0, 0, Nat.blt 0 0, none) Q (2, [some (.inr (.inr (.inl (some (8))))), some (.inl (x1)), none, none, none], [], 0, 0, ix_mq I J T) := by
  refine h (fun x1 I J T => ix_W (ix_C (d + 1)) (5, ix_lk ix_l67, none, 0, 0, Nat.blt 0 0, none) Q (2, [some (.inr (.inr (.inl (some (8))))), some (.inl (x1)), none, none, none], [], 0, 0, ix_mq I J T)) ?_
  intro x1 I J T hb
  unfold wb_X5_findCarriages_2 at hb
  refine ix_go 3 (x' := (if x1 < (7 : Int32) then 8 else 71, [some (.inr (.inr (.inl (some (8))))), some (.inl (x1)), none, none, none], [], 0, 0, ix_mq I J T)) rfl trivial ?_
  refine ix_br (fun c1 => ?_) (fun c1 => ?_)
  · have h2 := hb.1 c1
    refine ix_go 2 (x' := (10, [some (.inr (.inr (.inl (some (8))))), some (.inl (x1)), some (.inl ((0 : Int32))), none, none], [], 0, 0, ix_mq I J T)) rfl trivial ?_
    refine ix_subW ([some (.inr (.inr (.inl (some (8))))), some (.inl (x1)), some (.inl ((0 : Int32))), none, none]) (ix_subS (ix_subS (ix_subS (ix_subS (ix_subS (ix_sub0)))))) ?_
    exact tl_X5_findCarriages_10_2y h2 (fun _ I J T hv => hv) hQ
  · have h2 := hb.2 c1
    refine ix_go 2 (x' := (73, [some (.inr (.inr (.inl (some (8))))), some (.inl ((0 : Int32))), none, none, none], [], 0, 0, ix_mq I J T)) rfl trivial ?_
    refine ix_subW ([some (.inr (.inr (.inl (some (8))))), some (.inl ((0 : Int32))), none, none, none]) (ix_subS (ix_subS (ix_subS (ix_subS (ix_subS (ix_sub0)))))) ?_
    exact tl_X5_findCarriages_73_2y h2 (fun _ I J T hv => hv) hQ
set_option maxRecDepth 20000 in
theorem tp_X5_findCarriagesy {d : Nat} {I : Nat → Nat → Int32} {J : Nat → Nat → Int64} {T : Option Nat} {P : (Nat → Nat → Int32) → (Nat → Nat → Int64) → Option Nat → Prop} {Q : ix_Q} (h : wp_X5_findCarriages I J T P) (hQ : ∀ I J T, P I J T → Q none (ix_mq I J T)) : ix_C (d + 2) 67 [.inr (.inr (.inl (some (8))))] (ix_mq I J T) Q := by
  unfold wp_X5_findCarriages at h
  refine ix_enter (ls := [some (.inr (.inr (.inl (some (8))))), none, none, none, none]) rfl rfl rfl (Nat.le_of_ble_eq_true rfl) ?_
  refine ix_go 2 (x' := (2, [some (.inr (.inr (.inl (some (8))))), some (.inl ((0 : Int32))), none, none, none], [], 0, 0, ix_mq I J T)) rfl trivial ?_
  refine ix_subW ([some (.inr (.inr (.inl (some (8))))), some (.inl ((0 : Int32))), none, none, none]) (ix_subS (ix_subS (ix_subS (ix_subS (ix_subS (ix_sub0)))))) ?_
  exact tl_X5_findCarriages_2y h hQ

