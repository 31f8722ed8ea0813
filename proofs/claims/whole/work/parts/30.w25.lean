def wb_X5_isWay_r3_5_c3 (x2 : Int32) (x3 : Int32) (x4 : Int32) (I : Nat → Nat → Int32) (J : Nat → Nat → Int64) (T : Option Nat) (V5 : Int32 → Int32 → Int32 → (Nat → Nat → Int32) → (Nat → Nat → Int64) → Option Nat → Prop) (P : Int32 → (Nat → Nat → Int32) → (Nat → Nat → Int64) → Option Nat → Prop) : Prop := ((x4 < x2 → ((x4 < (60 : Int32) → ix_inb (x4) 60 = true ∧ ((((x3) >>> (((J 3 (x4).toNatClampNeg).toInt32) &&& 31)) &&& ((1 : Int32)) = 0 → ((x4 ≤ 0 → V5 (x2) ((x3) ||| (((1 : Int32)) <<< (((J 3 (x4).toNatClampNeg).toInt32) &&& 31))) (x4 + (1 : Int32)) I J T) ∧ (¬ (x4 ≤ 0) → ix_inb ((x4) - ((1 : Int32))) 60 = true ∧ wp_X5_hasRoad ((J 3 ((x4) - ((1 : Int32))).toNatClampNeg).toInt32) ((J 3 (x4).toNatClampNeg).toInt32) I J T (fun v13 I13 J13 T13 => ((v13 = 0 → P ((0 : Int32)) I13 J13 T13) ∧ (¬ (v13 = 0) → V5 (x2) ((x3) ||| (((1 : Int32)) <<< (((J 3 (x4).toNatClampNeg).toInt32) &&& 31))) (x4 + (1 : Int32)) I13 J13 T13)))))) ∧ (¬ (((x3) >>> (((J 3 (x4).toNatClampNeg).toInt32) &&& 31)) &&& ((1 : Int32)) = 0) → P ((0 : Int32)) I J T))) ∧ (¬ (x4 < (60 : Int32)) → P ((1 : Int32)) I J T))) ∧ (¬ (x4 < x2) → P ((1 : Int32)) I J T))
def wl_X5_isWay_r3_5_c3 (x2 : Int32) (x3 : Int32) (x4 : Int32) (I : Nat → Nat → Int32) (J : Nat → Nat → Int64) (T : Option Nat) (P : Int32 → (Nat → Nat → Int32) → (Nat → Nat → Int64) → Option Nat → Prop) : Prop := ∀ V : Int32 → Int32 → Int32 → (Nat → Nat → Int32) → (Nat → Nat → Int64) → Option Nat → Prop, (∀ (x2 : Int32) (x3 : Int32) (x4 : Int32) (I : Nat → Nat → Int32) (J : Nat → Nat → Int64) (T : Option Nat), wb_X5_isWay_r3_5_c3 x2 x3 x4 I J T V P → V x2 x3 x4 I J T) → V x2 x3 x4 I J T
set_option maxRecDepth 20000 in
theorem tl_X5_isWay_r3_5_c3 {d : Nat} {x2 : Int32} {x3 : Int32} {x4 : Int32} {I : Nat → Nat → Int32} {J : Nat → Nat → Int64} {T : Option Nat} {P : Int32 → (Nat → Nat → Int32) → (Nat → Nat → Int64) → Option Nat → Prop} {Q : ix_Q} (h : wl_X5_isWay_r3_5_c3 x2 x3 x4 I J T P) (hQ : ∀ v I J T, P v I J T → Q (some (.inl v)) (ix_mem 276 I J T)) : ix_W (ix_C (d + 1)) (5, ix_lk ix_l79, (some .boolean), 0, 0, Nat.blt 0 0, none) Q (5, [some (.inr (.inr (.inl (some (8))))), some (.inr (.inr (.inl (some (3))))), some (.inl (x2)), some (.inl (x3)), some (.inl (x4)), none], [], 0, 0, ix_mem 276 I J T) := by
  refine h (fun x2 x3 x4 I J T => ix_W (ix_C (d + 1)) (5, ix_lk ix_l79, (some .boolean), 0, 0, Nat.blt 0 0, none) Q (5, [some (.inr (.inr (.inl (some (8))))), some (.inr (.inr (.inl (some (3))))), some (.inl (x2)), some (.inl (x3)), some (.inl (x4)), none], [], 0, 0, ix_mem 276 I J T)) ?_
  intro x2 x3 x4 I J T hb
  unfold wb_X5_isWay_r3_5_c3 at hb
  refine ix_go 3 (x' := (if x4 < x2 then 11 else 70, [some (.inr (.inr (.inl (some (8))))), some (.inr (.inr (.inl (some (3))))), some (.inl (x2)), some (.inl (x3)), some (.inl (x4)), none], [], 0, 0, ix_mem 276 I J T)) rfl trivial ?_
  refine ix_br (fun c1 => ?_) (fun c1 => ?_)
  · have h2 := hb.1 c1
    refine ix_go 4 (x' := (if x4 < (60 : Int32) then 18 else 70, [some (.inr (.inr (.inl (some (8))))), some (.inr (.inr (.inl (some (3))))), some (.inl (x2)), some (.inl (x3)), some (.inl (x4)), none], [], 0, 0, ix_mem 276 I J T)) rfl ⟨rfl, rfl, rfl⟩ ?_
    refine ix_br (fun c3 => ?_) (fun c3 => ?_)
    · have h4 := h2.1 c3
      obtain ⟨p5, h6⟩ := h4
      refine ix_go 7 (x' := (28, [some (.inr (.inr (.inl (some (8))))), some (.inr (.inr (.inl (some (3))))), some (.inl (x2)), some (.inl (x3)), some (.inl (x4)), some (.inl ((J 3 (x4).toNatClampNeg).toInt32))], [.inl ((J 3 (x4).toNatClampNeg).toInt32), .inl (x3)], 0, 0, ix_mem 276 I J T)) rfl ⟨rfl, rfl, p5⟩ ?_
      refine ix_go 4 (x' := (if ((x3) >>> (((J 3 (x4).toNatClampNeg).toInt32) &&& 31)) &&& ((1 : Int32)) = 0 then 34 else 55, [some (.inr (.inr (.inl (some (8))))), some (.inr (.inr (.inl (some (3))))), some (.inl (x2)), some (.inl (x3)), some (.inl (x4)), some (.inl ((J 3 (x4).toNatClampNeg).toInt32))], [], 0, 0, ix_mem 276 I J T)) rfl trivial ?_
      refine ix_br (fun c7 => ?_) (fun c7 => ?_)
      · have h8 := h6.1 c7
        refine ix_go 2 (x' := (if x4 ≤ 0 then 57 else 39, [some (.inr (.inr (.inl (some (8))))), some (.inr (.inr (.inl (some (3))))), some (.inl (x2)), some (.inl (x3)), some (.inl (x4)), some (.inl ((J 3 (x4).toNatClampNeg).toInt32))], [], 0, 0, ix_mem 276 I J T)) rfl trivial ?_
        refine ix_br (fun c9 => ?_) (fun c9 => ?_)
        · have h10 := h8.1 c9
          refine ix_go 7 (x' := (67, [some (.inr (.inr (.inl (some (8))))), some (.inr (.inr (.inl (some (3))))), some (.inl (x2)), some (.inl ((x3) ||| (((1 : Int32)) <<< (((J 3 (x4).toNatClampNeg).toInt32) &&& 31)))), some (.inl (x4 + (1 : Int32))), some (.inl ((J 3 (x4).toNatClampNeg).toInt32))], [], 0, 0, ix_mem 276 I J T)) rfl trivial ?_
          refine ix_go 1 (x' := (5, [some (.inr (.inr (.inl (some (8))))), some (.inr (.inr (.inl (some (3))))), some (.inl (x2)), some (.inl ((x3) ||| (((1 : Int32)) <<< (((J 3 (x4).toNatClampNeg).toInt32) &&& 31)))), some (.inl (x4 + (1 : Int32))), some (.inl ((J 3 (x4).toNatClampNeg).toInt32))], [], 0, 0, ix_mem 276 I J T)) rfl trivial ?_
          refine ix_subW ([some (.inr (.inr (.inl (some (8))))), some (.inr (.inr (.inl (some (3))))), some (.inl (x2)), some (.inl ((x3) ||| (((1 : Int32)) <<< (((J 3 (x4).toNatClampNeg).toInt32) &&& 31)))), some (.inl (x4 + (1 : Int32))), none]) (ix_subS (ix_subS (ix_subS (ix_subS (ix_subS (ix_subN (ix_sub0))))))) ?_
          exact h10
        · have h10 := h8.2 c9
          obtain ⟨p11, h12⟩ := h10
          refine ix_go 7 (x' := (47, [some (.inr (.inr (.inl (some (8))))), some (.inr (.inr (.inl (some (3))))), some (.inl (x2)), some (.inl (x3)), some (.inl (x4)), some (.inl ((J 3 (x4).toNatClampNeg).toInt32))], [.inl ((J 3 ((x4) - ((1 : Int32))).toNatClampNeg).toInt32), .inr (.inr (.inl (some (8))))], 0, 0, ix_mem 276 I J T)) rfl ⟨rfl, rfl, p11⟩ ?_
          refine ix_go 1 (x' := (49, [some (.inr (.inr (.inl (some (8))))), some (.inr (.inr (.inl (some (3))))), some (.inl (x2)), some (.inl (x3)), some (.inl (x4)), some (.inl ((J 3 (x4).toNatClampNeg).toInt32))], [.inl ((J 3 (x4).toNatClampNeg).toInt32), .inl ((J 3 ((x4) - ((1 : Int32))).toNatClampNeg).toInt32), .inr (.inr (.inl (some (8))))], 0, 0, ix_mem 276 I J T)) rfl trivial ?_
          refine ix_sp rfl ⟨rfl, ⟨ix_lt rfl, ix_eq rfl, ix_lt rfl⟩, ix_le rfl, Nat.le_refl _, Nat.le_refl _, tp_X5_hasRoad h12 (fun v13 I13 J13 T13 h13 => ?_)⟩
          change ix_W _ _ _ (52, [some (.inr (.inr (.inl (some (8))))), some (.inr (.inr (.inl (some (3))))), some (.inl (x2)), some (.inl (x3)), some (.inl (x4)), some (.inl ((J 3 (x4).toNatClampNeg).toInt32))], [.inl (v13)], 0, 0, ix_mem 276 I13 J13 T13)
          refine ix_go 1 (x' := (if v13 = 0 then 55 else 57, [some (.inr (.inr (.inl (some (8))))), some (.inr (.inr (.inl (some (3))))), some (.inl (x2)), some (.inl (x3)), some (.inl (x4)), some (.inl ((J 3 (x4).toNatClampNeg).toInt32))], [], 0, 0, ix_mem 276 I13 J13 T13)) rfl trivial ?_
          refine ix_br (fun c14 => ?_) (fun c14 => ?_)
          · have h15 := h13.1 c14
            refine ix_go 1 (x' := (56, [some (.inr (.inr (.inl (some (8))))), some (.inr (.inr (.inl (some (3))))), some (.inl (x2)), some (.inl (x3)), some (.inl (x4)), some (.inl ((J 3 (x4).toNatClampNeg).toInt32))], [.inl ((0 : Int32))], 0, 0, ix_mem 276 I13 J13 T13)) rfl trivial ?_
            exact ix_sp rfl ⟨Nat.le_refl _, Nat.le_refl _, ix_01_ok rfl, hQ _ _ _ _ h15⟩
          · have h15 := h13.2 c14
            refine ix_go 7 (x' := (67, [some (.inr (.inr (.inl (some (8))))), some (.inr (.inr (.inl (some (3))))), some (.inl (x2)), some (.inl ((x3) ||| (((1 : Int32)) <<< (((J 3 (x4).toNatClampNeg).toInt32) &&& 31)))), some (.inl (x4 + (1 : Int32))), some (.inl ((J 3 (x4).toNatClampNeg).toInt32))], [], 0, 0, ix_mem 276 I13 J13 T13)) rfl trivial ?_
            refine ix_go 1 (x' := (5, [some (.inr (.inr (.inl (some (8))))), some (.inr (.inr (.inl (some (3))))), some (.inl (x2)), some (.inl ((x3) ||| (((1 : Int32)) <<< (((J 3 (x4).toNatClampNeg).toInt32) &&& 31)))), some (.inl (x4 + (1 : Int32))), some (.inl ((J 3 (x4).toNatClampNeg).toInt32))], [], 0, 0, ix_mem 276 I13 J13 T13)) rfl trivial ?_
            refine ix_subW ([some (.inr (.inr (.inl (some (8))))), some (.inr (.inr (.inl (some (3))))), some (.inl (x2)), some (.inl ((x3) ||| (((1 : Int32)) <<< (((J 3 (x4).toNatClampNeg).toInt32) &&& 31)))), some (.inl (x4 + (1 : Int32))), none]) (ix_subS (ix_subS (ix_subS (ix_subS (ix_subS (ix_subN (ix_sub0))))))) ?_
            exact h15
      · have h8 := h6.2 c7
        refine ix_go 1 (x' := (56, [some (.inr (.inr (.inl (some (8))))), some (.inr (.inr (.inl (some (3))))), some (.inl (x2)), some (.inl (x3)), some (.inl (x4)), some (.inl ((J 3 (x4).toNatClampNeg).toInt32))], [.inl ((0 : Int32))], 0, 0, ix_mem 276 I J T)) rfl trivial ?_
        exact ix_sp rfl ⟨Nat.le_refl _, Nat.le_refl _, ix_01_ok rfl, hQ _ _ _ _ h8⟩
    · have h4 := h2.2 c3
      refine ix_go 1 (x' := (71, [some (.inr (.inr (.inl (some (8))))), some (.inr (.inr (.inl (some (3))))), some (.inl (x2)), some (.inl (x3)), some (.inl (x4)), none], [.inl ((1 : Int32))], 0, 0, ix_mem 276 I J T)) rfl trivial ?_
      exact ix_sp rfl ⟨Nat.le_refl _, Nat.le_refl _, ix_01_ok rfl, hQ _ _ _ _ h4⟩
  · have h2 := hb.2 c1
    refine ix_go 1 (x' := (71, [some (.inr (.inr (.inl (some (8))))), some (.inr (.inr (.inl (some (3))))), some (.inl (x2)), some (.inl (x3)), some (.inl (x4)), none], [.inl ((1 : Int32))], 0, 0, ix_mem 276 I J T)) rfl trivial ?_
    exact ix_sp rfl ⟨Nat.le_refl _, Nat.le_refl _, ix_01_ok rfl, hQ _ _ _ _ h2⟩
def wp_X5_isWay_r3 (a1 : Int32) (I : Nat → Nat → Int32) (J : Nat → Nat → Int64) (T : Option Nat) (P : Int32 → (Nat → Nat → Int32) → (Nat → Nat → Int64) → Option Nat → Prop) : Prop := wl_X5_isWay_r3_5_c3 (a1) ((0 : Int32)) ((0 : Int32)) I J T P
set_option maxRecDepth 20000 in
theorem tp_X5_isWay_r3 {d : Nat} {a1 : Int32} {I : Nat → Nat → Int32} {J : Nat → Nat → Int64} {T : Option Nat} {P : Int32 → (Nat → Nat → Int32) → (Nat → Nat → Int64) → Option Nat → Prop} {Q : ix_Q} (h : wp_X5_isWay_r3 a1 I J T P) (hQ : ∀ v I J T, P v I J T → Q (some (.inl v)) (ix_mem 276 I J T)) : ix_C (d + 2) 79 [.inr (.inr (.inl (some (8)))), .inr (.inr (.inl (some (3)))), .inl (a1)] (ix_mem 276 I J T) Q := by
  unfold wp_X5_isWay_r3 at h
  refine ix_enter (ls := [some (.inr (.inr (.inl (some (8))))), some (.inr (.inr (.inl (some (3))))), some (.inl (a1)), none, none, none]) rfl rfl rfl (Nat.le_of_ble_eq_true rfl) ?_
  refine ix_go 4 (x' := (5, [some (.inr (.inr (.inl (some (8))))), some (.inr (.inr (.inl (some (3))))), some (.inl (a1)), some (.inl ((0 : Int32))), some (.inl ((0 : Int32))), none], [], 0, 0, ix_mem 276 I J T)) rfl trivial ?_
  refine ix_subW ([some (.inr (.inr (.inl (some (8))))), some (.inr (.inr (.inl (some (3))))), some (.inl (a1)), some (.inl ((0 : Int32))), some (.inl ((0 : Int32))), none]) (ix_subS (ix_subS (ix_subS (ix_subS (ix_subS (ix_subS (ix_sub0))))))) ?_
  exact tl_X5_isWay_r3_5_c3 h hQ
def wb_X5_isWay_r4_5_c4 (x2 : Int32) (x3 : Int32) (x4 : Int32) (I : Nat → Nat → Int32) (J : Nat → Nat → Int64) (T : Option Nat) (V5 : Int32 → Int32 → Int32 → (Nat → Nat → Int32) → (Nat → Nat → Int64) → Option Nat → Prop) (P : Int32 → (Nat → Nat → Int32) → (Nat → Nat → Int64) → Option Nat → Prop) : Prop := ((x4 < x2 → ((x4 < (60 : Int32) → ix_inb (x4) 60 = true ∧ ((((x3) >>> (((J 4 (x4).toNatClampNeg).toInt32) &&& 31)) &&& ((1 : Int32)) = 0 → ((x4 ≤ 0 → V5 (x2) ((x3) ||| (((1 : Int32)) <<< (((J 4 (x4).toNatClampNeg).toInt32) &&& 31))) (x4 + (1 : Int32)) I J T) ∧ (¬ (x4 ≤ 0) → ix_inb ((x4) - ((1 : Int32))) 60 = true ∧ wp_X5_hasRoad ((J 4 ((x4) - ((1 : Int32))).toNatClampNeg).toInt32) ((J 4 (x4).toNatClampNeg).toInt32) I J T (fun v13 I13 J13 T13 => ((v13 = 0 → P ((0 : Int32)) I13 J13 T13) ∧ (¬ (v13 = 0) → V5 (x2) ((x3) ||| (((1 : Int32)) <<< (((J 4 (x4).toNatClampNeg).toInt32) &&& 31))) (x4 + (1 : Int32)) I13 J13 T13)))))) ∧ (¬ (((x3) >>> (((J 4 (x4).toNatClampNeg).toInt32) &&& 31)) &&& ((1 : Int32)) = 0) → P ((0 : Int32)) I J T))) ∧ (¬ (x4 < (60 : Int32)) → P ((1 : Int32)) I J T))) ∧ (¬ (x4 < x2) → P ((1 : Int32)) I J T))
def wl_X5_isWay_r4_5_c4 (x2 : Int32) (x3 : Int32) (x4 : Int32) (I : Nat → Nat → Int32) (J : Nat → Nat → Int64) (T : Option Nat) (P : Int32 → (Nat → Nat → Int32) → (Nat → Nat → Int64) → Option Nat → Prop) : Prop := ∀ V : Int32 → Int32 → Int32 → (Nat → Nat → Int32) → (Nat → Nat → Int64) → Option Nat → Prop, (∀ (x2 : Int32) (x3 : Int32) (x4 : Int32) (I : Nat → Nat → Int32) (J : Nat → Nat → Int64) (T : Option Nat), wb_X5_isWay_r4_5_c4 x2 x3 x4 I J T V P → V x2 x3 x4 I J T) → V x2 x3 x4 I J T
set_option maxRecDepth 20000 in
theorem tl_X5_isWay_r4_5_c4 {d : Nat} {x2 : Int32} {x3 : Int32} {x4 : Int32} {I : Nat → Nat → Int32} {J : Nat → Nat → Int64} {T : Option Nat} {P : Int32 → (Nat → Nat → Int32) → (Nat → Nat → Int64) → Option Nat → Prop} {Q : ix_Q} (h : wl_X5_isWay_r4_5_c4 x2 x3 x4 I J T P) (hQ : ∀ v I J T, P v I J T → Q (some (.inl v)) (ix_mem 276 I J T)) : ix_W (ix_C (d + 1)) (5, ix_lk ix_l79, (some .boolean), 0, 0, Nat.blt 0 0, none) Q (5, [some (.inr (.inr (.inl (some (8))))), some (.inr (.inr (.inl (some (4))))), some (.inl (x2)), some (.inl (x3)), some (.inl (x4)), none], [], 0, 0, ix_mem 276 I J T) := by
  refine h (fun x2 x3 x4 I J T => ix_W (ix_C (d + 1)) (5, ix_lk ix_l79, (some .boolean), 0, 0, Nat.blt 0 0, none) Q (5, [some (.inr (.inr (.inl (some (8))))), some (.inr (.inr (.inl (some (4))))), some (.inl (x2)), some (.inl (x3)), some (.inl (x4)), none], [], 0, 0, ix_mem 276 I J T)) ?_
  intro x2 x3 x4 I J T hb
  unfold wb_X5_isWay_r4_5_c4 at hb
  refine ix_go 3 (x' := (if x4 < x2 then 11 else 70, [some (.inr (.inr (.inl (some (8))))), some (.inr (.inr (.inl (some (4))))), some (.inl (x2)), some (.inl (x3)), some (.inl (x4)), none], [], 0, 0, ix_mem 276 I J T)) rfl trivial ?_
  refine ix_br (fun c1 => ?_) (fun c1 => ?_)
  · have h2 := hb.1 c1
    refine ix_go 4 (x' := (if x4 < (60 : Int32) then 18 else 70, [some (.inr (.inr (.inl (some (8))))), some (.inr (.inr (.inl (some (4))))), some (.inl (x2)), some (.inl (x3)), some (.inl (x4)), none], [], 0, 0, ix_mem 276 I J T)) rfl ⟨rfl, rfl, rfl⟩ ?_
    refine ix_br (fun c3 => ?_) (fun c3 => ?_)
    · have h4 := h2.1 c3
      obtain ⟨p5, h6⟩ := h4
      refine ix_go 7 (x' := (28, [some (.inr (.inr (.inl (some (8))))), some (.inr (.inr (.inl (some (4))))), some (.inl (x2)), some (.inl (x3)), some (.inl (x4)), some (.inl ((J 4 (x4).toNatClampNeg).toInt32))], [.inl ((J 4 (x4).toNatClampNeg).toInt32), .inl (x3)], 0, 0, ix_mem 276 I J T)) rfl ⟨rfl, rfl, p5⟩ ?_
      refine ix_go 4 (x' := (if ((x3) >>> (((J 4 (x4).toNatClampNeg).toInt32) &&& 31)) &&& ((1 : Int32)) = 0 then 34 else 55, [some (.inr (.inr (.inl (some (8))))), some (.inr (.inr (.inl (some (4))))), some (.inl (x2)), some (.inl (x3)), some (.inl (x4)), some (.inl ((J 4 (x4).toNatClampNeg).toInt32))], [], 0, 0, ix_mem 276 I J T)) rfl trivial ?_
      refine ix_br (fun c7 => ?_) (fun c7 => ?_)
      · have h8 := h6.1 c7
        refine ix_go 2 (x' := (if x4 ≤ 0 then 57 else 39, [some (.inr (.inr (.inl (some (8))))), some (.inr (.inr (.inl (some (4))))), some (.inl (x2)), some (.inl (x3)), some (.inl (x4)), some (.inl ((J 4 (x4).toNatClampNeg).toInt32))], [], 0, 0, ix_mem 276 I J T)) rfl trivial ?_
        refine ix_br (fun c9 => ?_) (fun c9 => ?_)
        · have h10 := h8.1 c9
          refine ix_go 7 (x' := (67, [some (.inr (.inr (.inl (some (8))))), some (.inr (.inr (.inl (some (4))))), some (.inl (x2)), some (.inl ((x3) ||| (((1 : Int32)) <<< (((J 4 (x4).toNatClampNeg).toInt32) &&& 31)))), some (.inl (x4 + (1 : Int32))), some (.inl ((J 4 (x4).toNatClampNeg).toInt32))], [], 0, 0, ix_mem 276 I J T)) rfl trivial ?_
          refine ix_go 1 (x' := (5, [some (.inr (.inr (.inl (some (8))))), some (.inr (.inr (.inl (some (4))))), some (.inl (x2)), some (.inl ((x3) ||| (((1 : Int32)) <<< (((J 4 (x4).toNatClampNeg).toInt32) &&& 31)))), some (.inl (x4 + (1 : Int32))), some (.inl ((J 4 (x4).toNatClampNeg).toInt32))], [], 0, 0, ix_mem 276 I J T)) rfl trivial ?_
          refine ix_subW ([some (.inr (.inr (.inl (some (8))))), some (.inr (.inr (.inl (some (4))))), some (.inl (x2)), some (.inl ((x3) ||| (((1 : Int32)) <<< (((J 4 (x4).toNatClampNeg).toInt32) &&& 31)))), some (.inl (x4 + (1 : Int32))), none]) (ix_subS (ix_subS (ix_subS (ix_subS (ix_subS (ix_subN (ix_sub0))))))) ?_
          exact h10
        · have h10 := h8.2 c9
          obtain ⟨p11, h12⟩ := h10
          refine ix_go 7 (x' := (47, [some (.inr (.inr (.inl (some (8))))), some (.inr (.inr (.inl (some (4))))), some (.inl (x2)), some (.inl (x3)), some (.inl (x4)), some (.inl ((J 4 (x4).toNatClampNeg).toInt32))], [.inl ((J 4 ((x4) - ((1 : Int32))).toNatClampNeg).toInt32), .inr (.inr (.inl (some (8))))], 0, 0, ix_mem 276 I J T)) rfl ⟨rfl, rfl, p11⟩ ?_
          refine ix_go 1 (x' := (49, [some (.inr (.inr (.inl (some (8))))), some (.inr (.inr (.inl (some (4))))), some (.inl (x2)), some (.inl (x3)), some (.inl (x4)), some (.inl ((J 4 (x4).toNatClampNeg).toInt32))], [.inl ((J 4 (x4).toNatClampNeg).toInt32), .inl ((J 4 ((x4) - ((1 : Int32))).toNatClampNeg).toInt32), .inr (.inr (.inl (some (8))))], 0, 0, ix_mem 276 I J T)) rfl trivial ?_
          refine ix_sp rfl ⟨rfl, ⟨ix_lt rfl, ix_eq rfl, ix_lt rfl⟩, ix_le rfl, Nat.le_refl _, Nat.le_refl _, tp_X5_hasRoad h12 (fun v13 I13 J13 T13 h13 => ?_)⟩
          change ix_W _ _ _ (52, [some (.inr (.inr (.inl (some (8))))), some (.inr (.inr (.inl (some (4))))), some (.inl (x2)), some (.inl (x3)), some (.inl (x4)), some (.inl ((J 4 (x4).toNatClampNeg).toInt32))], [.inl (v13)], 0, 0, ix_mem 276 I13 J13 T13)
          refine ix_go 1 (x' := (if v13 = 0 then 55 else 57, [some (.inr (.inr (.inl (some (8))))), some (.inr (.inr (.inl (some (4))))), some (.inl (x2)), some (.inl (x3)), some (.inl (x4)), some (.inl ((J 4 (x4).toNatClampNeg).toInt32))], [], 0, 0, ix_mem 276 I13 J13 T13)) rfl trivial ?_
          refine ix_br (fun c14 => ?_) (fun c14 => ?_)
          · have h15 := h13.1 c14
            refine ix_go 1 (x' := (56, [some (.inr (.inr (.inl (some (8))))), some (.inr (.inr (.inl (some (4))))), some (.inl (x2)), some (.inl (x3)), some (.inl (x4)), some (.inl ((J 4 (x4).toNatClampNeg).toInt32))], [.inl ((0 : Int32))], 0, 0, ix_mem 276 I13 J13 T13)) rfl trivial ?_
            exact ix_sp rfl ⟨Nat.le_refl _, Nat.le_refl _, ix_01_ok rfl, hQ _ _ _ _ h15⟩
          · have h15 := h13.2 c14
            refine ix_go 7 (x' := (67, [some (.inr (.inr (.inl (some (8))))), some (.inr (.inr (.inl (some (4))))), some (.inl (x2)), some (.inl ((x3) ||| (((1 : Int32)) <<< (((J 4 (x4).toNatClampNeg).toInt32) &&& 31)))), some (.inl (x4 + (1 : Int32))), some (.inl ((J 4 (x4).toNatClampNeg).toInt32))], [], 0, 0, ix_mem 276 I13 J13 T13)) rfl trivial ?_
            refine ix_go 1 (x' := (5, [some (.inr (.inr (.inl (some (8))))), some (.inr (.inr (.inl (some (4))))), some (.inl (x2)), some (.inl ((x3) ||| (((1 : Int32)) <<< (((J 4 (x4).toNatClampNeg).toInt32) &&& 31)))), some (.inl (x4 + (1 : Int32))), some (.inl ((J 4 (x4).toNatClampNeg).toInt32))], [], 0, 0, ix_mem 276 I13 J13 T13)) rfl trivial ?_
            refine ix_subW ([some (.inr (.inr (.inl (some (8))))), some (.inr (.inr (.inl (some (4))))), some (.inl (x2)), some (.inl ((x3) ||| (((1 : Int32)) <<< (((J 4 (x4).toNatClampNeg).toInt32) &&& 31)))), some (.inl (x4 + (1 : Int32))), none]) (ix_subS (ix_subS (ix_subS (ix_subS (ix_subS (ix_subN (ix_sub0))))))) ?_
            exact h15
      · have h8 := h6.2 c7
        refine ix_go 1 (x' := (56, [some (.inr (.inr (.inl (some (8))))), some (.inr (.inr (.inl (some (4))))), some (.inl (x2)), some (.inl (x3)), some (.inl (x4)), some (.inl ((J 4 (x4).toNatClampNeg).toInt32))], [.inl ((0 : Int32))], 0, 0, ix_mem 276 I J T)) rfl trivial ?_
        exact ix_sp rfl ⟨Nat.le_refl _, Nat.le_refl _, ix_01_ok rfl, hQ _ _ _ _ h8⟩
    · have h4 := h2.2 c3
      refine ix_go 1 (x' := (71, [some (.inr (.inr (.inl (some (8))))), some (.inr (.inr (.inl (some (4))))), some (.inl (x2)), some (.inl (x3)), some (.inl (x4)), none], [.inl ((1 : Int32))], 0, 0, ix_mem 276 I J T)) rfl trivial ?_
      exact ix_sp rfl ⟨Nat.le_refl _, Nat.le_refl _, ix_01_ok rfl, hQ _ _ _ _ h4⟩
  · have h2 := hb.2 c1
    refine ix_go 1 (x' := (71, [some (.inr (.inr (.inl (some (8))))), some (.inr (.inr (.inl (some (4))))), some (.inl (x2)), some (.inl (x3)), some (.inl (x4)), none], [.inl ((1 : Int32))], 0, 0, ix_mem 276 I J T)) rfl trivial ?_
    exact ix_sp rfl ⟨Nat.le_refl _, Nat.le_refl _, ix_01_ok rfl, hQ _ _ _ _ h2⟩
def wp_X5_isWay_r4 (a1 : Int32) (I : Nat → Nat → Int32) (J : Nat → Nat → Int64) (T : Option Nat) (P : Int32 → (Nat → Nat → Int32) → (Nat → Nat → Int64) → Option Nat → Prop) : Prop := wl_X5_isWay_r4_5_c4 (a1) ((0 : Int32)) ((0 : Int32)) I J T P
set_option maxRecDepth 20000 in
theorem tp_X5_isWay_r4 {d : Nat} {a1 : Int32} {I : Nat → Nat → Int32} {J : Nat → Nat → Int64} {T : Option Nat} {P : Int32 → (Nat → Nat → Int32) → (Nat → Nat → Int64) → Option Nat → Prop} {Q : ix_Q} (h : wp_X5_isWay_r4 a1 I J T P) (hQ : ∀ v I J T, P v I J T → Q (some (.inl v)) (ix_mem 276 I J T)) : ix_C (d + 2) 79 [.inr (.inr (.inl (some (8)))), .inr (.inr (.inl (some (4)))), .inl (a1)] (ix_mem 276 I J T) Q := by
  unfold wp_X5_isWay_r4 at h
  refine ix_enter (ls := [some (.inr (.inr (.inl (some (8))))), some (.inr (.inr (.inl (some (4))))), some (.inl (a1)), none, none, none]) rfl rfl rfl (Nat.le_of_ble_eq_true rfl) ?_
  refine ix_go 4 (x' := (5, [some (.inr (.inr (.inl (some (8))))), some (.inr (.inr (.inl (some (4))))), some (.inl (a1)), some (.inl ((0 : Int32))), some (.inl ((0 : Int32))), none], [], 0, 0, ix_mem 276 I J T)) rfl trivial ?_
  refine ix_subW ([some (.inr (.inr (.inl (some (8))))), some (.inr (.inr (.inl (some (4))))), some (.inl (a1)), some (.inl ((0 : Int32))), some (.inl ((0 : Int32))), none]) (ix_subS (ix_subS (ix_subS (ix_subS (ix_subS (ix_subS (ix_sub0))))))) ?_
  exact tl_X5_isWay_r4_5_c4 h hQ
def wb_X5_isWay_r5_5_c5 (x2 : Int32) (x3 : Int32) (x4 : Int32) (I : Nat → Nat → Int32) (J : Nat → Nat → Int64) (T : Option Nat) (V5 : Int32 → Int32 → Int32 → (Nat → Nat → Int32) → (Nat → Nat → Int64) → Option Nat → Prop) (P : Int32 → (Nat → Nat → Int32) → (Nat → Nat → Int64) → Option Nat → Prop) : Prop := ((x4 < x2 → ((x4 < (60 : Int32) → ix_inb (x4) 60 = true ∧ ((((x3) >>> (((J 5 (x4).toNatClampNeg).toInt32) &&& 31)) &&& ((1 : Int32)) = 0 → ((x4 ≤ 0 → V5 (x2) ((x3) ||| (((1 : Int32)) <<< (((J 5 (x4).toNatClampNeg).toInt32) &&& 31))) (x4 + (1 : Int32)) I J T) ∧ (¬ (x4 ≤ 0) → ix_inb ((x4) - ((1 : Int32))) 60 = true ∧ wp_X5_hasRoad ((J 5 ((x4) - ((1 : Int32))).toNatClampNeg).toInt32) ((J 5 (x4).toNatClampNeg).toInt32) I J T (fun v13 I13 J13 T13 => ((v13 = 0 → P ((0 : Int32)) I13 J13 T13) ∧ (¬ (v13 = 0) → V5 (x2) ((x3) ||| (((1 : Int32)) <<< (((J 5 (x4).toNatClampNeg).toInt32) &&& 31))) (x4 + (1 : Int32)) I13 J13 T13)))))) ∧ (¬ (((x3) >>> (((J 5 (x4).toNatClampNeg).toInt32) &&& 31)) &&& ((1 : Int32)) = 0) → P ((0 : Int32)) I J T))) ∧ (¬ (x4 < (60 : Int32)) → P ((1 : Int32)) I J T))) ∧ (¬ (x4 < x2) → P ((1 : Int32)) I J T))
def wl_X5_isWay_r5_5_c5 (x2 : Int32) (x3 : Int32) (x4 : Int32) (I : Nat → Nat → Int32) (J : Nat → Nat → Int64) (T : Option Nat) (P : Int32 → (Nat → Nat → Int32) → (Nat → Nat → Int64) → Option Nat → Prop) : Prop := ∀ V : Int32 → Int32 → Int32 → (Nat → Nat → Int32) → (Nat → Nat → Int64) → Option Nat → Prop, (∀ (x2 : Int32) (x3 : Int32) (x4 : Int32) (I : Nat → Nat → Int32) (J : Nat → Nat → Int64) (T : Option Nat), wb_X5_isWay_r5_5_c5 x2 x3 x4 I J T V P → V x2 x3 x4 I J T) → V x2 x3 x4 I J T
set_option maxRecDepth 20000 in
theorem tl_X5_isWay_r5_5_c5 {d : Nat} {x2 : Int32} {x3 : Int32} {x4 : Int32} {I : Nat → Nat → Int32} {J : Nat → Nat → Int64} {T : Option Nat} {P : Int32 → (Nat → Nat → Int32) → (Nat → Nat → Int64) → Option Nat → Prop} {Q : ix_Q} (h : wl_X5_isWay_r5_5_c5 x2 x3 x4 I J T P) (hQ : ∀ v I J T, P v I J T → Q (some (.inl v)) (ix_mem 276 I J T)) : ix_W (ix_C (d + 1)) (5, ix_lk ix_l79, (some .boolean), 0, 0, Nat.blt 0 0, none) Q (5, [some (.inr (.inr (.inl (some (8))))), some (.inr (.inr (.inl (some (5))))), some (.inl (x2)), some (.inl (x3)), some (.inl (x4)), none], [], 0, 0, ix_mem 276 I J T) := by
  refine h (fun x2 x3 x4 I J T => ix_W (ix_C (d + 1)) (5, ix_lk ix_l79, (some .boolean), 0, 0, Nat.blt 0 0, none) Q (5, [some (.inr (.inr (.inl (some (8))))), some (.inr (.inr (.inl (some (5))))), some (.inl (x2)), some (.inl (x3)), some (.inl (x4)), none], [], 0, 0, ix_mem 276 I J T)) ?_
  intro x2 x3 x4 I J T hb
  unfold wb_X5_isWay_r5_5_c5 at hb
  refine ix_go 3 (x' := (if x4 < x2 then 11 else 70, [some (.inr (.inr (.inl (some (8))))), some (.inr (.inr (.inl (some (5))))), some (.inl (x2)), some (.inl (x3)), some (.inl (x4)), none], [], 0, 0, ix_mem 276 I J T)) rfl trivial ?_
  refine ix_br (fun c1 => ?_) (fun c1 => ?_)
  · have h2 := hb.1 c1
    refine ix_go 4 (x' := (if x4 < (60 : Int32) then 18 else 70, [some (.inr (.inr (.inl (some (8))))), some (.inr (.inr (.inl (some (5))))), some (.inl (x2)), some (.inl (x3)), some (.inl (x4)), none], [], 0, 0, ix_mem 276 I J T)) rfl ⟨rfl, rfl, rfl⟩ ?_
    refine ix_br (fun c3 => ?_) (fun c3 => ?_)
    · have h4 := h2.1 c3
      obtain ⟨p5, h6⟩ := h4
      refine ix_go 7 (x' := (28, [some (.inr (.inr (.inl (some (8))))), some (.inr (.inr (.inl (some (5))))), some (.inl (x2)), some (.inl (x3)), some (.inl (x4)), some (.inl ((J 5 (x4).toNatClampNeg).toInt32))], [.inl ((J 5 (x4).toNatClampNeg).toInt32), .inl (x3)], 0, 0, ix_mem 276 I J T)) rfl ⟨rfl, rfl, p5⟩ ?_
      refine ix_go 4 (x' := (if ((x3) >>> (((J 5 (x4).toNatClampNeg).toInt32) &&& 31)) &&& ((1 : Int32)) = 0 then 34 else 55, [some (.inr (.inr (.inl (some (8))))), some (.inr (.inr (.inl (some (5))))), some (.inl (x2)), some (.inl (x3)), some (.inl (x4)), some (.inl ((J 5 (x4).toNatClampNeg).toInt32))], [], 0, 0, ix_mem 276 I J T)) rfl trivial ?_
      refine ix_br (fun c7 => ?_) (fun c7 => ?_)
      · have h8 := h6.1 c7
        refine ix_go 2 (x' := (if x4 ≤ 0 then 57 else 39, [some (.inr (.inr (.inl (some (8))))), some (.inr (.inr (.inl (some (5))))), some (.inl (x2)), some (.inl (x3)), some (.inl (x4)), some (.inl ((J 5 (x4).toNatClampNeg).toInt32))], [], 0, 0, ix_mem 276 I J T)) rfl trivial ?_
        refine ix_br (fun c9 => ?_) (fun c9 => ?_)
        · have h10 := h8.1 c9
          refine ix_go 7 (x' := (67, [some (.inr (.inr (.inl (some (8))))), some (.inr (.inr (.inl (some (5))))), some (.inl (x2)), some (.inl ((x3) ||| (((1 : Int32)) <<< (((J 5 (x4).toNatClampNeg).toInt32) &&& 31)))), some (.inl (x4 + (1 : Int32))), some (.inl ((J 5 (x4).toNatClampNeg).toInt32))], [], 0, 0, ix_mem 276 I J T)) rfl trivial ?_
          refine ix_go 1 (x' := (5, [some (.inr (.inr (.inl (some (8))))), some (.inr (.inr (.inl (some (5))))), some (.inl (x2)), some (.inl ((x3) ||| (((1 : Int32)) <<< (((J 5 (x4).toNatClampNeg).toInt32) &&& 31)))), some (.inl (x4 + (1 : Int32))), some (.inl ((J 5 (x4).toNatClampNeg).toInt32))], [], 0, 0, ix_mem 276 I J T)) rfl trivial ?_
          refine ix_subW ([some (.inr (.inr (.inl (some (8))))), some (.inr (.inr (.inl (some (5))))), some (.inl (x2)), some (.inl ((x3) ||| (((1 : Int32)) <<< (((J 5 (x4).toNatClampNeg).toInt32) &&& 31)))), some (.inl (x4 + (1 : Int32))), none]) (ix_subS (ix_subS (ix_subS (ix_subS (ix_subS (ix_subN (ix_sub0))))))) ?_
          exact h10
        · have h10 := h8.2 c9
          obtain ⟨p11, h12⟩ := h10
          refine ix_go 7 (x' := (47, [some (.inr (.inr (.inl (some (8))))), some (.inr (.inr (.inl (some (5))))), some (.inl (x2)), some (.inl (x3)), some (.inl (x4)), some (.inl ((J 5 (x4).toNatClampNeg).toInt32))], [.inl ((J 5 ((x4) - ((1 : Int32))).toNatClampNeg).toInt32), .inr (.inr (.inl (some (8))))], 0, 0, ix_mem 276 I J T)) rfl ⟨rfl, rfl, p11⟩ ?_
          refine ix_go 1 (x' := (49, [some (.inr (.inr (.inl (some (8))))), some (.inr (.inr (.inl (some (5))))), some (.inl (x2)), some (.inl (x3)), some (.inl (x4)), some (.inl ((J 5 (x4).toNatClampNeg).toInt32))], [.inl ((J 5 (x4).toNatClampNeg).toInt32), .inl ((J 5 ((x4) - ((1 : Int32))).toNatClampNeg).toInt32), .inr (.inr (.inl (some (8))))], 0, 0, ix_mem 276 I J T)) rfl trivial ?_
          refine ix_sp rfl ⟨rfl, ⟨ix_lt rfl, ix_eq rfl, ix_lt rfl⟩, ix_le rfl, Nat.le_refl _, Nat.le_refl _, tp_X5_hasRoad h12 (fun v13 I13 J13 T13 h13 => ?_)⟩
          change ix_W _ _ _ (52, [some (.inr (.inr (.inl (some (8))))), some (.inr (.inr (.inl (some (5))))), some (.inl (x2)), some (.inl (x3)), some (.inl (x4)), some (.inl ((J 5 (x4).toNatClampNeg).toInt32))], [.inl (v13)], 0, 0, ix_mem 276 I13 J13 T13)
          refine ix_go 1 (x' := (if v13 = 0 then 55 else 57, [some (.inr (.inr (.inl (some (8))))), some (.inr (.inr (.inl (some (5))))), some (.inl (x2)), some (.inl (x3)), some (.inl (x4)), some (.inl ((J 5 (x4).toNatClampNeg).toInt32))], [], 0, 0, ix_mem 276 I13 J13 T13)) rfl trivial ?_
          refine ix_br (fun c14 => ?_) (fun c14 => ?_)
          · have h15 := h13.1 c14
            refine ix_go 1 (x' := (56, [some (.inr (.inr (.inl (some (8))))), some (.inr (.inr (.inl (some (5))))), some (.inl (x2)), some (.inl (x3)), some (.inl (x4)), some (.inl ((J 5 (x4).toNatClampNeg).toInt32))], [.inl ((0 : Int32))], 0, 0, ix_mem 276 I13 J13 T13)) rfl trivial ?_
            exact ix_sp rfl ⟨Nat.le_refl _, Nat.le_refl _, ix_01_ok rfl, hQ _ _ _ _ h15⟩
          · have h15 := h13.2 c14
            refine ix_go 7 (x' := (67, [some (.inr (.inr (.inl (some (8))))), some (.inr (.inr (.inl (some (5))))), some (.inl (x2)), some (.inl ((x3) ||| (((1 : Int32)) <<< (((J 5 (x4).toNatClampNeg).toInt32) &&& 31)))), some (.inl (x4 + (1 : Int32))), some (.inl ((J 5 (x4).toNatClampNeg).toInt32))], [], 0, 0, ix_mem 276 I13 J13 T13)) rfl trivial ?_
            refine ix_go 1 (x' := (5, [some (.inr (.inr (.inl (some (8))))), some (.inr (.inr (.inl (some (5))))), some (.inl (x2)), some (.inl ((x3) ||| (((1 : Int32)) <<< (((J 5 (x4).toNatClampNeg).toInt32) &&& 31)))), some (.inl (x4 + (1 : Int32))), some (.inl ((J 5 (x4).toNatClampNeg).toInt32))], [], 0, 0, ix_mem 276 I13 J13 T13)) rfl trivial ?_
            refine ix_subW ([some (.inr (.inr (.inl (some (8))))), some (.inr (.inr (.inl (some (5))))), some (.inl (x2)), some (.inl ((x3) ||| (((1 : Int32)) <<< (((J 5 (x4).toNatClampNeg).toInt32) &&& 31)))), some (.inl (x4 + (1 : Int32))), none]) (ix_subS (ix_subS (ix_subS (ix_subS (ix_subS (ix_subN (ix_sub0))))))) ?_
            exact h15
      · have h8 := h6.2 c7
        refine ix_go 1 (x' := (56, [some (.inr (.inr (.inl (some (8))))), some (.inr (.inr (.inl (some (5))))), some (.inl (x2)), some (.inl (x3)), some (.inl (x4)), some (.inl ((J 5 (x4).toNatClampNeg).toInt32))], [.inl ((0 : Int32))], 0, 0, ix_mem 276 I J T)) rfl trivial ?_
        exact ix_sp rfl ⟨Nat.le_refl _, Nat.le_refl _, ix_01_ok rfl, hQ _ _ _ _ h8⟩
    · have h4 := h2.2 c3
      refine ix_go 1 (x' := (71, [some (.inr (.inr (.inl (some (8))))), some (.inr (.inr (.inl (some (5))))), some (.inl (x2)), some (.inl (x3)), some (.inl (x4)), none], [.inl ((1 : Int32))], 0, 0, ix_mem 276 I J T)) rfl trivial ?_
      exact ix_sp rfl ⟨Nat.le_refl _, Nat.le_refl _, ix_01_ok rfl, hQ _ _ _ _ h4⟩
  · have h2 := hb.2 c1
    refine ix_go 1 (x' := (71, [some (.inr (.inr (.inl (some (8))))), some (.inr (.inr (.inl (some (5))))), some (.inl (x2)), some (.inl (x3)), some (.inl (x4)), none], [.inl ((1 : Int32))], 0, 0, ix_mem 276 I J T)) rfl trivial ?_
    exact ix_sp rfl ⟨Nat.le_refl _, Nat.le_refl _, ix_01_ok rfl, hQ _ _ _ _ h2⟩
def wp_X5_isWay_r5 (a1 : Int32) (I : Nat → Nat → Int32) (J : Nat → Nat → Int64) (T : Option Nat) (P : Int32 → (Nat → Nat → Int32) → (Nat → Nat → Int64) → Option Nat → Prop) : Prop := wl_X5_isWay_r5_5_c5 (a1) ((0 : Int32)) ((0 : Int32)) I J T P
set_option maxRecDepth 20000 in
theorem tp_X5_isWay_r5 {d : Nat} {a1 : Int32} {I : Nat → Nat → Int32} {J : Nat → Nat → Int64} {T : Option Nat} {P : Int32 → (Nat → Nat → Int32) → (Nat → Nat → Int64) → Option Nat → Prop} {Q : ix_Q} (h : wp_X5_isWay_r5 a1 I J T P) (hQ : ∀ v I J T, P v I J T → Q (some (.inl v)) (ix_mem 276 I J T)) : ix_C (d + 2) 79 [.inr (.inr (.inl (some (8)))), .inr (.inr (.inl (some (5)))), .inl (a1)] (ix_mem 276 I J T) Q := by
  unfold wp_X5_isWay_r5 at h
  refine ix_enter (ls := [some (.inr (.inr (.inl (some (8))))), some (.inr (.inr (.inl (some (5))))), some (.inl (a1)), none, none, none]) rfl rfl rfl (Nat.le_of_ble_eq_true rfl) ?_
  refine ix_go 4 (x' := (5, [some (.inr (.inr (.inl (some (8))))), some (.inr (.inr (.inl (some (5))))), some (.inl (a1)), some (.inl ((0 : Int32))), some (.inl ((0 : Int32))), none], [], 0, 0, ix_mem 276 I J T)) rfl trivial ?_
  refine ix_subW ([some (.inr (.inr (.inl (some (8))))), some (.inr (.inr (.inl (some (5))))), some (.inl (a1)), some (.inl ((0 : Int32))), some (.inl ((0 : Int32))), none]) (ix_subS (ix_subS (ix_subS (ix_subS (ix_subS (ix_subS (ix_sub0))))))) ?_
  exact tl_X5_isWay_r5_5_c5 h hQ
def wj_X11_bag_j116 (x1 : Int32) (x2 : Int32) (x3 : Int32) (x4 : Int32) (x5 : Int32) (I : Nat → Nat → Int32) (J : Nat → Nat → Int64) (T : Option Nat) (P : Int32 → (Nat → Nat → Int32) → (Nat → Nat → Int64) → Option Nat → Prop) : Prop := ((x5 = 0 → ix_inb (x2) 4 = true ∧ ((x2 = 0 → wp_X1_add_r2 (x1) (x3) (x4) (ix_u2 I 0 0 ((0 : Int32))) J T (fun v34 I34 J34 T34 => P (v34) I34 J34 T34)) ∧ (x2 = 1 → wp_X1_add_r3 (x1) (x3) (x4) (ix_u2 I 0 0 ((0 : Int32))) J T (fun v35 I35 J35 T35 => P (v35) I35 J35 T35)) ∧ (x2 = 2 → wp_X1_add_r4 (x1) (x3) (x4) (ix_u2 I 0 0 ((0 : Int32))) J T (fun v36 I36 J36 T36 => P (v36) I36 J36 T36)) ∧ (x2 = 3 → wp_X1_add_r5 (x1) (x3) (x4) (ix_u2 I 0 0 ((0 : Int32))) J T (fun v37 I37 J37 T37 => P (v37) I37 J37 T37)))) ∧ (¬ (x5 = 0) → wp_X11_refuse (x5) I J T (fun v38 I38 J38 T38 => P (v38) I38 J38 T38)))
set_option maxRecDepth 20000 in
theorem tj_X11_bag_j116 {d : Nat} {x1 : Int32} {x2 : Int32} {x3 : Int32} {x4 : Int32} {x5 : Int32} {I : Nat → Nat → Int32} {J : Nat → Nat → Int64} {T : Option Nat} {P : Int32 → (Nat → Nat → Int32) → (Nat → Nat → Int64) → Option Nat → Prop} {Q : ix_Q} (h : wj_X11_bag_j116 x1 x2 x3 x4 x5 I J T P) (hQ : ∀ v I J T, P v I J T → Q (some (.inl v)) (ix_mem 276 I J T)) : ix_W (ix_C (d + 1)) (11, ix_lk ix_l211, (some .int), 0, 0, Nat.blt 0 0, none) Q (116, [some (.inr (.inr (.inl (some (0))))), some (.inl (x1)), some (.inl (x2)), some (.inl (x3)), some (.inl (x4)), some (.inl (x5))], [], 0, 0, ix_mem 276 I J T) := by
  unfold wj_X11_bag_j116 at h
  refine ix_go 2 (x' := (if x5 = 0 then 128 else 121, [some (.inr (.inr (.inl (some (0))))), some (.inl (x1)), some (.inl (x2)), some (.inl (x3)), some (.inl (x4)), some (.inl (x5))], [], 0, 0, ix_mem 276 I J T)) rfl trivial ?_
  refine ix_br (fun c29 => ?_) (fun c29 => ?_)
  · have h30 := h.1 c29
    refine ix_go 7 (x' := (139, [some (.inr (.inr (.inl (some (0))))), some (.inl (x1)), some (.inl (x2)), some (.inl (x3)), some (.inl (x4)), some (.inl (x5))], [.inr (.inr (.inl (some (0)))), .inl (x1), .inr (.inr (.inl (some (142))))], 0, 0, ix_mem 276 (ix_u2 I 0 0 ((0 : Int32))) J T)) rfl ⟨rfl, rfl, rfl, rfl⟩ ?_
    obtain ⟨p31, h32⟩ := h30
    refine ix_go 3 (x' := (144, [some (.inr (.inr (.inl (some (0))))), some (.inl (x1)), some (.inl (x2)), some (.inl (x3)), some (.inl (x4)), some (.inl (x5))], [.inr (.inr (.inl (some (ix_row 1 (x2))))), .inl (x1), .inr (.inr (.inl (some (142))))], 0, 0, ix_mem 276 (ix_u2 I 0 0 ((0 : Int32))) J T)) rfl ⟨rfl, rfl, rfl, rfl, rfl, p31, (rw_1 p31).1⟩ ?_
    rcases ix_four p31 with e | e | e | e
    · have h33 := h32.1 e
      rw [show ix_row 1 (x2) = 2 from by unfold ix_row; rw [e]; rfl]
      refine ix_go 2 (x' := (147, [some (.inr (.inr (.inl (some (0))))), some (.inl (x1)), some (.inl (x2)), some (.inl (x3)), some (.inl (x4)), some (.inl (x5))], [.inl (x4), .inl (x3), .inr (.inr (.inl (some (2)))), .inl (x1), .inr (.inr (.inl (some (142))))], 0, 0, ix_mem 276 (ix_u2 I 0 0 ((0 : Int32))) J T)) rfl trivial ?_
      refine ix_sp rfl ⟨rfl, ⟨ix_lt rfl, ix_eq rfl, ix_lt rfl⟩, ix_le rfl, Nat.le_refl _, Nat.le_refl _, tp_X1_add_r2 h33 (fun v34 I34 J34 T34 h34 => ?_)⟩
      change ix_W _ _ _ (150, [some (.inr (.inr (.inl (some (0))))), some (.inl (x1)), some (.inl (x2)), some (.inl (x3)), some (.inl (x4)), some (.inl (x5))], [.inl (v34)], 0, 0, ix_mem 276 I34 J34 T34)
      exact ix_sp rfl ⟨Nat.le_refl _, Nat.le_refl _, trivial, hQ _ _ _ _ h34⟩
    · have h33 := h32.2.1 e
      rw [show ix_row 1 (x2) = 3 from by unfold ix_row; rw [e]; rfl]
      refine ix_go 2 (x' := (147, [some (.inr (.inr (.inl (some (0))))), some (.inl (x1)), some (.inl (x2)), some (.inl (x3)), some (.inl (x4)), some (.inl (x5))], [.inl (x4), .inl (x3), .inr (.inr (.inl (some (3)))), .inl (x1), .inr (.inr (.inl (some (142))))], 0, 0, ix_mem 276 (ix_u2 I 0 0 ((0 : Int32))) J T)) rfl trivial ?_
      refine ix_sp rfl ⟨rfl, ⟨ix_lt rfl, ix_eq rfl, ix_lt rfl⟩, ix_le rfl, Nat.le_refl _, Nat.le_refl _, tp_X1_add_r3 h33 (fun v35 I35 J35 T35 h35 => ?_)⟩
      change ix_W _ _ _ (150, [some (.inr (.inr (.inl (some (0))))), some (.inl (x1)), some (.inl (x2)), some (.inl (x3)), some (.inl (x4)), some (.inl (x5))], [.inl (v35)], 0, 0, ix_mem 276 I35 J35 T35)
      exact ix_sp rfl ⟨Nat.le_refl _, Nat.le_refl _, trivial, hQ _ _ _ _ h35⟩
    · have h33 := h32.2.2.1 e
      rw [show ix_row 1 (x2) = 4 from by unfold ix_row; rw [e]; rfl]
      refine ix_go 2 (x' := (147, [some (.inr (.inr (.inl (some (0))))), some (.inl (x1)), some (.inl (x2)), some (.inl (x3)), some (.inl (x4)), some (.inl (x5))], [.inl (x4), .inl (x3), .inr (.inr (.inl (some (4)))), .inl (x1), .inr (.inr (.inl (some (142))))], 0, 0, ix_mem 276 (ix_u2 I 0 0 ((0 : Int32))) J T)) rfl trivial ?_
      refine ix_sp rfl ⟨rfl, ⟨ix_lt rfl, ix_eq rfl, ix_lt rfl⟩, ix_le rfl, Nat.le_refl _, Nat.le_refl _, tp_X1_add_r4 h33 (fun v36 I36 J36 T36 h36 => ?_)⟩
      change ix_W _ _ _ (150, [some (.inr (.inr (.inl (some (0))))), some (.inl (x1)), some (.inl (x2)), some (.inl (x3)), some (.inl (x4)), some (.inl (x5))], [.inl (v36)], 0, 0, ix_mem 276 I36 J36 T36)
      exact ix_sp rfl ⟨Nat.le_refl _, Nat.le_refl _, trivial, hQ _ _ _ _ h36⟩
    · have h33 := h32.2.2.2 e
      rw [show ix_row 1 (x2) = 5 from by unfold ix_row; rw [e]; rfl]
      refine ix_go 2 (x' := (147, [some (.inr (.inr (.inl (some (0))))), some (.inl (x1)), some (.inl (x2)), some (.inl (x3)), some (.inl (x4)), some (.inl (x5))], [.inl (x4), .inl (x3), .inr (.inr (.inl (some (5)))), .inl (x1), .inr (.inr (.inl (some (142))))], 0, 0, ix_mem 276 (ix_u2 I 0 0 ((0 : Int32))) J T)) rfl trivial ?_
      refine ix_sp rfl ⟨rfl, ⟨ix_lt rfl, ix_eq rfl, ix_lt rfl⟩, ix_le rfl, Nat.le_refl _, Nat.le_refl _, tp_X1_add_r5 h33 (fun v37 I37 J37 T37 h37 => ?_)⟩
      change ix_W _ _ _ (150, [some (.inr (.inr (.inl (some (0))))), some (.inl (x1)), some (.inl (x2)), some (.inl (x3)), some (.inl (x4)), some (.inl (x5))], [.inl (v37)], 0, 0, ix_mem 276 I37 J37 T37)
      exact ix_sp rfl ⟨Nat.le_refl _, Nat.le_refl _, trivial, hQ _ _ _ _ h37⟩
  · have h30 := h.2 c29
    refine ix_go 2 (x' := (124, [some (.inr (.inr (.inl (some (0))))), some (.inl (x1)), some (.inl (x2)), some (.inl (x3)), some (.inl (x4)), some (.inl (x5))], [.inl (x5), .inr (.inr (.inl (some (0))))], 0, 0, ix_mem 276 I J T)) rfl trivial ?_
    refine ix_sp rfl ⟨rfl, ⟨ix_lt rfl, ix_eq rfl, ix_lt rfl⟩, ix_le rfl, Nat.le_refl _, Nat.le_refl _, tp_X11_refuse h30 (fun v38 I38 J38 T38 h38 => ?_)⟩
    change ix_W _ _ _ (127, [some (.inr (.inr (.inl (some (0))))), some (.inl (x1)), some (.inl (x2)), some (.inl (x3)), some (.inl (x4)), some (.inl (x5))], [.inl (v38)], 0, 0, ix_mem 276 I38 J38 T38)
    exact ix_sp rfl ⟨Nat.le_refl _, Nat.le_refl _, trivial, hQ _ _ _ _ h38⟩
def wj_X11_bag_j98 (x1 : Int32) (x2 : Int32) (x3 : Int32) (x4 : Int32) (x5 : Int32) (I : Nat → Nat → Int32) (J : Nat → Nat → Int64) (T : Option Nat) (P : Int32 → (Nat → Nat → Int32) → (Nat → Nat → Int64) → Option Nat → Prop) : Prop := ((x5 = 0 → wp_X1_isFull I J T (fun v26 I26 J26 T26 => ((v26 = 0 → wj_X11_bag_j116 (x1) (x2) (x3) (x4) (x5) I26 J26 T26 P) ∧ (¬ (v26 = 0) → wj_X11_bag_j116 (x1) (x2) (x3) (x4) ((4 : Int32)) I26 J26 T26 P)))) ∧ (¬ (x5 = 0) → wj_X11_bag_j116 (x1) (x2) (x3) (x4) (x5) I J T P))
set_option maxRecDepth 20000 in
theorem tj_X11_bag_j98 {d : Nat} {x1 : Int32} {x2 : Int32} {x3 : Int32} {x4 : Int32} {x5 : Int32} {I : Nat → Nat → Int32} {J : Nat → Nat → Int64} {T : Option Nat} {P : Int32 → (Nat → Nat → Int32) → (Nat → Nat → Int64) → Option Nat → Prop} {Q : ix_Q} (h : wj_X11_bag_j98 x1 x2 x3 x4 x5 I J T P) (hQ : ∀ v I J T, P v I J T → Q (some (.inl v)) (ix_mem 276 I J T)) : ix_W (ix_C (d + 1)) (11, ix_lk ix_l211, (some .int), 0, 0, Nat.blt 0 0, none) Q (98, [some (.inr (.inr (.inl (some (0))))), some (.inl (x1)), some (.inl (x2)), some (.inl (x3)), some (.inl (x4)), some (.inl (x5))], [], 0, 0, ix_mem 276 I J T) := by
  unfold wj_X11_bag_j98 at h
  refine ix_go 2 (x' := (if x5 = 0 then 103 else 116, [some (.inr (.inr (.inl (some (0))))), some (.inl (x1)), some (.inl (x2)), some (.inl (x3)), some (.inl (x4)), some (.inl (x5))], [], 0, 0, ix_mem 276 I J T)) rfl trivial ?_
  refine ix_br (fun c24 => ?_) (fun c24 => ?_)
  · have h25 := h.1 c24
    refine ix_go 2 (x' := (107, [some (.inr (.inr (.inl (some (0))))), some (.inl (x1)), some (.inl (x2)), some (.inl (x3)), some (.inl (x4)), some (.inl (x5))], [.inr (.inr (.inl (some (142))))], 0, 0, ix_mem 276 I J T)) rfl ⟨rfl, rfl⟩ ?_
    refine ix_sp rfl ⟨rfl, ⟨ix_lt rfl, ix_eq rfl, ix_lt rfl⟩, ix_le rfl, Nat.le_refl _, Nat.le_refl _, tp_X1_isFull h25 (fun v26 I26 J26 T26 h26 => ?_)⟩
    change ix_W _ _ _ (110, [some (.inr (.inr (.inl (some (0))))), some (.inl (x1)), some (.inl (x2)), some (.inl (x3)), some (.inl (x4)), some (.inl (x5))], [.inl (v26)], 0, 0, ix_mem 276 I26 J26 T26)
    refine ix_go 1 (x' := (if v26 = 0 then 116 else 113, [some (.inr (.inr (.inl (some (0))))), some (.inl (x1)), some (.inl (x2)), some (.inl (x3)), some (.inl (x4)), some (.inl (x5))], [], 0, 0, ix_mem 276 I26 J26 T26)) rfl trivial ?_
    refine ix_br (fun c27 => ?_) (fun c27 => ?_)
    · have h28 := h26.1 c27
      refine ix_subW ([some (.inr (.inr (.inl (some (0))))), some (.inl (x1)), some (.inl (x2)), some (.inl (x3)), some (.inl (x4)), some (.inl (x5))]) (ix_subS (ix_subS (ix_subS (ix_subS (ix_subS (ix_subS (ix_sub0))))))) ?_
      exact tj_X11_bag_j116 h28 hQ
    · have h28 := h26.2 c27
      refine ix_go 2 (x' := (116, [some (.inr (.inr (.inl (some (0))))), some (.inl (x1)), some (.inl (x2)), some (.inl (x3)), some (.inl (x4)), some (.inl ((4 : Int32)))], [], 0, 0, ix_mem 276 I26 J26 T26)) rfl trivial ?_
      refine ix_subW ([some (.inr (.inr (.inl (some (0))))), some (.inl (x1)), some (.inl (x2)), some (.inl (x3)), some (.inl (x4)), some (.inl ((4 : Int32)))]) (ix_subS (ix_subS (ix_subS (ix_subS (ix_subS (ix_subS (ix_sub0))))))) ?_
      exact tj_X11_bag_j116 h28 hQ
  · have h25 := h.2 c24
    refine ix_subW ([some (.inr (.inr (.inl (some (0))))), some (.inl (x1)), some (.inl (x2)), some (.inl (x3)), some (.inl (x4)), some (.inl (x5))]) (ix_subS (ix_subS (ix_subS (ix_subS (ix_subS (ix_subS (ix_sub0))))))) ?_
    exact tj_X11_bag_j116 h25 hQ
def wj_X11_bag_j72 (x1 : Int32) (x2 : Int32) (x3 : Int32) (x4 : Int32) (x5 : Int32) (I : Nat → Nat → Int32) (J : Nat → Nat → Int64) (T : Option Nat) (P : Int32 → (Nat → Nat → Int32) → (Nat → Nat → Int64) → Option Nat → Prop) : Prop := ((x5 = 0 → ix_inb (x2) 4 = true ∧ ((x2 = 0 → wp_X5_isWay_r2 (x3) I J T (fun v21 I21 J21 T21 => ((v21 = 0 → wj_X11_bag_j98 (x1) (x2) (x3) (x4) ((6 : Int32)) I21 J21 T21 P) ∧ (¬ (v21 = 0) → wj_X11_bag_j98 (x1) (x2) (x3) (x4) (x5) I21 J21 T21 P)))) ∧ (x2 = 1 → wp_X5_isWay_r3 (x3) I J T (fun v39 I39 J39 T39 => ((v39 = 0 → wj_X11_bag_j98 (x1) (x2) (x3) (x4) ((6 : Int32)) I39 J39 T39 P) ∧ (¬ (v39 = 0) → wj_X11_bag_j98 (x1) (x2) (x3) (x4) (x5) I39 J39 T39 P)))) ∧ (x2 = 2 → wp_X5_isWay_r4 (x3) I J T (fun v42 I42 J42 T42 => ((v42 = 0 → wj_X11_bag_j98 (x1) (x2) (x3) (x4) ((6 : Int32)) I42 J42 T42 P) ∧ (¬ (v42 = 0) → wj_X11_bag_j98 (x1) (x2) (x3) (x4) (x5) I42 J42 T42 P)))) ∧ (x2 = 3 → wp_X5_isWay_r5 (x3) I J T (fun v45 I45 J45 T45 => ((v45 = 0 → wj_X11_bag_j98 (x1) (x2) (x3) (x4) ((6 : Int32)) I45 J45 T45 P) ∧ (¬ (v45 = 0) → wj_X11_bag_j98 (x1) (x2) (x3) (x4) (x5) I45 J45 T45 P)))))) ∧ (¬ (x5 = 0) → wj_X11_bag_j98 (x1) (x2) (x3) (x4) (x5) I J T P))
set_option maxRecDepth 20000 in
theorem tj_X11_bag_j72 {d : Nat} {x1 : Int32} {x2 : Int32} {x3 : Int32} {x4 : Int32} {x5 : Int32} {I : Nat → Nat → Int32} {J : Nat → Nat → Int64} {T : Option Nat} {P : Int32 → (Nat → Nat → Int32) → (Nat → Nat → Int64) → Option Nat → Prop} {Q : ix_Q} (h : wj_X11_bag_j72 x1 x2 x3 x4 x5 I J T P) (hQ : ∀ v I J T, P v I J T → Q (some (.inl v)) (ix_mem 276 I J T)) : ix_W (ix_C (d + 2)) (11, ix_lk ix_l211, (some .int), 0, 0, Nat.blt 0 0, none) Q (72, [some (.inr (.inr (.inl (some (0))))), some (.inl (x1)), some (.inl (x2)), some (.inl (x3)), some (.inl (x4)), some (.inl (x5))], [], 0, 0, ix_mem 276 I J T) := by
  unfold wj_X11_bag_j72 at h
  refine ix_go 2 (x' := (if x5 = 0 then 77 else 98, [some (.inr (.inr (.inl (some (0))))), some (.inl (x1)), some (.inl (x2)), some (.inl (x3)), some (.inl (x4)), some (.inl (x5))], [], 0, 0, ix_mem 276 I J T)) rfl trivial ?_
  refine ix_br (fun c16 => ?_) (fun c16 => ?_)
  · have h17 := h.1 c16
    obtain ⟨p18, h19⟩ := h17
    refine ix_go 6 (x' := (87, [some (.inr (.inr (.inl (some (0))))), some (.inl (x1)), some (.inl (x2)), some (.inl (x3)), some (.inl (x4)), some (.inl (x5))], [.inr (.inr (.inl (some (ix_row 1 (x2))))), .inr (.inr (.inl (some (8))))], 0, 0, ix_mem 276 I J T)) rfl ⟨rfl, rfl, rfl, rfl, rfl, rfl, rfl, p18, (rw_1 p18).1⟩ ?_
    rcases ix_four p18 with e | e | e | e
    · have h20 := h19.1 e
      rw [show ix_row 1 (x2) = 2 from by unfold ix_row; rw [e]; rfl]
      refine ix_go 1 (x' := (88, [some (.inr (.inr (.inl (some (0))))), some (.inl (x1)), some (.inl (x2)), some (.inl (x3)), some (.inl (x4)), some (.inl (x5))], [.inl (x3), .inr (.inr (.inl (some (2)))), .inr (.inr (.inl (some (8))))], 0, 0, ix_mem 276 I J T)) rfl trivial ?_
      refine ix_sp rfl ⟨rfl, ⟨ix_lt rfl, ix_eq rfl, ix_lt rfl⟩, ix_le rfl, Nat.le_refl _, Nat.le_refl _, tp_X5_isWay_r2 h20 (fun v21 I21 J21 T21 h21 => ?_)⟩
      change ix_W _ _ _ (91, [some (.inr (.inr (.inl (some (0))))), some (.inl (x1)), some (.inl (x2)), some (.inl (x3)), some (.inl (x4)), some (.inl (x5))], [.inl (v21)], 0, 0, ix_mem 276 I21 J21 T21)
      refine ix_go 1 (x' := (if v21 = 0 then 94 else 98, [some (.inr (.inr (.inl (some (0))))), some (.inl (x1)), some (.inl (x2)), some (.inl (x3)), some (.inl (x4)), some (.inl (x5))], [], 0, 0, ix_mem 276 I21 J21 T21)) rfl trivial ?_
      refine ix_br (fun c22 => ?_) (fun c22 => ?_)
      · have h23 := h21.1 c22
        refine ix_go 2 (x' := (98, [some (.inr (.inr (.inl (some (0))))), some (.inl (x1)), some (.inl (x2)), some (.inl (x3)), some (.inl (x4)), some (.inl ((6 : Int32)))], [], 0, 0, ix_mem 276 I21 J21 T21)) rfl trivial ?_
        refine ix_subW ([some (.inr (.inr (.inl (some (0))))), some (.inl (x1)), some (.inl (x2)), some (.inl (x3)), some (.inl (x4)), some (.inl ((6 : Int32)))]) (ix_subS (ix_subS (ix_subS (ix_subS (ix_subS (ix_subS (ix_sub0))))))) ?_
        exact tj_X11_bag_j98 h23 hQ
      · have h23 := h21.2 c22
        refine ix_subW ([some (.inr (.inr (.inl (some (0))))), some (.inl (x1)), some (.inl (x2)), some (.inl (x3)), some (.inl (x4)), some (.inl (x5))]) (ix_subS (ix_subS (ix_subS (ix_subS (ix_subS (ix_subS (ix_sub0))))))) ?_
        exact tj_X11_bag_j98 h23 hQ
    · have h20 := h19.2.1 e
      rw [show ix_row 1 (x2) = 3 from by unfold ix_row; rw [e]; rfl]
      refine ix_go 1 (x' := (88, [some (.inr (.inr (.inl (some (0))))), some (.inl (x1)), some (.inl (x2)), some (.inl (x3)), some (.inl (x4)), some (.inl (x5))], [.inl (x3), .inr (.inr (.inl (some (3)))), .inr (.inr (.inl (some (8))))], 0, 0, ix_mem 276 I J T)) rfl trivial ?_
      refine ix_sp rfl ⟨rfl, ⟨ix_lt rfl, ix_eq rfl, ix_lt rfl⟩, ix_le rfl, Nat.le_refl _, Nat.le_refl _, tp_X5_isWay_r3 h20 (fun v39 I39 J39 T39 h39 => ?_)⟩
      change ix_W _ _ _ (91, [some (.inr (.inr (.inl (some (0))))), some (.inl (x1)), some (.inl (x2)), some (.inl (x3)), some (.inl (x4)), some (.inl (x5))], [.inl (v39)], 0, 0, ix_mem 276 I39 J39 T39)
      refine ix_go 1 (x' := (if v39 = 0 then 94 else 98, [some (.inr (.inr (.inl (some (0))))), some (.inl (x1)), some (.inl (x2)), some (.inl (x3)), some (.inl (x4)), some (.inl (x5))], [], 0, 0, ix_mem 276 I39 J39 T39)) rfl trivial ?_
      refine ix_br (fun c40 => ?_) (fun c40 => ?_)
      · have h41 := h39.1 c40
        refine ix_go 2 (x' := (98, [some (.inr (.inr (.inl (some (0))))), some (.inl (x1)), some (.inl (x2)), some (.inl (x3)), some (.inl (x4)), some (.inl ((6 : Int32)))], [], 0, 0, ix_mem 276 I39 J39 T39)) rfl trivial ?_
        refine ix_subW ([some (.inr (.inr (.inl (some (0))))), some (.inl (x1)), some (.inl (x2)), some (.inl (x3)), some (.inl (x4)), some (.inl ((6 : Int32)))]) (ix_subS (ix_subS (ix_subS (ix_subS (ix_subS (ix_subS (ix_sub0))))))) ?_
        exact tj_X11_bag_j98 h41 hQ
      · have h41 := h39.2 c40
        refine ix_subW ([some (.inr (.inr (.inl (some (0))))), some (.inl (x1)), some (.inl (x2)), some (.inl (x3)), some (.inl (x4)), some (.inl (x5))]) (ix_subS (ix_subS (ix_subS (ix_subS (ix_subS (ix_subS (ix_sub0))))))) ?_
        exact tj_X11_bag_j98 h41 hQ
    · have h20 := h19.2.2.1 e
      rw [show ix_row 1 (x2) = 4 from by unfold ix_row; rw [e]; rfl]
      refine ix_go 1 (x' := (88, [some (.inr (.inr (.inl (some (0))))), some (.inl (x1)), some (.inl (x2)), some (.inl (x3)), some (.inl (x4)), some (.inl (x5))], [.inl (x3), .inr (.inr (.inl (some (4)))), .inr (.inr (.inl (some (8))))], 0, 0, ix_mem 276 I J T)) rfl trivial ?_
      refine ix_sp rfl ⟨rfl, ⟨ix_lt rfl, ix_eq rfl, ix_lt rfl⟩, ix_le rfl, Nat.le_refl _, Nat.le_refl _, tp_X5_isWay_r4 h20 (fun v42 I42 J42 T42 h42 => ?_)⟩
      change ix_W _ _ _ (91, [some (.inr (.inr (.inl (some (0))))), some (.inl (x1)), some (.inl (x2)), some (.inl (x3)), some (.inl (x4)), some (.inl (x5))], [.inl (v42)], 0, 0, ix_mem 276 I42 J42 T42)
      refine ix_go 1 (x' := (if v42 = 0 then 94 else 98, [some (.inr (.inr (.inl (some (0))))), some (.inl (x1)), some (.inl (x2)), some (.inl (x3)), some (.inl (x4)), some (.inl (x5))], [], 0, 0, ix_mem 276 I42 J42 T42)) rfl trivial ?_
      refine ix_br (fun c43 => ?_) (fun c43 => ?_)
      · have h44 := h42.1 c43
        refine ix_go 2 (x' := (98, [some (.inr (.inr (.inl (some (0))))), some (.inl (x1)), some (.inl (x2)), some (.inl (x3)), some (.inl (x4)), some (.inl ((6 : Int32)))], [], 0, 0, ix_mem 276 I42 J42 T42)) rfl trivial ?_
        refine ix_subW ([some (.inr (.inr (.inl (some (0))))), some (.inl (x1)), some (.inl (x2)), some (.inl (x3)), some (.inl (x4)), some (.inl ((6 : Int32)))]) (ix_subS (ix_subS (ix_subS (ix_subS (ix_subS (ix_subS (ix_sub0))))))) ?_
        exact tj_X11_bag_j98 h44 hQ
      · have h44 := h42.2 c43
        refine ix_subW ([some (.inr (.inr (.inl (some (0))))), some (.inl (x1)), some (.inl (x2)), some (.inl (x3)), some (.inl (x4)), some (.inl (x5))]) (ix_subS (ix_subS (ix_subS (ix_subS (ix_subS (ix_subS (ix_sub0))))))) ?_
        exact tj_X11_bag_j98 h44 hQ
    · have h20 := h19.2.2.2 e
      rw [show ix_row 1 (x2) = 5 from by unfold ix_row; rw [e]; rfl]
      refine ix_go 1 (x' := (88, [some (.inr (.inr (.inl (some (0))))), some (.inl (x1)), some (.inl (x2)), some (.inl (x3)), some (.inl (x4)), some (.inl (x5))], [.inl (x3), .inr (.inr (.inl (some (5)))), .inr (.inr (.inl (some (8))))], 0, 0, ix_mem 276 I J T)) rfl trivial ?_
      refine ix_sp rfl ⟨rfl, ⟨ix_lt rfl, ix_eq rfl, ix_lt rfl⟩, ix_le rfl, Nat.le_refl _, Nat.le_refl _, tp_X5_isWay_r5 h20 (fun v45 I45 J45 T45 h45 => ?_)⟩
      change ix_W _ _ _ (91, [some (.inr (.inr (.inl (some (0))))), some (.inl (x1)), some (.inl (x2)), some (.inl (x3)), some (.inl (x4)), some (.inl (x5))], [.inl (v45)], 0, 0, ix_mem 276 I45 J45 T45)
      refine ix_go 1 (x' := (if v45 = 0 then 94 else 98, [some (.inr (.inr (.inl (some (0))))), some (.inl (x1)), some (.inl (x2)), some (.inl (x3)), some (.inl (x4)), some (.inl (x5))], [], 0, 0, ix_mem 276 I45 J45 T45)) rfl trivial ?_
      refine ix_br (fun c46 => ?_) (fun c46 => ?_)
      · have h47 := h45.1 c46
        refine ix_go 2 (x' := (98, [some (.inr (.inr (.inl (some (0))))), some (.inl (x1)), some (.inl (x2)), some (.inl (x3)), some (.inl (x4)), some (.inl ((6 : Int32)))], [], 0, 0, ix_mem 276 I45 J45 T45)) rfl trivial ?_
        refine ix_subW ([some (.inr (.inr (.inl (some (0))))), some (.inl (x1)), some (.inl (x2)), some (.inl (x3)), some (.inl (x4)), some (.inl ((6 : Int32)))]) (ix_subS (ix_subS (ix_subS (ix_subS (ix_subS (ix_subS (ix_sub0))))))) ?_
        exact tj_X11_bag_j98 h47 hQ
      · have h47 := h45.2 c46
        refine ix_subW ([some (.inr (.inr (.inl (some (0))))), some (.inl (x1)), some (.inl (x2)), some (.inl (x3)), some (.inl (x4)), some (.inl (x5))]) (ix_subS (ix_subS (ix_subS (ix_subS (ix_subS (ix_subS (ix_sub0))))))) ?_
        exact tj_X11_bag_j98 h47 hQ
  · have h17 := h.2 c16
    refine ix_subW ([some (.inr (.inr (.inl (some (0))))), some (.inl (x1)), some (.inl (x2)), some (.inl (x3)), some (.inl (x4)), some (.inl (x5))]) (ix_subS (ix_subS (ix_subS (ix_subS (ix_subS (ix_subS (ix_sub0))))))) ?_
    exact tj_X11_bag_j98 h17 hQ
def wj_X11_bag_j46 (x1 : Int32) (x2 : Int32) (x3 : Int32) (x4 : Int32) (x5 : Int32) (I : Nat → Nat → Int32) (J : Nat → Nat → Int64) (T : Option Nat) (P : Int32 → (Nat → Nat → Int32) → (Nat → Nat → Int64) → Option Nat → Prop) : Prop := ((x5 = 0 → wp_X5_count I J T (fun v12 I12 J12 T12 => wp_X11_hasOnly (x2) (x3) ((v12) - ((1 : Int32))) I12 J12 T12 (fun v13 I13 J13 T13 => ((v13 = 0 → wj_X11_bag_j72 (x1) (x2) (x3) (x4) ((1 : Int32)) I13 J13 T13 P) ∧ (¬ (v13 = 0) → wj_X11_bag_j72 (x1) (x2) (x3) (x4) (x5) I13 J13 T13 P))))) ∧ (¬ (x5 = 0) → wj_X11_bag_j72 (x1) (x2) (x3) (x4) (x5) I J T P))
set_option maxRecDepth 20000 in
theorem tj_X11_bag_j46 {d : Nat} {x1 : Int32} {x2 : Int32} {x3 : Int32} {x4 : Int32} {x5 : Int32} {I : Nat → Nat → Int32} {J : Nat → Nat → Int64} {T : Option Nat} {P : Int32 → (Nat → Nat → Int32) → (Nat → Nat → Int64) → Option Nat → Prop} {Q : ix_Q} (h : wj_X11_bag_j46 x1 x2 x3 x4 x5 I J T P) (hQ : ∀ v I J T, P v I J T → Q (some (.inl v)) (ix_mem 276 I J T)) : ix_W (ix_C (d + 2)) (11, ix_lk ix_l211, (some .int), 0, 0, Nat.blt 0 0, none) Q (46, [some (.inr (.inr (.inl (some (0))))), some (.inl (x1)), some (.inl (x2)), some (.inl (x3)), some (.inl (x4)), some (.inl (x5))], [], 0, 0, ix_mem 276 I J T) := by
  unfold wj_X11_bag_j46 at h
  refine ix_go 2 (x' := (if x5 = 0 then 51 else 72, [some (.inr (.inr (.inl (some (0))))), some (.inl (x1)), some (.inl (x2)), some (.inl (x3)), some (.inl (x4)), some (.inl (x5))], [], 0, 0, ix_mem 276 I J T)) rfl trivial ?_
  refine ix_br (fun c10 => ?_) (fun c10 => ?_)
  · have h11 := h.1 c10
    refine ix_go 5 (x' := (58, [some (.inr (.inr (.inl (some (0))))), some (.inl (x1)), some (.inl (x2)), some (.inl (x3)), some (.inl (x4)), some (.inl (x5))], [.inr (.inr (.inl (some (8)))), .inl (x3), .inl (x2), .inr (.inr (.inl (some (0))))], 0, 0, ix_mem 276 I J T)) rfl ⟨rfl, rfl⟩ ?_
    refine ix_sp rfl ⟨rfl, ⟨ix_lt rfl, ix_eq rfl, ix_lt rfl⟩, ix_le rfl, Nat.le_refl _, Nat.le_refl _, tp_X5_count h11 (fun v12 I12 J12 T12 h12 => ?_)⟩
    change ix_W _ _ _ (61, [some (.inr (.inr (.inl (some (0))))), some (.inl (x1)), some (.inl (x2)), some (.inl (x3)), some (.inl (x4)), some (.inl (x5))], [.inl (v12), .inl (x3), .inl (x2), .inr (.inr (.inl (some (0))))], 0, 0, ix_mem 276 I12 J12 T12)
    refine ix_go 2 (x' := (63, [some (.inr (.inr (.inl (some (0))))), some (.inl (x1)), some (.inl (x2)), some (.inl (x3)), some (.inl (x4)), some (.inl (x5))], [.inl ((v12) - ((1 : Int32))), .inl (x3), .inl (x2), .inr (.inr (.inl (some (0))))], 0, 0, ix_mem 276 I12 J12 T12)) rfl trivial ?_
    refine ix_sp rfl ⟨rfl, ⟨ix_lt rfl, ix_eq rfl, ix_lt rfl⟩, ix_le rfl, Nat.le_refl _, Nat.le_refl _, tp_X11_hasOnly h12 (fun v13 I13 J13 T13 h13 => ?_)⟩
    change ix_W _ _ _ (66, [some (.inr (.inr (.inl (some (0))))), some (.inl (x1)), some (.inl (x2)), some (.inl (x3)), some (.inl (x4)), some (.inl (x5))], [.inl (v13)], 0, 0, ix_mem 276 I13 J13 T13)
    refine ix_go 1 (x' := (if v13 = 0 then 69 else 72, [some (.inr (.inr (.inl (some (0))))), some (.inl (x1)), some (.inl (x2)), some (.inl (x3)), some (.inl (x4)), some (.inl (x5))], [], 0, 0, ix_mem 276 I13 J13 T13)) rfl trivial ?_
    refine ix_br (fun c14 => ?_) (fun c14 => ?_)
    · have h15 := h13.1 c14
      refine ix_go 2 (x' := (72, [some (.inr (.inr (.inl (some (0))))), some (.inl (x1)), some (.inl (x2)), some (.inl (x3)), some (.inl (x4)), some (.inl ((1 : Int32)))], [], 0, 0, ix_mem 276 I13 J13 T13)) rfl trivial ?_
      refine ix_subW ([some (.inr (.inr (.inl (some (0))))), some (.inl (x1)), some (.inl (x2)), some (.inl (x3)), some (.inl (x4)), some (.inl ((1 : Int32)))]) (ix_subS (ix_subS (ix_subS (ix_subS (ix_subS (ix_subS (ix_sub0))))))) ?_
      exact tj_X11_bag_j72 h15 hQ
    · have h15 := h13.2 c14
      refine ix_subW ([some (.inr (.inr (.inl (some (0))))), some (.inl (x1)), some (.inl (x2)), some (.inl (x3)), some (.inl (x4)), some (.inl (x5))]) (ix_subS (ix_subS (ix_subS (ix_subS (ix_subS (ix_subS (ix_sub0))))))) ?_
      exact tj_X11_bag_j72 h15 hQ
  · have h11 := h.2 c10
    refine ix_subW ([some (.inr (.inr (.inl (some (0))))), some (.inl (x1)), some (.inl (x2)), some (.inl (x3)), some (.inl (x4)), some (.inl (x5))]) (ix_subS (ix_subS (ix_subS (ix_subS (ix_subS (ix_subS (ix_sub0))))))) ?_
    exact tj_X11_bag_j72 h11 hQ
def wp_X11_bag (a0 : Int32) (a1 : Int32) (a2 : Int32) (a3 : Int32) (I : Nat → Nat → Int32) (J : Nat → Nat → Int64) (T : Option Nat) (P : Int32 → (Nat → Nat → Int32) → (Nat → Nat → Int64) → Option Nat → Prop) : Prop := wp_X11_outside ((a0).toInt64) ((1 : Int64)) ((1000000 : Int64)) I J T (fun v1 I1 J1 T1 => ((v1 = 0 → wp_X11_outside ((a2).toInt64) ((2 : Int64)) ((5 : Int64)) I1 J1 T1 (fun v4 I4 J4 T4 => ((v4 = 0 → wp_X11_isDay (a3) I4 J4 T4 (fun v7 I7 J7 T7 => ((v7 = 0 → wj_X11_bag_j46 (a0) (a1) (a2) (a3) ((1 : Int32)) I7 J7 T7 P) ∧ (¬ (v7 = 0) → wp_X11_trayStatus (a1) ((0 : Int32)) (a2) I7 J7 T7 (fun v48 I48 J48 T48 => wj_X11_bag_j46 (a0) (a1) (a2) (a3) (v48) I48 J48 T48 P))))) ∧ (¬ (v4 = 0) → wj_X11_bag_j46 (a0) (a1) (a2) (a3) ((1 : Int32)) I4 J4 T4 P)))) ∧ (¬ (v1 = 0) → wj_X11_bag_j46 (a0) (a1) (a2) (a3) ((1 : Int32)) I1 J1 T1 P)))
set_option maxRecDepth 20000 in
theorem tp_X11_bag {d : Nat} {a0 : Int32} {a1 : Int32} {a2 : Int32} {a3 : Int32} {I : Nat → Nat → Int32} {J : Nat → Nat → Int64} {T : Option Nat} {P : Int32 → (Nat → Nat → Int32) → (Nat → Nat → Int64) → Option Nat → Prop} {Q : ix_Q} (h : wp_X11_bag a0 a1 a2 a3 I J T P) (hQ : ∀ v I J T, P v I J T → Q (some (.inl v)) (ix_mem 276 I J T)) : ix_C (d + 3) 211 [.inr (.inr (.inl (some (0)))), .inl (a0), .inl (a1), .inl (a2), .inl (a3)] (ix_mem 276 I J T) Q := by
  unfold wp_X11_bag at h
  refine ix_enter (ls := [some (.inr (.inr (.inl (some (0))))), some (.inl (a0)), some (.inl (a1)), some (.inl (a2)), some (.inl (a3)), none]) rfl rfl rfl (Nat.le_of_ble_eq_true rfl) ?_
  refine ix_go 6 (x' := (9, [some (.inr (.inr (.inl (some (0))))), some (.inl (a0)), some (.inl (a1)), some (.inl (a2)), some (.inl (a3)), some (.inl ((1 : Int32)))], [.inr (.inl ((1000000 : Int64))), .inr (.inl ((1 : Int64))), .inr (.inl ((a0).toInt64))], 0, 0, ix_mem 276 I J T)) rfl trivial ?_
  refine ix_sp rfl ⟨rfl, trivial, ix_le rfl, Nat.le_refl _, Nat.le_refl _, tp_X11_outside h (fun v1 I1 J1 T1 h1 => ?_)⟩
  change ix_W _ _ _ (12, [some (.inr (.inr (.inl (some (0))))), some (.inl (a0)), some (.inl (a1)), some (.inl (a2)), some (.inl (a3)), some (.inl ((1 : Int32)))], [.inl (v1)], 0, 0, ix_mem 276 I1 J1 T1)
  refine ix_go 1 (x' := (if v1 = 0 then 15 else 46, [some (.inr (.inr (.inl (some (0))))), some (.inl (a0)), some (.inl (a1)), some (.inl (a2)), some (.inl (a3)), some (.inl ((1 : Int32)))], [], 0, 0, ix_mem 276 I1 J1 T1)) rfl trivial ?_
  refine ix_br (fun c2 => ?_) (fun c2 => ?_)
  · have h3 := h1.1 c2
    refine ix_go 4 (x' := (23, [some (.inr (.inr (.inl (some (0))))), some (.inl (a0)), some (.inl (a1)), some (.inl (a2)), some (.inl (a3)), some (.inl ((1 : Int32)))], [.inr (.inl ((5 : Int64))), .inr (.inl ((2 : Int64))), .inr (.inl ((a2).toInt64))], 0, 0, ix_mem 276 I1 J1 T1)) rfl trivial ?_
    refine ix_sp rfl ⟨rfl, trivial, ix_le rfl, Nat.le_refl _, Nat.le_refl _, tp_X11_outside h3 (fun v4 I4 J4 T4 h4 => ?_)⟩
    change ix_W _ _ _ (26, [some (.inr (.inr (.inl (some (0))))), some (.inl (a0)), some (.inl (a1)), some (.inl (a2)), some (.inl (a3)), some (.inl ((1 : Int32)))], [.inl (v4)], 0, 0, ix_mem 276 I4 J4 T4)
    refine ix_go 1 (x' := (if v4 = 0 then 29 else 46, [some (.inr (.inr (.inl (some (0))))), some (.inl (a0)), some (.inl (a1)), some (.inl (a2)), some (.inl (a3)), some (.inl ((1 : Int32)))], [], 0, 0, ix_mem 276 I4 J4 T4)) rfl trivial ?_
    refine ix_br (fun c5 => ?_) (fun c5 => ?_)
    · have h6 := h4.1 c5
      refine ix_go 1 (x' := (31, [some (.inr (.inr (.inl (some (0))))), some (.inl (a0)), some (.inl (a1)), some (.inl (a2)), some (.inl (a3)), some (.inl ((1 : Int32)))], [.inl (a3)], 0, 0, ix_mem 276 I4 J4 T4)) rfl trivial ?_
      refine ix_sp rfl ⟨rfl, trivial, ix_le rfl, Nat.le_refl _, Nat.le_refl _, tp_X11_isDay h6 (fun v7 I7 J7 T7 h7 => ?_)⟩
      change ix_W _ _ _ (34, [some (.inr (.inr (.inl (some (0))))), some (.inl (a0)), some (.inl (a1)), some (.inl (a2)), some (.inl (a3)), some (.inl ((1 : Int32)))], [.inl (v7)], 0, 0, ix_mem 276 I7 J7 T7)
      refine ix_go 1 (x' := (if v7 = 0 then 46 else 37, [some (.inr (.inr (.inl (some (0))))), some (.inl (a0)), some (.inl (a1)), some (.inl (a2)), some (.inl (a3)), some (.inl ((1 : Int32)))], [], 0, 0, ix_mem 276 I7 J7 T7)) rfl trivial ?_
      refine ix_br (fun c8 => ?_) (fun c8 => ?_)
      · have h9 := h7.1 c8
        refine ix_subW ([some (.inr (.inr (.inl (some (0))))), some (.inl (a0)), some (.inl (a1)), some (.inl (a2)), some (.inl (a3)), some (.inl ((1 : Int32)))]) (ix_subS (ix_subS (ix_subS (ix_subS (ix_subS (ix_subS (ix_sub0))))))) ?_
        exact tj_X11_bag_j46 h9 hQ
      · have h9 := h7.2 c8
        refine ix_go 4 (x' := (41, [some (.inr (.inr (.inl (some (0))))), some (.inl (a0)), some (.inl (a1)), some (.inl (a2)), some (.inl (a3)), some (.inl ((1 : Int32)))], [.inl (a2), .inl ((0 : Int32)), .inl (a1), .inr (.inr (.inl (some (0))))], 0, 0, ix_mem 276 I7 J7 T7)) rfl trivial ?_
        refine ix_sp rfl ⟨rfl, ⟨ix_lt rfl, ix_eq rfl, ix_lt rfl⟩, ix_le rfl, Nat.le_refl _, Nat.le_refl _, tp_X11_trayStatus h9 (fun v48 I48 J48 T48 h48 => ?_)⟩
        change ix_W _ _ _ (44, [some (.inr (.inr (.inl (some (0))))), some (.inl (a0)), some (.inl (a1)), some (.inl (a2)), some (.inl (a3)), some (.inl ((1 : Int32)))], [.inl (v48)], 0, 0, ix_mem 276 I48 J48 T48)
        refine ix_go 1 (x' := (46, [some (.inr (.inr (.inl (some (0))))), some (.inl (a0)), some (.inl (a1)), some (.inl (a2)), some (.inl (a3)), some (.inl (v48))], [], 0, 0, ix_mem 276 I48 J48 T48)) rfl trivial ?_
        refine ix_subW ([some (.inr (.inr (.inl (some (0))))), some (.inl (a0)), some (.inl (a1)), some (.inl (a2)), some (.inl (a3)), some (.inl (v48))]) (ix_subS (ix_subS (ix_subS (ix_subS (ix_subS (ix_subS (ix_sub0))))))) ?_
        exact tj_X11_bag_j46 h48 hQ
    · have h6 := h4.2 c5
      refine ix_subW ([some (.inr (.inr (.inl (some (0))))), some (.inl (a0)), some (.inl (a1)), some (.inl (a2)), some (.inl (a3)), some (.inl ((1 : Int32)))]) (ix_subS (ix_subS (ix_subS (ix_subS (ix_subS (ix_subS (ix_sub0))))))) ?_
      exact tj_X11_bag_j46 h6 hQ
  · have h3 := h1.2 c2
    refine ix_subW ([some (.inr (.inr (.inl (some (0))))), some (.inl (a0)), some (.inl (a1)), some (.inl (a2)), some (.inl (a3)), some (.inl ((1 : Int32)))]) (ix_subS (ix_subS (ix_subS (ix_subS (ix_subS (ix_subS (ix_sub0))))))) ?_
    exact tj_X11_bag_j46 h3 hQ
