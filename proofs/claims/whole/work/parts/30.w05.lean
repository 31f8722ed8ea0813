def wp_X5_count (I : Nat → Nat → Int32) (J : Nat → Nat → Int64) (T : Option Nat) (P : Int32 → (Nat → Nat → Int32) → (Nat → Nat → Int64) → Option Nat → Prop) : Prop := P (I 8 0) I J T
set_option maxRecDepth 20000 in
theorem tp_X5_count {d : Nat} {I : Nat → Nat → Int32} {J : Nat → Nat → Int64} {T : Option Nat} {P : Int32 → (Nat → Nat → Int32) → (Nat → Nat → Int64) → Option Nat → Prop} {Q : ix_Q} (h : wp_X5_count I J T P) (hQ : ∀ v I J T, P v I J T → Q (some (.inl v)) (ix_mem 276 I J T)) : ix_C (d + 1) 69 [.inr (.inr (.inl (some (8))))] (ix_mem 276 I J T) Q := by
  unfold wp_X5_count at h
  refine ix_enter (ls := [some (.inr (.inr (.inl (some (8)))))]) rfl rfl rfl (Nat.le_of_ble_eq_true rfl) ?_
  refine ix_go 2 (x' := (4, [some (.inr (.inr (.inl (some (8)))))], [.inl (I 8 0)], 0, 0, ix_mem 276 I J T)) rfl ⟨rfl, rfl⟩ ?_
  exact ix_sp rfl ⟨Nat.le_refl _, Nat.le_refl _, trivial, hQ _ _ _ _ h⟩
def wp_X5_isFull (I : Nat → Nat → Int32) (J : Nat → Nat → Int64) (T : Option Nat) (P : Int32 → (Nat → Nat → Int32) → (Nat → Nat → Int64) → Option Nat → Prop) : Prop := ((I 8 0 < (7 : Int32) → P ((0 : Int32)) I J T) ∧ (¬ (I 8 0 < (7 : Int32)) → P ((1 : Int32)) I J T))
set_option maxRecDepth 20000 in
theorem tp_X5_isFull {d : Nat} {I : Nat → Nat → Int32} {J : Nat → Nat → Int64} {T : Option Nat} {P : Int32 → (Nat → Nat → Int32) → (Nat → Nat → Int64) → Option Nat → Prop} {Q : ix_Q} (h : wp_X5_isFull I J T P) (hQ : ∀ v I J T, P v I J T → Q (some (.inl v)) (ix_mem 276 I J T)) : ix_C (d + 1) 70 [.inr (.inr (.inl (some (8))))] (ix_mem 276 I J T) Q := by
  unfold wp_X5_isFull at h
  refine ix_enter (ls := [some (.inr (.inr (.inl (some (8)))))]) rfl rfl rfl (Nat.le_of_ble_eq_true rfl) ?_
  refine ix_go 4 (x' := (if I 8 0 < (7 : Int32) then 13 else 9, [some (.inr (.inr (.inl (some (8)))))], [], 0, 0, ix_mem 276 I J T)) rfl ⟨rfl, rfl⟩ ?_
  refine ix_br (fun c1 => ?_) (fun c1 => ?_)
  · have h2 := h.1 c1
    refine ix_go 1 (x' := (14, [some (.inr (.inr (.inl (some (8)))))], [.inl ((0 : Int32))], 0, 0, ix_mem 276 I J T)) rfl trivial ?_
    exact ix_sp rfl ⟨Nat.le_refl _, Nat.le_refl _, ix_01_ok rfl, hQ _ _ _ _ h2⟩
  · have h2 := h.2 c1
    refine ix_go 2 (x' := (14, [some (.inr (.inr (.inl (some (8)))))], [.inl ((1 : Int32))], 0, 0, ix_mem 276 I J T)) rfl trivial ?_
    exact ix_sp rfl ⟨Nat.le_refl _, Nat.le_refl _, ix_01_ok rfl, hQ _ _ _ _ h2⟩
def wp_X5_add (I : Nat → Nat → Int32) (J : Nat → Nat → Int64) (T : Option Nat) (P : Int32 → (Nat → Nat → Int32) → (Nat → Nat → Int64) → Option Nat → Prop) : Prop := P ((((I 8 0) + ((1 : Int32)))) - ((1 : Int32))) (ix_u2 I 8 0 ((I 8 0) + ((1 : Int32)))) J T
set_option maxRecDepth 20000 in
theorem tp_X5_add {d : Nat} {I : Nat → Nat → Int32} {J : Nat → Nat → Int64} {T : Option Nat} {P : Int32 → (Nat → Nat → Int32) → (Nat → Nat → Int64) → Option Nat → Prop} {Q : ix_Q} (h : wp_X5_add I J T P) (hQ : ∀ v I J T, P v I J T → Q (some (.inl v)) (ix_mem 276 I J T)) : ix_C (d + 1) 71 [.inr (.inr (.inl (some (8))))] (ix_mem 276 I J T) Q := by
  unfold wp_X5_add at h
  refine ix_enter (ls := [some (.inr (.inr (.inl (some (8)))))]) rfl rfl rfl (Nat.le_of_ble_eq_true rfl) ?_
  refine ix_go 10 (x' := (16, [some (.inr (.inr (.inl (some (8)))))], [.inl ((((I 8 0) + ((1 : Int32)))) - ((1 : Int32)))], 0, 0, ix_mem 276 (ix_u2 I 8 0 ((I 8 0) + ((1 : Int32)))) J T)) rfl ⟨rfl, rfl, rfl, rfl, rfl, rfl⟩ ?_
  exact ix_sp rfl ⟨Nat.le_refl _, Nat.le_refl _, trivial, hQ _ _ _ _ h⟩
def wp_X5_isGoldFull (I : Nat → Nat → Int32) (J : Nat → Nat → Int64) (T : Option Nat) (P : Int32 → (Nat → Nat → Int32) → (Nat → Nat → Int64) → Option Nat → Prop) : Prop := ((I 8 1 < (40 : Int32) → P ((0 : Int32)) I J T) ∧ (¬ (I 8 1 < (40 : Int32)) → P ((1 : Int32)) I J T))
set_option maxRecDepth 20000 in
theorem tp_X5_isGoldFull {d : Nat} {I : Nat → Nat → Int32} {J : Nat → Nat → Int64} {T : Option Nat} {P : Int32 → (Nat → Nat → Int32) → (Nat → Nat → Int64) → Option Nat → Prop} {Q : ix_Q} (h : wp_X5_isGoldFull I J T P) (hQ : ∀ v I J T, P v I J T → Q (some (.inl v)) (ix_mem 276 I J T)) : ix_C (d + 1) 72 [.inr (.inr (.inl (some (8))))] (ix_mem 276 I J T) Q := by
  unfold wp_X5_isGoldFull at h
  refine ix_enter (ls := [some (.inr (.inr (.inl (some (8)))))]) rfl rfl rfl (Nat.le_of_ble_eq_true rfl) ?_
  refine ix_go 4 (x' := (if I 8 1 < (40 : Int32) then 13 else 9, [some (.inr (.inr (.inl (some (8)))))], [], 0, 0, ix_mem 276 I J T)) rfl ⟨rfl, rfl⟩ ?_
  refine ix_br (fun c1 => ?_) (fun c1 => ?_)
  · have h2 := h.1 c1
    refine ix_go 1 (x' := (14, [some (.inr (.inr (.inl (some (8)))))], [.inl ((0 : Int32))], 0, 0, ix_mem 276 I J T)) rfl trivial ?_
    exact ix_sp rfl ⟨Nat.le_refl _, Nat.le_refl _, ix_01_ok rfl, hQ _ _ _ _ h2⟩
  · have h2 := h.2 c1
    refine ix_go 2 (x' := (14, [some (.inr (.inr (.inl (some (8)))))], [.inl ((1 : Int32))], 0, 0, ix_mem 276 I J T)) rfl trivial ?_
    exact ix_sp rfl ⟨Nat.le_refl _, Nat.le_refl _, ix_01_ok rfl, hQ _ _ _ _ h2⟩
def wp_X5_addGold (a0 : Int32) (a1 : Int32) (a2 : Int32) (I : Nat → Nat → Int32) (J : Nat → Nat → Int64) (T : Option Nat) (P : (Nat → Nat → Int32) → (Nat → Nat → Int64) → Option Nat → Prop) : Prop := ix_inb (I 8 1) 40 = true ∧ ix_inb (I 8 1) 40 = true ∧ ix_inb (I 8 1) 40 = true ∧ P (ix_u2 (ix_u2 (ix_u2 (ix_u2 I 9 (I 8 1).toNatClampNeg (a0)) 10 (I 8 1).toNatClampNeg (a1)) 11 (I 8 1).toNatClampNeg (a2)) 8 1 ((I 8 1) + ((1 : Int32)))) J T
set_option maxRecDepth 20000 in
theorem tp_X5_addGold {d : Nat} {a0 : Int32} {a1 : Int32} {a2 : Int32} {I : Nat → Nat → Int32} {J : Nat → Nat → Int64} {T : Option Nat} {P : (Nat → Nat → Int32) → (Nat → Nat → Int64) → Option Nat → Prop} {Q : ix_Q} (h : wp_X5_addGold a0 a1 a2 I J T P) (hQ : ∀ I J T, P I J T → Q none (ix_mem 276 I J T)) : ix_C (d + 1) 73 [.inr (.inr (.inl (some (8)))), .inl (a0), .inl (a1), .inl (a2)] (ix_mem 276 I J T) Q := by
  unfold wp_X5_addGold at h
  refine ix_enter (ls := [some (.inr (.inr (.inl (some (8))))), some (.inl (a0)), some (.inl (a1)), some (.inl (a2))]) rfl rfl rfl (Nat.le_of_ble_eq_true rfl) ?_
  obtain ⟨p1, h2⟩ := h
  obtain ⟨p3, h4⟩ := h2
  obtain ⟨p5, h6⟩ := h4
  refine ix_go 24 (x' := (40, [some (.inr (.inr (.inl (some (8))))), some (.inl (a0)), some (.inl (a1)), some (.inl (a2))], [], 0, 0, ix_mem 276 (ix_u2 (ix_u2 (ix_u2 (ix_u2 I 9 (I 8 1).toNatClampNeg (a0)) 10 (I 8 1).toNatClampNeg (a1)) 11 (I 8 1).toNatClampNeg (a2)) 8 1 ((I 8 1) + ((1 : Int32)))) J T)) rfl ⟨rfl, rfl, rfl, rfl, rfl, rfl, p1, rfl, rfl, rfl, rfl, rfl, rfl, p3, rfl, rfl, rfl, rfl, rfl, rfl, p5, rfl, rfl, rfl, rfl⟩ ?_
  exact ix_sp rfl ⟨Nat.le_refl _, Nat.le_refl _, rfl, hQ _ _ _ h6⟩
def wb_X5_goldOn_10 (x1 : Int32) (x2 : Int32) (x3 : Int32) (x4 : Int32) (x5 : Int32) (I : Nat → Nat → Int32) (J : Nat → Nat → Int64) (T : Option Nat) (V10 : Int32 → Int32 → Int32 → Int32 → Int32 → (Nat → Nat → Int32) → (Nat → Nat → Int64) → Option Nat → Prop) (P : Int32 → (Nat → Nat → Int32) → (Nat → Nat → Int64) → Option Nat → Prop) : Prop := ((x5 < I 8 1 → ix_inb (x5) 40 = true ∧ ((I 9 (x5).toNatClampNeg = x1 → ix_inb (x5) 40 = true ∧ ((I 10 (x5).toNatClampNeg ≤ x2 → ix_inb (x5) 40 = true ∧ ((I 10 (x5).toNatClampNeg < x4 → V10 (x1) (x2) (x3) (x4) (x5 + (1 : Int32)) I J T) ∧ (¬ (I 10 (x5).toNatClampNeg < x4) → ix_inb (x5) 40 = true ∧ ix_inb (x5) 40 = true ∧ V10 (x1) (x2) (I 11 (x5).toNatClampNeg) (I 10 (x5).toNatClampNeg) (x5 + (1 : Int32)) I J T))) ∧ (¬ (I 10 (x5).toNatClampNeg ≤ x2) → V10 (x1) (x2) (x3) (x4) (x5 + (1 : Int32)) I J T))) ∧ (¬ (I 9 (x5).toNatClampNeg = x1) → V10 (x1) (x2) (x3) (x4) (x5 + (1 : Int32)) I J T))) ∧ (¬ (x5 < I 8 1) → P (x3) I J T))
def wl_X5_goldOn_10 (x1 : Int32) (x2 : Int32) (x3 : Int32) (x4 : Int32) (x5 : Int32) (I : Nat → Nat → Int32) (J : Nat → Nat → Int64) (T : Option Nat) (P : Int32 → (Nat → Nat → Int32) → (Nat → Nat → Int64) → Option Nat → Prop) : Prop := ∀ V : Int32 → Int32 → Int32 → Int32 → Int32 → (Nat → Nat → Int32) → (Nat → Nat → Int64) → Option Nat → Prop, (∀ (x1 : Int32) (x2 : Int32) (x3 : Int32) (x4 : Int32) (x5 : Int32) (I : Nat → Nat → Int32) (J : Nat → Nat → Int64) (T : Option Nat), wb_X5_goldOn_10 x1 x2 x3 x4 x5 I J T V P → V x1 x2 x3 x4 x5 I J T) → V x1 x2 x3 x4 x5 I J T
set_option maxRecDepth 20000 in
theorem tl_X5_goldOn_10 {d : Nat} {x1 : Int32} {x2 : Int32} {x3 : Int32} {x4 : Int32} {x5 : Int32} {I : Nat → Nat → Int32} {J : Nat → Nat → Int64} {T : Option Nat} {P : Int32 → (Nat → Nat → Int32) → (Nat → Nat → Int64) → Option Nat → Prop} {Q : ix_Q} (h : wl_X5_goldOn_10 x1 x2 x3 x4 x5 I J T P) (hQ : ∀ v I J T, P v I J T → Q (some (.inl v)) (ix_mem 276 I J T)) : ix_W (ix_C d) (5, ix_lk ix_l74, (some .int), 0, 0, Nat.blt 0 0, none) Q (10, [some (.inr (.inr (.inl (some (8))))), some (.inl (x1)), some (.inl (x2)), some (.inl (x3)), some (.inl (x4)), some (.inl (x5))], [], 0, 0, ix_mem 276 I J T) := by
  refine h (fun x1 x2 x3 x4 x5 I J T => ix_W (ix_C d) (5, ix_lk ix_l74, (some .int), 0, 0, Nat.blt 0 0, none) Q (10, [some (.inr (.inr (.inl (some (8))))), some (.inl (x1)), some (.inl (x2)), some (.inl (x3)), some (.inl (x4)), some (.inl (x5))], [], 0, 0, ix_mem 276 I J T)) ?_
  intro x1 x2 x3 x4 x5 I J T hb
  unfold wb_X5_goldOn_10 at hb
  refine ix_go 4 (x' := (if x5 < I 8 1 then 19 else 76, [some (.inr (.inr (.inl (some (8))))), some (.inl (x1)), some (.inl (x2)), some (.inl (x3)), some (.inl (x4)), some (.inl (x5))], [], 0, 0, ix_mem 276 I J T)) rfl ⟨rfl, rfl⟩ ?_
  refine ix_br (fun c1 => ?_) (fun c1 => ?_)
  · have h2 := hb.1 c1
    obtain ⟨p3, h4⟩ := h2
    refine ix_go 6 (x' := (if I 9 (x5).toNatClampNeg = x1 then 30 else 70, [some (.inr (.inr (.inl (some (8))))), some (.inl (x1)), some (.inl (x2)), some (.inl (x3)), some (.inl (x4)), some (.inl (x5))], [], 0, 0, ix_mem 276 I J T)) rfl ⟨rfl, rfl, rfl, rfl, p3⟩ ?_
    refine ix_br (fun c5 => ?_) (fun c5 => ?_)
    · have h6 := h4.1 c5
      obtain ⟨p7, h8⟩ := h6
      refine ix_go 6 (x' := (if I 10 (x5).toNatClampNeg ≤ x2 then 41 else 70, [some (.inr (.inr (.inl (some (8))))), some (.inl (x1)), some (.inl (x2)), some (.inl (x3)), some (.inl (x4)), some (.inl (x5))], [], 0, 0, ix_mem 276 I J T)) rfl ⟨rfl, rfl, rfl, rfl, p7⟩ ?_
      refine ix_br (fun c9 => ?_) (fun c9 => ?_)
      · have h10 := h8.1 c9
        obtain ⟨p11, h12⟩ := h10
        refine ix_go 6 (x' := (if I 10 (x5).toNatClampNeg < x4 then 70 else 53, [some (.inr (.inr (.inl (some (8))))), some (.inl (x1)), some (.inl (x2)), some (.inl (x3)), some (.inl (x4)), some (.inl (x5))], [], 0, 0, ix_mem 276 I J T)) rfl ⟨rfl, rfl, rfl, rfl, p11⟩ ?_
        refine ix_br (fun c13 => ?_) (fun c13 => ?_)
        · have h14 := h12.1 c13
          refine ix_go 2 (x' := (10, [some (.inr (.inr (.inl (some (8))))), some (.inl (x1)), some (.inl (x2)), some (.inl (x3)), some (.inl (x4)), some (.inl (x5 + (1 : Int32)))], [], 0, 0, ix_mem 276 I J T)) rfl trivial ?_
          refine ix_subW ([some (.inr (.inr (.inl (some (8))))), some (.inl (x1)), some (.inl (x2)), some (.inl (x3)), some (.inl (x4)), some (.inl (x5 + (1 : Int32)))]) (ix_subS (ix_subS (ix_subS (ix_subS (ix_subS (ix_subS (ix_sub0))))))) ?_
          exact h14
        · have h14 := h12.2 c13
          obtain ⟨p15, h16⟩ := h14
          obtain ⟨p17, h18⟩ := h16
          refine ix_go 12 (x' := (10, [some (.inr (.inr (.inl (some (8))))), some (.inl (x1)), some (.inl (x2)), some (.inl (I 11 (x5).toNatClampNeg)), some (.inl (I 10 (x5).toNatClampNeg)), some (.inl (x5 + (1 : Int32)))], [], 0, 0, ix_mem 276 I J T)) rfl ⟨rfl, rfl, rfl, rfl, p15, rfl, rfl, rfl, rfl, p17⟩ ?_
          refine ix_subW ([some (.inr (.inr (.inl (some (8))))), some (.inl (x1)), some (.inl (x2)), some (.inl (I 11 (x5).toNatClampNeg)), some (.inl (I 10 (x5).toNatClampNeg)), some (.inl (x5 + (1 : Int32)))]) (ix_subS (ix_subS (ix_subS (ix_subS (ix_subS (ix_subS (ix_sub0))))))) ?_
          exact h18
      · have h10 := h8.2 c9
        refine ix_go 2 (x' := (10, [some (.inr (.inr (.inl (some (8))))), some (.inl (x1)), some (.inl (x2)), some (.inl (x3)), some (.inl (x4)), some (.inl (x5 + (1 : Int32)))], [], 0, 0, ix_mem 276 I J T)) rfl trivial ?_
        refine ix_subW ([some (.inr (.inr (.inl (some (8))))), some (.inl (x1)), some (.inl (x2)), some (.inl (x3)), some (.inl (x4)), some (.inl (x5 + (1 : Int32)))]) (ix_subS (ix_subS (ix_subS (ix_subS (ix_subS (ix_subS (ix_sub0))))))) ?_
        exact h10
    · have h6 := h4.2 c5
      refine ix_go 2 (x' := (10, [some (.inr (.inr (.inl (some (8))))), some (.inl (x1)), some (.inl (x2)), some (.inl (x3)), some (.inl (x4)), some (.inl (x5 + (1 : Int32)))], [], 0, 0, ix_mem 276 I J T)) rfl trivial ?_
      refine ix_subW ([some (.inr (.inr (.inl (some (8))))), some (.inl (x1)), some (.inl (x2)), some (.inl (x3)), some (.inl (x4)), some (.inl (x5 + (1 : Int32)))]) (ix_subS (ix_subS (ix_subS (ix_subS (ix_subS (ix_subS (ix_sub0))))))) ?_
      exact h6
  · have h2 := hb.2 c1
    refine ix_go 1 (x' := (77, [some (.inr (.inr (.inl (some (8))))), some (.inl (x1)), some (.inl (x2)), some (.inl (x3)), some (.inl (x4)), some (.inl (x5))], [.inl (x3)], 0, 0, ix_mem 276 I J T)) rfl trivial ?_
    exact ix_sp rfl ⟨Nat.le_refl _, Nat.le_refl _, trivial, hQ _ _ _ _ h2⟩
def wp_X5_goldOn (a0 : Int32) (a1 : Int32) (I : Nat → Nat → Int32) (J : Nat → Nat → Int64) (T : Option Nat) (P : Int32 → (Nat → Nat → Int32) → (Nat → Nat → Int64) → Option Nat → Prop) : Prop := wl_X5_goldOn_10 (a0) (a1) ((1000 : Int32)) ((-1 : Int32)) ((0 : Int32)) I J T P
set_option maxRecDepth 20000 in
theorem tp_X5_goldOn {d : Nat} {a0 : Int32} {a1 : Int32} {I : Nat → Nat → Int32} {J : Nat → Nat → Int64} {T : Option Nat} {P : Int32 → (Nat → Nat → Int32) → (Nat → Nat → Int64) → Option Nat → Prop} {Q : ix_Q} (h : wp_X5_goldOn a0 a1 I J T P) (hQ : ∀ v I J T, P v I J T → Q (some (.inl v)) (ix_mem 276 I J T)) : ix_C (d + 1) 74 [.inr (.inr (.inl (some (8)))), .inl (a0), .inl (a1)] (ix_mem 276 I J T) Q := by
  unfold wp_X5_goldOn at h
  refine ix_enter (ls := [some (.inr (.inr (.inl (some (8))))), some (.inl (a0)), some (.inl (a1)), none, none, none]) rfl rfl rfl (Nat.le_of_ble_eq_true rfl) ?_
  refine ix_go 6 (x' := (10, [some (.inr (.inr (.inl (some (8))))), some (.inl (a0)), some (.inl (a1)), some (.inl ((1000 : Int32))), some (.inl ((-1 : Int32))), some (.inl ((0 : Int32)))], [], 0, 0, ix_mem 276 I J T)) rfl trivial ?_
  refine ix_subW ([some (.inr (.inr (.inl (some (8))))), some (.inl (a0)), some (.inl (a1)), some (.inl ((1000 : Int32))), some (.inl ((-1 : Int32))), some (.inl ((0 : Int32)))]) (ix_subS (ix_subS (ix_subS (ix_subS (ix_subS (ix_subS (ix_sub0))))))) ?_
  exact tl_X5_goldOn_10 h hQ
def wp_X5_freightOf (a0 : Int32) (a1 : Int32) (I : Nat → Nat → Int32) (J : Nat → Nat → Int64) (T : Option Nat) (P : Int32 → (Nat → Nat → Int32) → (Nat → Nat → Int64) → Option Nat → Prop) : Prop := ix_inb (a0) 7 = true ∧ ix_inb (a1) 7 = true ∧ P (I (ix_row 20 (a0)) (a1).toNatClampNeg) I J T
set_option maxRecDepth 20000 in
theorem tp_X5_freightOf {d : Nat} {a0 : Int32} {a1 : Int32} {I : Nat → Nat → Int32} {J : Nat → Nat → Int64} {T : Option Nat} {P : Int32 → (Nat → Nat → Int32) → (Nat → Nat → Int64) → Option Nat → Prop} {Q : ix_Q} (h : wp_X5_freightOf a0 a1 I J T P) (hQ : ∀ v I J T, P v I J T → Q (some (.inl v)) (ix_mem 276 I J T)) : ix_C (d + 1) 75 [.inr (.inr (.inl (some (8)))), .inl (a0), .inl (a1)] (ix_mem 276 I J T) Q := by
  unfold wp_X5_freightOf at h
  refine ix_enter (ls := [some (.inr (.inr (.inl (some (8))))), some (.inl (a0)), some (.inl (a1))]) rfl rfl rfl (Nat.le_of_ble_eq_true rfl) ?_
  obtain ⟨p1, h2⟩ := h
  obtain ⟨p3, h4⟩ := h2
  refine ix_go 6 (x' := (8, [some (.inr (.inr (.inl (some (8))))), some (.inl (a0)), some (.inl (a1))], [.inl (I (ix_row 20 (a0)) (a1).toNatClampNeg)], 0, 0, ix_mem 276 I J T)) rfl ⟨rfl, rfl, rfl, rfl, rfl, p1, (rw_20 p1).1, (rw_20 p1).2.1, (rw_20 p1).2.2.1, (ix_inbL (rw_20 p1).2.2.2.1 p3)⟩ ?_
  exact ix_sp rfl ⟨Nat.le_refl _, Nat.le_refl _, trivial, hQ _ _ _ _ h4⟩
def wp_X5_setRoad (a0 : Int32) (a1 : Int32) (a2 : Int32) (a3 : Int32) (I : Nat → Nat → Int32) (J : Nat → Nat → Int64) (T : Option Nat) (P : (Nat → Nat → Int32) → (Nat → Nat → Int64) → Option Nat → Prop) : Prop := ix_inb (a0) 7 = true ∧ ix_inb (a1) 7 = true ∧ ix_inb (a1) 7 = true ∧ ix_inb (a0) 7 = true ∧ ix_inb (a0) 7 = true ∧ ix_inb (a1) 7 = true ∧ ix_inb (a1) 7 = true ∧ ix_inb (a0) 7 = true ∧ wp_X5_findCarriages (ix_u2 (ix_u2 (ix_u2 (ix_u2 I (ix_row 12 (a0)) (a1).toNatClampNeg (a2)) (ix_row 12 (a1)) (a0).toNatClampNeg (a2)) (ix_row 20 (a0)) (a1).toNatClampNeg (a3)) (ix_row 20 (a1)) (a0).toNatClampNeg (a3)) J T (fun I17 J17 T17 => P I17 J17 T17)
set_option maxRecDepth 20000 in
theorem tp_X5_setRoad {d : Nat} {a0 : Int32} {a1 : Int32} {a2 : Int32} {a3 : Int32} {I : Nat → Nat → Int32} {J : Nat → Nat → Int64} {T : Option Nat} {P : (Nat → Nat → Int32) → (Nat → Nat → Int64) → Option Nat → Prop} {Q : ix_Q} (h : wp_X5_setRoad a0 a1 a2 a3 I J T P) (hQ : ∀ I J T, P I J T → Q none (ix_mem 276 I J T)) : ix_C (d + 3) 76 [.inr (.inr (.inl (some (8)))), .inl (a0), .inl (a1), .inl (a2), .inl (a3)] (ix_mem 276 I J T) Q := by
  unfold wp_X5_setRoad at h
  refine ix_enter (ls := [some (.inr (.inr (.inl (some (8))))), some (.inl (a0)), some (.inl (a1)), some (.inl (a2)), some (.inl (a3))]) rfl rfl rfl (Nat.le_of_ble_eq_true rfl) ?_
  obtain ⟨p1, h2⟩ := h
  obtain ⟨p3, h4⟩ := h2
  obtain ⟨p5, h6⟩ := h4
  obtain ⟨p7, h8⟩ := h6
  obtain ⟨p9, h10⟩ := h8
  obtain ⟨p11, h12⟩ := h10
  obtain ⟨p13, h14⟩ := h12
  obtain ⟨p15, h16⟩ := h14
  refine ix_go 29 (x' := (39, [some (.inr (.inr (.inl (some (8))))), some (.inl (a0)), some (.inl (a1)), some (.inl (a2)), some (.inl (a3))], [.inr (.inr (.inl (some (8))))], 0, 0, ix_mem 276 (ix_u2 (ix_u2 (ix_u2 (ix_u2 I (ix_row 12 (a0)) (a1).toNatClampNeg (a2)) (ix_row 12 (a1)) (a0).toNatClampNeg (a2)) (ix_row 20 (a0)) (a1).toNatClampNeg (a3)) (ix_row 20 (a1)) (a0).toNatClampNeg (a3)) J T)) rfl ⟨rfl, rfl, rfl, rfl, rfl, p1, (rw_12 p1).1, (rw_12 p1).2.1, (rw_12 p1).2.2.1, (ix_inbL (rw_12 p1).2.2.2.1 p3), rfl, rfl, rfl, rfl, rfl, p5, (rw_12 p5).1, (rw_12 p5).2.1, (rw_12 p5).2.2.1, (ix_inbL (rw_12 p5).2.2.2.1 p7), rfl, rfl, rfl, rfl, rfl, p9, (rw_20 p9).1, (rw_20 p9).2.1, (rw_20 p9).2.2.1, (ix_inbL (rw_20 p9).2.2.2.1 p11), rfl, rfl, rfl, rfl, rfl, p13, (rw_20 p13).1, (rw_20 p13).2.1, (rw_20 p13).2.2.1, (ix_inbL (rw_20 p13).2.2.2.1 p15)⟩ ?_
  refine ix_sp rfl ⟨rfl, ⟨ix_lt rfl, ix_eq rfl, ix_lt rfl⟩, ix_le rfl, Nat.le_refl _, Nat.le_refl _, tp_X5_findCarriages h16 (fun I17 J17 T17 h17 => ?_)⟩
  change ix_W _ _ _ (42, [some (.inr (.inr (.inl (some (8))))), some (.inl (a0)), some (.inl (a1)), some (.inl (a2)), some (.inl (a3))], [], 0, 0, ix_mem 276 I17 J17 T17)
  exact ix_sp rfl ⟨Nat.le_refl _, Nat.le_refl _, rfl, hQ _ _ _ h17⟩
def wp_X5_isReached (a0 : Int32) (a1 : Int32) (I : Nat → Nat → Int32) (J : Nat → Nat → Int64) (T : Option Nat) (P : Int32 → (Nat → Nat → Int32) → (Nat → Nat → Int64) → Option Nat → Prop) : Prop := ix_inb (a0) 7 = true ∧ ix_inb (a1) 7 = true ∧ ((I (ix_row 28 (a0)) (a1).toNatClampNeg < (1000000 : Int32) → P ((1 : Int32)) I J T) ∧ (¬ (I (ix_row 28 (a0)) (a1).toNatClampNeg < (1000000 : Int32)) → P ((0 : Int32)) I J T))
set_option maxRecDepth 20000 in
theorem tp_X5_isReached {d : Nat} {a0 : Int32} {a1 : Int32} {I : Nat → Nat → Int32} {J : Nat → Nat → Int64} {T : Option Nat} {P : Int32 → (Nat → Nat → Int32) → (Nat → Nat → Int64) → Option Nat → Prop} {Q : ix_Q} (h : wp_X5_isReached a0 a1 I J T P) (hQ : ∀ v I J T, P v I J T → Q (some (.inl v)) (ix_mem 276 I J T)) : ix_C (d + 1) 77 [.inr (.inr (.inl (some (8)))), .inl (a0), .inl (a1)] (ix_mem 276 I J T) Q := by
  unfold wp_X5_isReached at h
  refine ix_enter (ls := [some (.inr (.inr (.inl (some (8))))), some (.inl (a0)), some (.inl (a1))]) rfl rfl rfl (Nat.le_of_ble_eq_true rfl) ?_
  obtain ⟨p1, h2⟩ := h
  obtain ⟨p3, h4⟩ := h2
  refine ix_go 8 (x' := (if I (ix_row 28 (a0)) (a1).toNatClampNeg < (1000000 : Int32) then 13 else 17, [some (.inr (.inr (.inl (some (8))))), some (.inl (a0)), some (.inl (a1))], [], 0, 0, ix_mem 276 I J T)) rfl ⟨rfl, rfl, rfl, rfl, rfl, p1, (rw_28 p1).1, (rw_28 p1).2.1, (rw_28 p1).2.2.1, (ix_inbL (rw_28 p1).2.2.2.1 p3)⟩ ?_
  refine ix_br (fun c5 => ?_) (fun c5 => ?_)
  · have h6 := h4.1 c5
    refine ix_go 2 (x' := (18, [some (.inr (.inr (.inl (some (8))))), some (.inl (a0)), some (.inl (a1))], [.inl ((1 : Int32))], 0, 0, ix_mem 276 I J T)) rfl trivial ?_
    exact ix_sp rfl ⟨Nat.le_refl _, Nat.le_refl _, ix_01_ok rfl, hQ _ _ _ _ h6⟩
  · have h6 := h4.2 c5
    refine ix_go 1 (x' := (18, [some (.inr (.inr (.inl (some (8))))), some (.inl (a0)), some (.inl (a1))], [.inl ((0 : Int32))], 0, 0, ix_mem 276 I J T)) rfl trivial ?_
    exact ix_sp rfl ⟨Nat.le_refl _, Nat.le_refl _, ix_01_ok rfl, hQ _ _ _ _ h6⟩
def wp_X5_carriage (a0 : Int32) (a1 : Int32) (I : Nat → Nat → Int32) (J : Nat → Nat → Int64) (T : Option Nat) (P : Int32 → (Nat → Nat → Int32) → (Nat → Nat → Int64) → Option Nat → Prop) : Prop := ix_inb (a0) 7 = true ∧ ix_inb (a1) 7 = true ∧ P (I (ix_row 28 (a0)) (a1).toNatClampNeg) I J T
set_option maxRecDepth 20000 in
theorem tp_X5_carriage {d : Nat} {a0 : Int32} {a1 : Int32} {I : Nat → Nat → Int32} {J : Nat → Nat → Int64} {T : Option Nat} {P : Int32 → (Nat → Nat → Int32) → (Nat → Nat → Int64) → Option Nat → Prop} {Q : ix_Q} (h : wp_X5_carriage a0 a1 I J T P) (hQ : ∀ v I J T, P v I J T → Q (some (.inl v)) (ix_mem 276 I J T)) : ix_C (d + 1) 78 [.inr (.inr (.inl (some (8)))), .inl (a0), .inl (a1)] (ix_mem 276 I J T) Q := by
  unfold wp_X5_carriage at h
  refine ix_enter (ls := [some (.inr (.inr (.inl (some (8))))), some (.inl (a0)), some (.inl (a1))]) rfl rfl rfl (Nat.le_of_ble_eq_true rfl) ?_
  obtain ⟨p1, h2⟩ := h
  obtain ⟨p3, h4⟩ := h2
  refine ix_go 6 (x' := (8, [some (.inr (.inr (.inl (some (8))))), some (.inl (a0)), some (.inl (a1))], [.inl (I (ix_row 28 (a0)) (a1).toNatClampNeg)], 0, 0, ix_mem 276 I J T)) rfl ⟨rfl, rfl, rfl, rfl, rfl, p1, (rw_28 p1).1, (rw_28 p1).2.1, (rw_28 p1).2.2.1, (ix_inbL (rw_28 p1).2.2.2.1 p3)⟩ ?_
  exact ix_sp rfl ⟨Nat.le_refl _, Nat.le_refl _, trivial, hQ _ _ _ _ h4⟩
def wp_X5_setRate (a0 : Int32) (a1 : Int32) (a2 : Int32) (I : Nat → Nat → Int32) (J : Nat → Nat → Int64) (T : Option Nat) (P : (Nat → Nat → Int32) → (Nat → Nat → Int64) → Option Nat → Prop) : Prop := ix_inb (a0) 7 = true ∧ ix_inb (a1) 7 = true ∧ P (ix_u2 I (ix_row 36 (a0)) (a1).toNatClampNeg (a2)) J T
set_option maxRecDepth 20000 in
theorem tp_X5_setRate {d : Nat} {a0 : Int32} {a1 : Int32} {a2 : Int32} {I : Nat → Nat → Int32} {J : Nat → Nat → Int64} {T : Option Nat} {P : (Nat → Nat → Int32) → (Nat → Nat → Int64) → Option Nat → Prop} {Q : ix_Q} (h : wp_X5_setRate a0 a1 a2 I J T P) (hQ : ∀ I J T, P I J T → Q none (ix_mem 276 I J T)) : ix_C (d + 1) 80 [.inr (.inr (.inl (some (8)))), .inl (a0), .inl (a1), .inl (a2)] (ix_mem 276 I J T) Q := by
  unfold wp_X5_setRate at h
  refine ix_enter (ls := [some (.inr (.inr (.inl (some (8))))), some (.inl (a0)), some (.inl (a1)), some (.inl (a2))]) rfl rfl rfl (Nat.le_of_ble_eq_true rfl) ?_
  obtain ⟨p1, h2⟩ := h
  obtain ⟨p3, h4⟩ := h2
  refine ix_go 7 (x' := (9, [some (.inr (.inr (.inl (some (8))))), some (.inl (a0)), some (.inl (a1)), some (.inl (a2))], [], 0, 0, ix_mem 276 (ix_u2 I (ix_row 36 (a0)) (a1).toNatClampNeg (a2)) J T)) rfl ⟨rfl, rfl, rfl, rfl, rfl, p1, (rw_36 p1).1, (rw_36 p1).2.1, (rw_36 p1).2.2.1, (ix_inbL (rw_36 p1).2.2.2.1 p3)⟩ ?_
  exact ix_sp rfl ⟨Nat.le_refl _, Nat.le_refl _, rfl, hQ _ _ _ h4⟩
def wb_X5_evenRate_12 (x1 : Int32) (x2 : Int32) (x3 : Int32) (x4 : Int32) (I : Nat → Nat → Int32) (J : Nat → Nat → Int64) (T : Option Nat) (V12 : Int32 → Int32 → Int32 → Int32 → (Nat → Nat → Int32) → (Nat → Nat → Int64) → Option Nat → Prop) (P : Int32 → (Nat → Nat → Int32) → (Nat → Nat → Int64) → Option Nat → Prop) : Prop := ((x4 < I 8 0 → ((x4 = x2 → V12 (x1) (x2) (x3) (x4 + (1 : Int32)) I J T) ∧ (¬ (x4 = x2) → wp_X5_isReached (x1) (x4) I J T (fun v9 I9 J9 T9 => ((v9 = 0 → V12 (x1) (x2) (x3) (x4 + (1 : Int32)) I9 J9 T9) ∧ (¬ (v9 = 0) → ix_inb (x1) 7 = true ∧ ix_inb (x4) 7 = true ∧ ix_inb (x4) 7 = true ∧ ix_inb (x2) 7 = true ∧ wp_J9_min_7cf53 (x3) ((I9 (ix_row 28 (x1)) (x4).toNatClampNeg) + (I9 (ix_row 36 (x4)) (x2).toNatClampNeg)) I9 J9 T9 (fun v20 I20 J20 T20 => V12 (x1) (x2) (v20) (x4 + (1 : Int32)) I20 J20 T20))))))) ∧ (¬ (x4 < I 8 0) → P (x3) I J T))
def wl_X5_evenRate_12 (x1 : Int32) (x2 : Int32) (x3 : Int32) (x4 : Int32) (I : Nat → Nat → Int32) (J : Nat → Nat → Int64) (T : Option Nat) (P : Int32 → (Nat → Nat → Int32) → (Nat → Nat → Int64) → Option Nat → Prop) : Prop := ∀ V : Int32 → Int32 → Int32 → Int32 → (Nat → Nat → Int32) → (Nat → Nat → Int64) → Option Nat → Prop, (∀ (x1 : Int32) (x2 : Int32) (x3 : Int32) (x4 : Int32) (I : Nat → Nat → Int32) (J : Nat → Nat → Int64) (T : Option Nat), wb_X5_evenRate_12 x1 x2 x3 x4 I J T V P → V x1 x2 x3 x4 I J T) → V x1 x2 x3 x4 I J T
set_option maxRecDepth 20000 in
theorem tl_X5_evenRate_12 {d : Nat} {x1 : Int32} {x2 : Int32} {x3 : Int32} {x4 : Int32} {I : Nat → Nat → Int32} {J : Nat → Nat → Int64} {T : Option Nat} {P : Int32 → (Nat → Nat → Int32) → (Nat → Nat → Int64) → Option Nat → Prop} {Q : ix_Q} (h : wl_X5_evenRate_12 x1 x2 x3 x4 I J T P) (hQ : ∀ v I J T, P v I J T → Q (some (.inl v)) (ix_mem 276 I J T)) : ix_W (ix_C (d + 1)) (5, ix_lk ix_l81, (some .int), 0, 0, Nat.blt 0 0, none) Q (12, [some (.inr (.inr (.inl (some (8))))), some (.inl (x1)), some (.inl (x2)), some (.inl (x3)), some (.inl (x4))], [], 0, 0, ix_mem 276 I J T) := by
  refine h (fun x1 x2 x3 x4 I J T => ix_W (ix_C (d + 1)) (5, ix_lk ix_l81, (some .int), 0, 0, Nat.blt 0 0, none) Q (12, [some (.inr (.inr (.inl (some (8))))), some (.inl (x1)), some (.inl (x2)), some (.inl (x3)), some (.inl (x4))], [], 0, 0, ix_mem 276 I J T)) ?_
  intro x1 x2 x3 x4 I J T hb
  unfold wb_X5_evenRate_12 at hb
  refine ix_go 4 (x' := (if x4 < I 8 0 then 21 else 67, [some (.inr (.inr (.inl (some (8))))), some (.inl (x1)), some (.inl (x2)), some (.inl (x3)), some (.inl (x4))], [], 0, 0, ix_mem 276 I J T)) rfl ⟨rfl, rfl⟩ ?_
  refine ix_br (fun c5 => ?_) (fun c5 => ?_)
  · have h6 := hb.1 c5
    refine ix_go 3 (x' := (if x4 = x2 then 61 else 27, [some (.inr (.inr (.inl (some (8))))), some (.inl (x1)), some (.inl (x2)), some (.inl (x3)), some (.inl (x4))], [], 0, 0, ix_mem 276 I J T)) rfl trivial ?_
    refine ix_br (fun c7 => ?_) (fun c7 => ?_)
    · have h8 := h6.1 c7
      refine ix_go 2 (x' := (12, [some (.inr (.inr (.inl (some (8))))), some (.inl (x1)), some (.inl (x2)), some (.inl (x3)), some (.inl (x4 + (1 : Int32)))], [], 0, 0, ix_mem 276 I J T)) rfl trivial ?_
      refine ix_subW ([some (.inr (.inr (.inl (some (8))))), some (.inl (x1)), some (.inl (x2)), some (.inl (x3)), some (.inl (x4 + (1 : Int32)))]) (ix_subS (ix_subS (ix_subS (ix_subS (ix_subS (ix_sub0)))))) ?_
      exact h8
    · have h8 := h6.2 c7
      refine ix_go 3 (x' := (31, [some (.inr (.inr (.inl (some (8))))), some (.inl (x1)), some (.inl (x2)), some (.inl (x3)), some (.inl (x4))], [.inl (x4), .inl (x1), .inr (.inr (.inl (some (8))))], 0, 0, ix_mem 276 I J T)) rfl trivial ?_
      refine ix_sp rfl ⟨rfl, ⟨ix_lt rfl, ix_eq rfl, ix_lt rfl⟩, ix_le rfl, Nat.le_refl _, Nat.le_refl _, tp_X5_isReached h8 (fun v9 I9 J9 T9 h9 => ?_)⟩
      change ix_W _ _ _ (34, [some (.inr (.inr (.inl (some (8))))), some (.inl (x1)), some (.inl (x2)), some (.inl (x3)), some (.inl (x4))], [.inl (v9)], 0, 0, ix_mem 276 I9 J9 T9)
      refine ix_go 1 (x' := (if v9 = 0 then 61 else 37, [some (.inr (.inr (.inl (some (8))))), some (.inl (x1)), some (.inl (x2)), some (.inl (x3)), some (.inl (x4))], [], 0, 0, ix_mem 276 I9 J9 T9)) rfl trivial ?_
      refine ix_br (fun c10 => ?_) (fun c10 => ?_)
      · have h11 := h9.1 c10
        refine ix_go 2 (x' := (12, [some (.inr (.inr (.inl (some (8))))), some (.inl (x1)), some (.inl (x2)), some (.inl (x3)), some (.inl (x4 + (1 : Int32)))], [], 0, 0, ix_mem 276 I9 J9 T9)) rfl trivial ?_
        refine ix_subW ([some (.inr (.inr (.inl (some (8))))), some (.inl (x1)), some (.inl (x2)), some (.inl (x3)), some (.inl (x4 + (1 : Int32)))]) (ix_subS (ix_subS (ix_subS (ix_subS (ix_subS (ix_sub0)))))) ?_
        exact h11
      · have h11 := h9.2 c10
        obtain ⟨p12, h13⟩ := h11
        obtain ⟨p14, h15⟩ := h13
        obtain ⟨p16, h17⟩ := h15
        obtain ⟨p18, h19⟩ := h17
        refine ix_go 14 (x' := (57, [some (.inr (.inr (.inl (some (8))))), some (.inl (x1)), some (.inl (x2)), some (.inl (x3)), some (.inl (x4))], [.inl ((I9 (ix_row 28 (x1)) (x4).toNatClampNeg) + (I9 (ix_row 36 (x4)) (x2).toNatClampNeg)), .inl (x3)], 0, 0, ix_mem 276 I9 J9 T9)) rfl ⟨rfl, rfl, rfl, rfl, rfl, p12, (rw_28 p12).1, (rw_28 p12).2.1, (rw_28 p12).2.2.1, (ix_inbL (rw_28 p12).2.2.2.1 p14), rfl, rfl, rfl, rfl, rfl, p16, (rw_36 p16).1, (rw_36 p16).2.1, (rw_36 p16).2.2.1, (ix_inbL (rw_36 p16).2.2.2.1 p18)⟩ ?_
        refine ix_sp rfl ⟨rfl, trivial, ix_le rfl, Nat.le_refl _, Nat.le_refl _, tp_J9_min_7cf53 h19 (fun v20 I20 J20 T20 h20 => ?_)⟩
        change ix_W _ _ _ (60, [some (.inr (.inr (.inl (some (8))))), some (.inl (x1)), some (.inl (x2)), some (.inl (x3)), some (.inl (x4))], [.inl (v20)], 0, 0, ix_mem 276 I20 J20 T20)
        refine ix_go 3 (x' := (12, [some (.inr (.inr (.inl (some (8))))), some (.inl (x1)), some (.inl (x2)), some (.inl (v20)), some (.inl (x4 + (1 : Int32)))], [], 0, 0, ix_mem 276 I20 J20 T20)) rfl trivial ?_
        refine ix_subW ([some (.inr (.inr (.inl (some (8))))), some (.inl (x1)), some (.inl (x2)), some (.inl (v20)), some (.inl (x4 + (1 : Int32)))]) (ix_subS (ix_subS (ix_subS (ix_subS (ix_subS (ix_sub0)))))) ?_
        exact h20
  · have h6 := hb.2 c5
    refine ix_go 1 (x' := (68, [some (.inr (.inr (.inl (some (8))))), some (.inl (x1)), some (.inl (x2)), some (.inl (x3)), some (.inl (x4))], [.inl (x3)], 0, 0, ix_mem 276 I J T)) rfl trivial ?_
    exact ix_sp rfl ⟨Nat.le_refl _, Nat.le_refl _, trivial, hQ _ _ _ _ h6⟩
def wp_X5_evenRate (a0 : Int32) (a1 : Int32) (I : Nat → Nat → Int32) (J : Nat → Nat → Int64) (T : Option Nat) (P : Int32 → (Nat → Nat → Int32) → (Nat → Nat → Int64) → Option Nat → Prop) : Prop := ix_inb (a0) 7 = true ∧ ix_inb (a1) 7 = true ∧ wl_X5_evenRate_12 (a0) (a1) (I (ix_row 36 (a0)) (a1).toNatClampNeg) ((0 : Int32)) I J T P
set_option maxRecDepth 20000 in
theorem tp_X5_evenRate {d : Nat} {a0 : Int32} {a1 : Int32} {I : Nat → Nat → Int32} {J : Nat → Nat → Int64} {T : Option Nat} {P : Int32 → (Nat → Nat → Int32) → (Nat → Nat → Int64) → Option Nat → Prop} {Q : ix_Q} (h : wp_X5_evenRate a0 a1 I J T P) (hQ : ∀ v I J T, P v I J T → Q (some (.inl v)) (ix_mem 276 I J T)) : ix_C (d + 2) 81 [.inr (.inr (.inl (some (8)))), .inl (a0), .inl (a1)] (ix_mem 276 I J T) Q := by
  unfold wp_X5_evenRate at h
  refine ix_enter (ls := [some (.inr (.inr (.inl (some (8))))), some (.inl (a0)), some (.inl (a1)), none, none]) rfl rfl rfl (Nat.le_of_ble_eq_true rfl) ?_
  obtain ⟨p1, h2⟩ := h
  obtain ⟨p3, h4⟩ := h2
  refine ix_go 9 (x' := (12, [some (.inr (.inr (.inl (some (8))))), some (.inl (a0)), some (.inl (a1)), some (.inl (I (ix_row 36 (a0)) (a1).toNatClampNeg)), some (.inl ((0 : Int32)))], [], 0, 0, ix_mem 276 I J T)) rfl ⟨rfl, rfl, rfl, rfl, rfl, p1, (rw_36 p1).1, (rw_36 p1).2.1, (rw_36 p1).2.2.1, (ix_inbL (rw_36 p1).2.2.2.1 p3)⟩ ?_
  refine ix_subW ([some (.inr (.inr (.inl (some (8))))), some (.inl (a0)), some (.inl (a1)), some (.inl (I (ix_row 36 (a0)) (a1).toNatClampNeg)), some (.inl ((0 : Int32)))]) (ix_subS (ix_subS (ix_subS (ix_subS (ix_subS (ix_sub0)))))) ?_
  exact tl_X5_evenRate_12 h4 hQ
def wb_X5_countUneven_14_4 (x1 : Int32) (x2 : Int32) (x3 : Int32) (I : Nat → Nat → Int32) (J : Nat → Nat → Int64) (T : Option Nat) (V14 : Int32 → Int32 → Int32 → (Nat → Nat → Int32) → (Nat → Nat → Int64) → Option Nat → Prop) (V4 : Int32 → Int32 → (Nat → Nat → Int32) → (Nat → Nat → Int64) → Option Nat → Prop) (P : Int32 → (Nat → Nat → Int32) → (Nat → Nat → Int64) → Option Nat → Prop) : Prop := ((x3 < I 8 0 → ((x2 = x3 → V14 (x1) (x2) (x3 + (1 : Int32)) I J T) ∧ (¬ (x2 = x3) → ix_inb (x2) 7 = true ∧ ix_inb (x3) 7 = true ∧ wp_X5_evenRate (x2) (x3) I J T (fun v11 I11 J11 T11 => ((I (ix_row 36 (x2)) (x3).toNatClampNeg ≤ v11 → V14 (x1) (x2) (x3 + (1 : Int32)) I11 J11 T11) ∧ (¬ (I (ix_row 36 (x2)) (x3).toNatClampNeg ≤ v11) → V14 (x1 + (1 : Int32)) (x2) (x3 + (1 : Int32)) I11 J11 T11)))))) ∧ (¬ (x3 < I 8 0) → V4 (x1) (x2 + (1 : Int32)) I J T))
def wl_X5_countUneven_14_4 (x1 : Int32) (x2 : Int32) (x3 : Int32) (I : Nat → Nat → Int32) (J : Nat → Nat → Int64) (T : Option Nat) (V4 : Int32 → Int32 → (Nat → Nat → Int32) → (Nat → Nat → Int64) → Option Nat → Prop) (P : Int32 → (Nat → Nat → Int32) → (Nat → Nat → Int64) → Option Nat → Prop) : Prop := ∀ V : Int32 → Int32 → Int32 → (Nat → Nat → Int32) → (Nat → Nat → Int64) → Option Nat → Prop, (∀ (x1 : Int32) (x2 : Int32) (x3 : Int32) (I : Nat → Nat → Int32) (J : Nat → Nat → Int64) (T : Option Nat), wb_X5_countUneven_14_4 x1 x2 x3 I J T V V4 P → V x1 x2 x3 I J T) → V x1 x2 x3 I J T
set_option maxRecDepth 20000 in
theorem tl_X5_countUneven_14_4 {d : Nat} {x1 : Int32} {x2 : Int32} {x3 : Int32} {I : Nat → Nat → Int32} {J : Nat → Nat → Int64} {T : Option Nat} {V4 : Int32 → Int32 → (Nat → Nat → Int32) → (Nat → Nat → Int64) → Option Nat → Prop} {P : Int32 → (Nat → Nat → Int32) → (Nat → Nat → Int64) → Option Nat → Prop} {Q : ix_Q} (h : wl_X5_countUneven_14_4 x1 x2 x3 I J T V4 P) (hV4 : ∀ (x1 : Int32) (x2 : Int32) I J T, V4 x1 x2 I J T → ix_W (ix_C (d + 2)) (5, ix_lk ix_l82, (some .int), 0, 0, Nat.blt 0 0, none) Q (4, [some (.inr (.inr (.inl (some (8))))), some (.inl (x1)), some (.inl (x2)), none], [], 0, 0, ix_mem 276 I J T)) (hQ : ∀ v I J T, P v I J T → Q (some (.inl v)) (ix_mem 276 I J T)) : ix_W (ix_C (d + 2)) (5, ix_lk ix_l82, (some .int), 0, 0, Nat.blt 0 0, none) Q (14, [some (.inr (.inr (.inl (some (8))))), some (.inl (x1)), some (.inl (x2)), some (.inl (x3))], [], 0, 0, ix_mem 276 I J T) := by
  refine h (fun x1 x2 x3 I J T => ix_W (ix_C (d + 2)) (5, ix_lk ix_l82, (some .int), 0, 0, Nat.blt 0 0, none) Q (14, [some (.inr (.inr (.inl (some (8))))), some (.inl (x1)), some (.inl (x2)), some (.inl (x3))], [], 0, 0, ix_mem 276 I J T)) ?_
  intro x1 x2 x3 I J T hb
  unfold wb_X5_countUneven_14_4 at hb
  refine ix_go 4 (x' := (if x3 < I 8 0 then 22 else 53, [some (.inr (.inr (.inl (some (8))))), some (.inl (x1)), some (.inl (x2)), some (.inl (x3))], [], 0, 0, ix_mem 276 I J T)) rfl ⟨rfl, rfl⟩ ?_
  refine ix_br (fun c3 => ?_) (fun c3 => ?_)
  · have h4 := hb.1 c3
    refine ix_go 3 (x' := (if x2 = x3 then 47 else 27, [some (.inr (.inr (.inl (some (8))))), some (.inl (x1)), some (.inl (x2)), some (.inl (x3))], [], 0, 0, ix_mem 276 I J T)) rfl trivial ?_
    refine ix_br (fun c5 => ?_) (fun c5 => ?_)
    · have h6 := h4.1 c5
      refine ix_go 2 (x' := (14, [some (.inr (.inr (.inl (some (8))))), some (.inl (x1)), some (.inl (x2)), some (.inl (x3 + (1 : Int32)))], [], 0, 0, ix_mem 276 I J T)) rfl trivial ?_
      refine ix_subW ([some (.inr (.inr (.inl (some (8))))), some (.inl (x1)), some (.inl (x2)), some (.inl (x3 + (1 : Int32)))]) (ix_subS (ix_subS (ix_subS (ix_subS (ix_sub0))))) ?_
      exact h6
    · have h6 := h4.2 c5
      obtain ⟨p7, h8⟩ := h6
      obtain ⟨p9, h10⟩ := h8
      refine ix_go 9 (x' := (38, [some (.inr (.inr (.inl (some (8))))), some (.inl (x1)), some (.inl (x2)), some (.inl (x3))], [.inl (x3), .inl (x2), .inr (.inr (.inl (some (8)))), .inl (I (ix_row 36 (x2)) (x3).toNatClampNeg)], 0, 0, ix_mem 276 I J T)) rfl ⟨rfl, rfl, rfl, rfl, rfl, p7, (rw_36 p7).1, (rw_36 p7).2.1, (rw_36 p7).2.2.1, (ix_inbL (rw_36 p7).2.2.2.1 p9)⟩ ?_
      refine ix_sp rfl ⟨rfl, ⟨ix_lt rfl, ix_eq rfl, ix_lt rfl⟩, ix_le rfl, Nat.le_refl _, Nat.le_refl _, tp_X5_evenRate h10 (fun v11 I11 J11 T11 h11 => ?_)⟩
      change ix_W _ _ _ (41, [some (.inr (.inr (.inl (some (8))))), some (.inl (x1)), some (.inl (x2)), some (.inl (x3))], [.inl (v11), .inl (I (ix_row 36 (x2)) (x3).toNatClampNeg)], 0, 0, ix_mem 276 I11 J11 T11)
      refine ix_go 1 (x' := (if I (ix_row 36 (x2)) (x3).toNatClampNeg ≤ v11 then 47 else 44, [some (.inr (.inr (.inl (some (8))))), some (.inl (x1)), some (.inl (x2)), some (.inl (x3))], [], 0, 0, ix_mem 276 I11 J11 T11)) rfl trivial ?_
      refine ix_br (fun c12 => ?_) (fun c12 => ?_)
      · have h13 := h11.1 c12
        refine ix_go 2 (x' := (14, [some (.inr (.inr (.inl (some (8))))), some (.inl (x1)), some (.inl (x2)), some (.inl (x3 + (1 : Int32)))], [], 0, 0, ix_mem 276 I11 J11 T11)) rfl trivial ?_
        refine ix_subW ([some (.inr (.inr (.inl (some (8))))), some (.inl (x1)), some (.inl (x2)), some (.inl (x3 + (1 : Int32)))]) (ix_subS (ix_subS (ix_subS (ix_subS (ix_sub0))))) ?_
        exact h13
      · have h13 := h11.2 c12
        refine ix_go 3 (x' := (14, [some (.inr (.inr (.inl (some (8))))), some (.inl (x1 + (1 : Int32))), some (.inl (x2)), some (.inl (x3 + (1 : Int32)))], [], 0, 0, ix_mem 276 I11 J11 T11)) rfl trivial ?_
        refine ix_subW ([some (.inr (.inr (.inl (some (8))))), some (.inl (x1 + (1 : Int32))), some (.inl (x2)), some (.inl (x3 + (1 : Int32)))]) (ix_subS (ix_subS (ix_subS (ix_subS (ix_sub0))))) ?_
        exact h13
  · have h4 := hb.2 c3
    refine ix_go 2 (x' := (4, [some (.inr (.inr (.inl (some (8))))), some (.inl (x1)), some (.inl (x2 + (1 : Int32))), some (.inl (x3))], [], 0, 0, ix_mem 276 I J T)) rfl trivial ?_
    refine ix_subW ([some (.inr (.inr (.inl (some (8))))), some (.inl (x1)), some (.inl (x2 + (1 : Int32))), none]) (ix_subS (ix_subS (ix_subS (ix_subN (ix_sub0))))) ?_
    exact hV4 _ _ _ _ _ h4
def wb_X5_countUneven_4 (x1 : Int32) (x2 : Int32) (I : Nat → Nat → Int32) (J : Nat → Nat → Int64) (T : Option Nat) (V4 : Int32 → Int32 → (Nat → Nat → Int32) → (Nat → Nat → Int64) → Option Nat → Prop) (P : Int32 → (Nat → Nat → Int32) → (Nat → Nat → Int64) → Option Nat → Prop) : Prop := ((x2 < I 8 0 → wl_X5_countUneven_14_4 (x1) (x2) ((0 : Int32)) I J T V4 P) ∧ (¬ (x2 < I 8 0) → P (x1) I J T))
def wl_X5_countUneven_4 (x1 : Int32) (x2 : Int32) (I : Nat → Nat → Int32) (J : Nat → Nat → Int64) (T : Option Nat) (P : Int32 → (Nat → Nat → Int32) → (Nat → Nat → Int64) → Option Nat → Prop) : Prop := ∀ V : Int32 → Int32 → (Nat → Nat → Int32) → (Nat → Nat → Int64) → Option Nat → Prop, (∀ (x1 : Int32) (x2 : Int32) (I : Nat → Nat → Int32) (J : Nat → Nat → Int64) (T : Option Nat), wb_X5_countUneven_4 x1 x2 I J T V P → V x1 x2 I J T) → V x1 x2 I J T
set_option maxRecDepth 20000 in
theorem tl_X5_countUneven_4 {d : Nat} {x1 : Int32} {x2 : Int32} {I : Nat → Nat → Int32} {J : Nat → Nat → Int64} {T : Option Nat} {P : Int32 → (Nat → Nat → Int32) → (Nat → Nat → Int64) → Option Nat → Prop} {Q : ix_Q} (h : wl_X5_countUneven_4 x1 x2 I J T P) (hQ : ∀ v I J T, P v I J T → Q (some (.inl v)) (ix_mem 276 I J T)) : ix_W (ix_C (d + 2)) (5, ix_lk ix_l82, (some .int), 0, 0, Nat.blt 0 0, none) Q (4, [some (.inr (.inr (.inl (some (8))))), some (.inl (x1)), some (.inl (x2)), none], [], 0, 0, ix_mem 276 I J T) := by
  refine h (fun x1 x2 I J T => ix_W (ix_C (d + 2)) (5, ix_lk ix_l82, (some .int), 0, 0, Nat.blt 0 0, none) Q (4, [some (.inr (.inr (.inl (some (8))))), some (.inl (x1)), some (.inl (x2)), none], [], 0, 0, ix_mem 276 I J T)) ?_
  intro x1 x2 I J T hb
  unfold wb_X5_countUneven_4 at hb
  refine ix_go 4 (x' := (if x2 < I 8 0 then 12 else 59, [some (.inr (.inr (.inl (some (8))))), some (.inl (x1)), some (.inl (x2)), none], [], 0, 0, ix_mem 276 I J T)) rfl ⟨rfl, rfl⟩ ?_
  refine ix_br (fun c1 => ?_) (fun c1 => ?_)
  · have h2 := hb.1 c1
    refine ix_go 2 (x' := (14, [some (.inr (.inr (.inl (some (8))))), some (.inl (x1)), some (.inl (x2)), some (.inl ((0 : Int32)))], [], 0, 0, ix_mem 276 I J T)) rfl trivial ?_
    refine ix_subW ([some (.inr (.inr (.inl (some (8))))), some (.inl (x1)), some (.inl (x2)), some (.inl ((0 : Int32)))]) (ix_subS (ix_subS (ix_subS (ix_subS (ix_sub0))))) ?_
    exact tl_X5_countUneven_14_4 h2 (fun _ _ I J T hv => hv) hQ
  · have h2 := hb.2 c1
    refine ix_go 1 (x' := (60, [some (.inr (.inr (.inl (some (8))))), some (.inl (x1)), some (.inl (x2)), none], [.inl (x1)], 0, 0, ix_mem 276 I J T)) rfl trivial ?_
    exact ix_sp rfl ⟨Nat.le_refl _, Nat.le_refl _, trivial, hQ _ _ _ _ h2⟩
def wp_X5_countUneven (I : Nat → Nat → Int32) (J : Nat → Nat → Int64) (T : Option Nat) (P : Int32 → (Nat → Nat → Int32) → (Nat → Nat → Int64) → Option Nat → Prop) : Prop := wl_X5_countUneven_4 ((0 : Int32)) ((0 : Int32)) I J T P
set_option maxRecDepth 20000 in
theorem tp_X5_countUneven {d : Nat} {I : Nat → Nat → Int32} {J : Nat → Nat → Int64} {T : Option Nat} {P : Int32 → (Nat → Nat → Int32) → (Nat → Nat → Int64) → Option Nat → Prop} {Q : ix_Q} (h : wp_X5_countUneven I J T P) (hQ : ∀ v I J T, P v I J T → Q (some (.inl v)) (ix_mem 276 I J T)) : ix_C (d + 3) 82 [.inr (.inr (.inl (some (8))))] (ix_mem 276 I J T) Q := by
  unfold wp_X5_countUneven at h
  refine ix_enter (ls := [some (.inr (.inr (.inl (some (8))))), none, none, none]) rfl rfl rfl (Nat.le_of_ble_eq_true rfl) ?_
  refine ix_go 4 (x' := (4, [some (.inr (.inr (.inl (some (8))))), some (.inl ((0 : Int32))), some (.inl ((0 : Int32))), none], [], 0, 0, ix_mem 276 I J T)) rfl trivial ?_
  refine ix_subW ([some (.inr (.inr (.inl (some (8))))), some (.inl ((0 : Int32))), some (.inl ((0 : Int32))), none]) (ix_subS (ix_subS (ix_subS (ix_subS (ix_sub0))))) ?_
  exact tl_X5_countUneven_4 h hQ
def wp_X6_postIn (a0 : Int32) (I : Nat → Nat → Int32) (J : Nat → Nat → Int64) (T : Option Nat) (P : (Nat → Nat → Int32) → (Nat → Nat → Int64) → Option Nat → Prop) : Prop := P (ix_u2 I 95 0 (a0)) J T
set_option maxRecDepth 20000 in
theorem tp_X6_postIn {d : Nat} {a0 : Int32} {I : Nat → Nat → Int32} {J : Nat → Nat → Int64} {T : Option Nat} {P : (Nat → Nat → Int32) → (Nat → Nat → Int64) → Option Nat → Prop} {Q : ix_Q} (h : wp_X6_postIn a0 I J T P) (hQ : ∀ I J T, P I J T → Q none (ix_mem 276 I J T)) : ix_C (d + 1) 84 [.inr (.inr (.inl (some (95)))), .inl (a0)] (ix_mem 276 I J T) Q := by
  unfold wp_X6_postIn at h
  refine ix_enter (ls := [some (.inr (.inr (.inl (some (95))))), some (.inl (a0))]) rfl rfl rfl (Nat.le_of_ble_eq_true rfl) ?_
  refine ix_go 3 (x' := (5, [some (.inr (.inr (.inl (some (95))))), some (.inl (a0))], [], 0, 0, ix_mem 276 (ix_u2 I 95 0 (a0)) J T)) rfl ⟨rfl, rfl⟩ ?_
  exact ix_sp rfl ⟨Nat.le_refl _, Nat.le_refl _, rfl, hQ _ _ _ h⟩
def wp_X6_from (I : Nat → Nat → Int32) (J : Nat → Nat → Int64) (T : Option Nat) (P : Int32 → (Nat → Nat → Int32) → (Nat → Nat → Int64) → Option Nat → Prop) : Prop := P (I 95 0) I J T
set_option maxRecDepth 20000 in
theorem tp_X6_from {d : Nat} {I : Nat → Nat → Int32} {J : Nat → Nat → Int64} {T : Option Nat} {P : Int32 → (Nat → Nat → Int32) → (Nat → Nat → Int64) → Option Nat → Prop} {Q : ix_Q} (h : wp_X6_from I J T P) (hQ : ∀ v I J T, P v I J T → Q (some (.inl v)) (ix_mem 276 I J T)) : ix_C (d + 1) 85 [.inr (.inr (.inl (some (95))))] (ix_mem 276 I J T) Q := by
  unfold wp_X6_from at h
  refine ix_enter (ls := [some (.inr (.inr (.inl (some (95)))))]) rfl rfl rfl (Nat.le_of_ble_eq_true rfl) ?_
  refine ix_go 2 (x' := (4, [some (.inr (.inr (.inl (some (95)))))], [.inl (I 95 0)], 0, 0, ix_mem 276 I J T)) rfl ⟨rfl, rfl⟩ ?_
  exact ix_sp rfl ⟨Nat.le_refl _, Nat.le_refl _, trivial, hQ _ _ _ _ h⟩
def wp_X6_to (I : Nat → Nat → Int32) (J : Nat → Nat → Int64) (T : Option Nat) (P : Int32 → (Nat → Nat → Int32) → (Nat → Nat → Int64) → Option Nat → Prop) : Prop := P (I 95 1) I J T
set_option maxRecDepth 20000 in
theorem tp_X6_to {d : Nat} {I : Nat → Nat → Int32} {J : Nat → Nat → Int64} {T : Option Nat} {P : Int32 → (Nat → Nat → Int32) → (Nat → Nat → Int64) → Option Nat → Prop} {Q : ix_Q} (h : wp_X6_to I J T P) (hQ : ∀ v I J T, P v I J T → Q (some (.inl v)) (ix_mem 276 I J T)) : ix_C (d + 1) 86 [.inr (.inr (.inl (some (95))))] (ix_mem 276 I J T) Q := by
  unfold wp_X6_to at h
  refine ix_enter (ls := [some (.inr (.inr (.inl (some (95)))))]) rfl rfl rfl (Nat.le_of_ble_eq_true rfl) ?_
  refine ix_go 2 (x' := (4, [some (.inr (.inr (.inl (some (95)))))], [.inl (I 95 1)], 0, 0, ix_mem 276 I J T)) rfl ⟨rfl, rfl⟩ ?_
  exact ix_sp rfl ⟨Nat.le_refl _, Nat.le_refl _, trivial, hQ _ _ _ _ h⟩
def wp_X6_via (I : Nat → Nat → Int32) (J : Nat → Nat → Int64) (T : Option Nat) (P : Int32 → (Nat → Nat → Int32) → (Nat → Nat → Int64) → Option Nat → Prop) : Prop := P (I 95 2) I J T
set_option maxRecDepth 20000 in
theorem tp_X6_via {d : Nat} {I : Nat → Nat → Int32} {J : Nat → Nat → Int64} {T : Option Nat} {P : Int32 → (Nat → Nat → Int32) → (Nat → Nat → Int64) → Option Nat → Prop} {Q : ix_Q} (h : wp_X6_via I J T P) (hQ : ∀ v I J T, P v I J T → Q (some (.inl v)) (ix_mem 276 I J T)) : ix_C (d + 1) 87 [.inr (.inr (.inl (some (95))))] (ix_mem 276 I J T) Q := by
  unfold wp_X6_via at h
  refine ix_enter (ls := [some (.inr (.inr (.inl (some (95)))))]) rfl rfl rfl (Nat.le_of_ble_eq_true rfl) ?_
  refine ix_go 2 (x' := (4, [some (.inr (.inr (.inl (some (95)))))], [.inl (I 95 2)], 0, 0, ix_mem 276 I J T)) rfl ⟨rfl, rfl⟩ ?_
  exact ix_sp rfl ⟨Nat.le_refl _, Nat.le_refl _, trivial, hQ _ _ _ _ h⟩
def wp_X6_day (I : Nat → Nat → Int32) (J : Nat → Nat → Int64) (T : Option Nat) (P : Int32 → (Nat → Nat → Int32) → (Nat → Nat → Int64) → Option Nat → Prop) : Prop := P (I 95 3) I J T
set_option maxRecDepth 20000 in
theorem tp_X6_day {d : Nat} {I : Nat → Nat → Int32} {J : Nat → Nat → Int64} {T : Option Nat} {P : Int32 → (Nat → Nat → Int32) → (Nat → Nat → Int64) → Option Nat → Prop} {Q : ix_Q} (h : wp_X6_day I J T P) (hQ : ∀ v I J T, P v I J T → Q (some (.inl v)) (ix_mem 276 I J T)) : ix_C (d + 1) 88 [.inr (.inr (.inl (some (95))))] (ix_mem 276 I J T) Q := by
  unfold wp_X6_day at h
  refine ix_enter (ls := [some (.inr (.inr (.inl (some (95)))))]) rfl rfl rfl (Nat.le_of_ble_eq_true rfl) ?_
  refine ix_go 2 (x' := (4, [some (.inr (.inr (.inl (some (95)))))], [.inl (I 95 3)], 0, 0, ix_mem 276 I J T)) rfl ⟨rfl, rfl⟩ ?_
  exact ix_sp rfl ⟨Nat.le_refl _, Nat.le_refl _, trivial, hQ _ _ _ _ h⟩
def wp_X6_year (I : Nat → Nat → Int32) (J : Nat → Nat → Int64) (T : Option Nat) (P : Int32 → (Nat → Nat → Int32) → (Nat → Nat → Int64) → Option Nat → Prop) : Prop := P ((I 95 3) / ((365 : Int32))) I J T
set_option maxRecDepth 20000 in
theorem tp_X6_year {d : Nat} {I : Nat → Nat → Int32} {J : Nat → Nat → Int64} {T : Option Nat} {P : Int32 → (Nat → Nat → Int32) → (Nat → Nat → Int64) → Option Nat → Prop} {Q : ix_Q} (h : wp_X6_year I J T P) (hQ : ∀ v I J T, P v I J T → Q (some (.inl v)) (ix_mem 276 I J T)) : ix_C (d + 1) 89 [.inr (.inr (.inl (some (95))))] (ix_mem 276 I J T) Q := by
  unfold wp_X6_year at h
  refine ix_enter (ls := [some (.inr (.inr (.inl (some (95)))))]) rfl rfl rfl (Nat.le_of_ble_eq_true rfl) ?_
  refine ix_go 4 (x' := (8, [some (.inr (.inr (.inl (some (95)))))], [.inl ((I 95 3) / ((365 : Int32)))], 0, 0, ix_mem 276 I J T)) rfl ⟨rfl, rfl, rfl⟩ ?_
  exact ix_sp rfl ⟨Nat.le_refl _, Nat.le_refl _, trivial, hQ _ _ _ _ h⟩
def wp_X6_weight (I : Nat → Nat → Int32) (J : Nat → Nat → Int64) (T : Option Nat) (P : Int64 → (Nat → Nat → Int32) → (Nat → Nat → Int64) → Option Nat → Prop) : Prop := P (J 96 ((0 : Int32)).toNatClampNeg) I J T
set_option maxRecDepth 20000 in
theorem tp_X6_weight {d : Nat} {I : Nat → Nat → Int32} {J : Nat → Nat → Int64} {T : Option Nat} {P : Int64 → (Nat → Nat → Int32) → (Nat → Nat → Int64) → Option Nat → Prop} {Q : ix_Q} (h : wp_X6_weight I J T P) (hQ : ∀ v I J T, P v I J T → Q (some (.inr (.inl v))) (ix_mem 276 I J T)) : ix_C (d + 1) 90 [.inr (.inr (.inl (some (95))))] (ix_mem 276 I J T) Q := by
  unfold wp_X6_weight at h
  refine ix_enter (ls := [some (.inr (.inr (.inl (some (95)))))]) rfl rfl rfl (Nat.le_of_ble_eq_true rfl) ?_
  refine ix_go 4 (x' := (6, [some (.inr (.inr (.inl (some (95)))))], [.inr (.inl (J 96 ((0 : Int32)).toNatClampNeg))], 0, 0, ix_mem 276 I J T)) rfl ⟨rfl, rfl, rfl, rfl, rfl⟩ ?_
  exact ix_sp rfl ⟨Nat.le_refl _, Nat.le_refl _, rfl, hQ _ _ _ _ h⟩
def wp_X6_variable (a0 : Int32) (I : Nat → Nat → Int32) (J : Nat → Nat → Int64) (T : Option Nat) (P : Int64 → (Nat → Nat → Int32) → (Nat → Nat → Int64) → Option Nat → Prop) : Prop := ((a0 < 0 → P ((0 : Int64)) I J T) ∧ (¬ (a0 < 0) → ((a0 < (7 : Int32) → ix_inb (a0) 7 = true ∧ P (J 96 (a0).toNatClampNeg) I J T) ∧ (¬ (a0 < (7 : Int32)) → P ((0 : Int64)) I J T))))
set_option maxRecDepth 20000 in
theorem tp_X6_variable {d : Nat} {a0 : Int32} {I : Nat → Nat → Int32} {J : Nat → Nat → Int64} {T : Option Nat} {P : Int64 → (Nat → Nat → Int32) → (Nat → Nat → Int64) → Option Nat → Prop} {Q : ix_Q} (h : wp_X6_variable a0 I J T P) (hQ : ∀ v I J T, P v I J T → Q (some (.inr (.inl v))) (ix_mem 276 I J T)) : ix_C (d + 1) 91 [.inr (.inr (.inl (some (95)))), .inl (a0)] (ix_mem 276 I J T) Q := by
  unfold wp_X6_variable at h
  refine ix_enter (ls := [some (.inr (.inr (.inl (some (95))))), some (.inl (a0))]) rfl rfl rfl (Nat.le_of_ble_eq_true rfl) ?_
  refine ix_go 2 (x' := (if a0 < 0 then 19 else 4, [some (.inr (.inr (.inl (some (95))))), some (.inl (a0))], [], 0, 0, ix_mem 276 I J T)) rfl trivial ?_
  refine ix_br (fun c1 => ?_) (fun c1 => ?_)
  · have h2 := h.1 c1
    refine ix_go 1 (x' := (20, [some (.inr (.inr (.inl (some (95))))), some (.inl (a0))], [.inr (.inl ((0 : Int64)))], 0, 0, ix_mem 276 I J T)) rfl trivial ?_
    exact ix_sp rfl ⟨Nat.le_refl _, Nat.le_refl _, rfl, hQ _ _ _ _ h2⟩
  · have h2 := h.2 c1
    refine ix_go 3 (x' := (if a0 < (7 : Int32) then 10 else 19, [some (.inr (.inr (.inl (some (95))))), some (.inl (a0))], [], 0, 0, ix_mem 276 I J T)) rfl trivial ?_
    refine ix_br (fun c3 => ?_) (fun c3 => ?_)
    · have h4 := h2.1 c3
      obtain ⟨p5, h6⟩ := h4
      refine ix_go 5 (x' := (20, [some (.inr (.inr (.inl (some (95))))), some (.inl (a0))], [.inr (.inl (J 96 (a0).toNatClampNeg))], 0, 0, ix_mem 276 I J T)) rfl ⟨rfl, rfl, rfl, rfl, p5⟩ ?_
      exact ix_sp rfl ⟨Nat.le_refl _, Nat.le_refl _, rfl, hQ _ _ _ _ h6⟩
    · have h4 := h2.2 c3
      refine ix_go 1 (x' := (20, [some (.inr (.inr (.inl (some (95))))), some (.inl (a0))], [.inr (.inl ((0 : Int64)))], 0, 0, ix_mem 276 I J T)) rfl trivial ?_
      exact ix_sp rfl ⟨Nat.le_refl _, Nat.le_refl _, rfl, hQ _ _ _ _ h4⟩
def wp_X7_isVariable (a0 : Int32) (I : Nat → Nat → Int32) (J : Nat → Nat → Int64) (T : Option Nat) (P : Int32 → (Nat → Nat → Int32) → (Nat → Nat → Int64) → Option Nat → Prop) : Prop := ((a0 < (11 : Int32) → P ((0 : Int32)) I J T) ∧ (¬ (a0 < (11 : Int32)) → ((a0 ≤ (17 : Int32) → P ((1 : Int32)) I J T) ∧ (¬ (a0 ≤ (17 : Int32)) → P ((0 : Int32)) I J T))))
set_option maxRecDepth 20000 in
theorem tp_X7_isVariable {d : Nat} {a0 : Int32} {I : Nat → Nat → Int32} {J : Nat → Nat → Int64} {T : Option Nat} {P : Int32 → (Nat → Nat → Int32) → (Nat → Nat → Int64) → Option Nat → Prop} {Q : ix_Q} (h : wp_X7_isVariable a0 I J T P) (hQ : ∀ v I J T, P v I J T → Q (some (.inl v)) (ix_mem 276 I J T)) : ix_C (d + 1) 93 [.inl (a0)] (ix_mem 276 I J T) Q := by
  unfold wp_X7_isVariable at h
  refine ix_enter (ls := [some (.inl (a0))]) rfl rfl rfl (Nat.le_of_ble_eq_true rfl) ?_
  refine ix_go 3 (x' := (if a0 < (11 : Int32) then 16 else 6, [some (.inl (a0))], [], 0, 0, ix_mem 276 I J T)) rfl trivial ?_
  refine ix_br (fun c1 => ?_) (fun c1 => ?_)
  · have h2 := h.1 c1
    refine ix_go 1 (x' := (17, [some (.inl (a0))], [.inl ((0 : Int32))], 0, 0, ix_mem 276 I J T)) rfl trivial ?_
    exact ix_sp rfl ⟨Nat.le_refl _, Nat.le_refl _, ix_01_ok rfl, hQ _ _ _ _ h2⟩
  · have h2 := h.2 c1
    refine ix_go 3 (x' := (if a0 ≤ (17 : Int32) then 12 else 16, [some (.inl (a0))], [], 0, 0, ix_mem 276 I J T)) rfl trivial ?_
    refine ix_br (fun c3 => ?_) (fun c3 => ?_)
    · have h4 := h2.1 c3
      refine ix_go 2 (x' := (17, [some (.inl (a0))], [.inl ((1 : Int32))], 0, 0, ix_mem 276 I J T)) rfl trivial ?_
      exact ix_sp rfl ⟨Nat.le_refl _, Nat.le_refl _, ix_01_ok rfl, hQ _ _ _ _ h4⟩
    · have h4 := h2.2 c3
      refine ix_go 1 (x' := (17, [some (.inl (a0))], [.inl ((0 : Int32))], 0, 0, ix_mem 276 I J T)) rfl trivial ?_
      exact ix_sp rfl ⟨Nat.le_refl _, Nat.le_refl _, ix_01_ok rfl, hQ _ _ _ _ h4⟩
def wp_X7_faultKind (I : Nat → Nat → Int32) (J : Nat → Nat → Int64) (T : Option Nat) (P : Int32 → (Nat → Nat → Int32) → (Nat → Nat → Int64) → Option Nat → Prop) : Prop := P (I 44 10) I J T
set_option maxRecDepth 20000 in
theorem tp_X7_faultKind {d : Nat} {I : Nat → Nat → Int32} {J : Nat → Nat → Int64} {T : Option Nat} {P : Int32 → (Nat → Nat → Int32) → (Nat → Nat → Int64) → Option Nat → Prop} {Q : ix_Q} (h : wp_X7_faultKind I J T P) (hQ : ∀ v I J T, P v I J T → Q (some (.inl v)) (ix_mem 276 I J T)) : ix_C (d + 1) 94 [.inr (.inr (.inl (some (44))))] (ix_mem 276 I J T) Q := by
  unfold wp_X7_faultKind at h
  refine ix_enter (ls := [some (.inr (.inr (.inl (some (44)))))]) rfl rfl rfl (Nat.le_of_ble_eq_true rfl) ?_
  refine ix_go 2 (x' := (4, [some (.inr (.inr (.inl (some (44)))))], [.inl (I 44 10)], 0, 0, ix_mem 276 I J T)) rfl ⟨rfl, rfl⟩ ?_
  exact ix_sp rfl ⟨Nat.le_refl _, Nat.le_refl _, trivial, hQ _ _ _ _ h⟩
def wp_X7_faultPlace (I : Nat → Nat → Int32) (J : Nat → Nat → Int64) (T : Option Nat) (P : Int32 → (Nat → Nat → Int32) → (Nat → Nat → Int64) → Option Nat → Prop) : Prop := P (I 44 11) I J T
set_option maxRecDepth 20000 in
theorem tp_X7_faultPlace {d : Nat} {I : Nat → Nat → Int32} {J : Nat → Nat → Int64} {T : Option Nat} {P : Int32 → (Nat → Nat → Int32) → (Nat → Nat → Int64) → Option Nat → Prop} {Q : ix_Q} (h : wp_X7_faultPlace I J T P) (hQ : ∀ v I J T, P v I J T → Q (some (.inl v)) (ix_mem 276 I J T)) : ix_C (d + 1) 95 [.inr (.inr (.inl (some (44))))] (ix_mem 276 I J T) Q := by
  unfold wp_X7_faultPlace at h
  refine ix_enter (ls := [some (.inr (.inr (.inl (some (44)))))]) rfl rfl rfl (Nat.le_of_ble_eq_true rfl) ?_
  refine ix_go 2 (x' := (4, [some (.inr (.inr (.inl (some (44)))))], [.inl (I 44 11)], 0, 0, ix_mem 276 I J T)) rfl ⟨rfl, rfl⟩ ?_
  exact ix_sp rfl ⟨Nat.le_refl _, Nat.le_refl _, trivial, hQ _ _ _ _ h⟩
def wp_X7_tapeLength (I : Nat → Nat → Int32) (J : Nat → Nat → Int64) (T : Option Nat) (P : Int32 → (Nat → Nat → Int32) → (Nat → Nat → Int64) → Option Nat → Prop) : Prop := P (I 44 1) I J T
set_option maxRecDepth 20000 in
theorem tp_X7_tapeLength {d : Nat} {I : Nat → Nat → Int32} {J : Nat → Nat → Int64} {T : Option Nat} {P : Int32 → (Nat → Nat → Int32) → (Nat → Nat → Int64) → Option Nat → Prop} {Q : ix_Q} (h : wp_X7_tapeLength I J T P) (hQ : ∀ v I J T, P v I J T → Q (some (.inl v)) (ix_mem 276 I J T)) : ix_C (d + 1) 96 [.inr (.inr (.inl (some (44))))] (ix_mem 276 I J T) Q := by
  unfold wp_X7_tapeLength at h
  refine ix_enter (ls := [some (.inr (.inr (.inl (some (44)))))]) rfl rfl rfl (Nat.le_of_ble_eq_true rfl) ?_
  refine ix_go 2 (x' := (4, [some (.inr (.inr (.inl (some (44)))))], [.inl (I 44 1)], 0, 0, ix_mem 276 I J T)) rfl ⟨rfl, rfl⟩ ?_
  exact ix_sp rfl ⟨Nat.le_refl _, Nat.le_refl _, trivial, hQ _ _ _ _ h⟩
def wp_X7_hasRoom (I : Nat → Nat → Int32) (J : Nat → Nat → Int64) (T : Option Nat) (P : Int32 → (Nat → Nat → Int32) → (Nat → Nat → Int64) → Option Nat → Prop) : Prop := ((I 44 1 ≤ (580 : Int32) → P ((1 : Int32)) I J T) ∧ (¬ (I 44 1 ≤ (580 : Int32)) → P ((0 : Int32)) I J T))
set_option maxRecDepth 20000 in
theorem tp_X7_hasRoom {d : Nat} {I : Nat → Nat → Int32} {J : Nat → Nat → Int64} {T : Option Nat} {P : Int32 → (Nat → Nat → Int32) → (Nat → Nat → Int64) → Option Nat → Prop} {Q : ix_Q} (h : wp_X7_hasRoom I J T P) (hQ : ∀ v I J T, P v I J T → Q (some (.inl v)) (ix_mem 276 I J T)) : ix_C (d + 1) 97 [.inr (.inr (.inl (some (44))))] (ix_mem 276 I J T) Q := by
  unfold wp_X7_hasRoom at h
  refine ix_enter (ls := [some (.inr (.inr (.inl (some (44)))))]) rfl rfl rfl (Nat.le_of_ble_eq_true rfl) ?_
  refine ix_go 4 (x' := (if I 44 1 ≤ (580 : Int32) then 10 else 14, [some (.inr (.inr (.inl (some (44)))))], [], 0, 0, ix_mem 276 I J T)) rfl ⟨rfl, rfl⟩ ?_
  refine ix_br (fun c1 => ?_) (fun c1 => ?_)
  · have h2 := h.1 c1
    refine ix_go 2 (x' := (15, [some (.inr (.inr (.inl (some (44)))))], [.inl ((1 : Int32))], 0, 0, ix_mem 276 I J T)) rfl trivial ?_
    exact ix_sp rfl ⟨Nat.le_refl _, Nat.le_refl _, ix_01_ok rfl, hQ _ _ _ _ h2⟩
  · have h2 := h.2 c1
    refine ix_go 1 (x' := (15, [some (.inr (.inr (.inl (some (44)))))], [.inl ((0 : Int32))], 0, 0, ix_mem 276 I J T)) rfl trivial ?_
    exact ix_sp rfl ⟨Nat.le_refl _, Nat.le_refl _, ix_01_ok rfl, hQ _ _ _ _ h2⟩
def wb_X7_addToTape_3 (x1 : Int32) (x2 : Int32) (I : Nat → Nat → Int32) (J : Nat → Nat → Int64) (T : Option Nat) (V3 : Int32 → Int32 → (Nat → Nat → Int32) → (Nat → Nat → Int64) → Option Nat → Prop) (P : (Nat → Nat → Int32) → (Nat → Nat → Int64) → Option Nat → Prop) : Prop := ((x2 < 0 → P I J T) ∧ (¬ (x2 < 0) → ((I 44 1 < (600 : Int32) → ix_inb (I 44 1) 600 = true ∧ V3 (x1) (x2 + (-8 : Int32)) (ix_u2 (ix_u2 I 45 (I 44 1).toNatClampNeg ((((x1) >>> ((x2) &&& 31)).toInt8.toInt32).toInt8.toInt32)) 44 1 ((I 44 1) + ((1 : Int32)))) J T) ∧ (¬ (I 44 1 < (600 : Int32)) → P I J T))))
def wl_X7_addToTape_3 (x1 : Int32) (x2 : Int32) (I : Nat → Nat → Int32) (J : Nat → Nat → Int64) (T : Option Nat) (P : (Nat → Nat → Int32) → (Nat → Nat → Int64) → Option Nat → Prop) : Prop := ∀ V : Int32 → Int32 → (Nat → Nat → Int32) → (Nat → Nat → Int64) → Option Nat → Prop, (∀ (x1 : Int32) (x2 : Int32) (I : Nat → Nat → Int32) (J : Nat → Nat → Int64) (T : Option Nat), wb_X7_addToTape_3 x1 x2 I J T V P → V x1 x2 I J T) → V x1 x2 I J T
set_option maxRecDepth 20000 in
theorem tl_X7_addToTape_3 {d : Nat} {x1 : Int32} {x2 : Int32} {I : Nat → Nat → Int32} {J : Nat → Nat → Int64} {T : Option Nat} {P : (Nat → Nat → Int32) → (Nat → Nat → Int64) → Option Nat → Prop} {Q : ix_Q} (h : wl_X7_addToTape_3 x1 x2 I J T P) (hQ : ∀ I J T, P I J T → Q none (ix_mem 276 I J T)) : ix_W (ix_C d) (7, ix_lk ix_l98, none, 0, 0, Nat.blt 0 0, none) Q (3, [some (.inr (.inr (.inl (some (44))))), some (.inl (x1)), some (.inl (x2))], [], 0, 0, ix_mem 276 I J T) := by
  refine h (fun x1 x2 I J T => ix_W (ix_C d) (7, ix_lk ix_l98, none, 0, 0, Nat.blt 0 0, none) Q (3, [some (.inr (.inr (.inl (some (44))))), some (.inl (x1)), some (.inl (x2))], [], 0, 0, ix_mem 276 I J T)) ?_
  intro x1 x2 I J T hb
  unfold wb_X7_addToTape_3 at hb
  refine ix_go 2 (x' := (if x2 < 0 then 46 else 7, [some (.inr (.inr (.inl (some (44))))), some (.inl (x1)), some (.inl (x2))], [], 0, 0, ix_mem 276 I J T)) rfl trivial ?_
  refine ix_br (fun c1 => ?_) (fun c1 => ?_)
  · have h2 := hb.1 c1
    exact ix_sp rfl ⟨Nat.le_refl _, Nat.le_refl _, rfl, hQ _ _ _ h2⟩
  · have h2 := hb.2 c1
    refine ix_go 4 (x' := (if I 44 1 < (600 : Int32) then 17 else 46, [some (.inr (.inr (.inl (some (44))))), some (.inl (x1)), some (.inl (x2))], [], 0, 0, ix_mem 276 I J T)) rfl ⟨rfl, rfl⟩ ?_
    refine ix_br (fun c3 => ?_) (fun c3 => ?_)
    · have h4 := h2.1 c3
      obtain ⟨p5, h6⟩ := h4
      refine ix_go 17 (x' := (3, [some (.inr (.inr (.inl (some (44))))), some (.inl (x1)), some (.inl (x2 + (-8 : Int32)))], [], 0, 0, ix_mem 276 (ix_u2 (ix_u2 I 45 (I 44 1).toNatClampNeg ((((x1) >>> ((x2) &&& 31)).toInt8.toInt32).toInt8.toInt32)) 44 1 ((I 44 1) + ((1 : Int32)))) J T)) rfl ⟨rfl, rfl, rfl, rfl, rfl, rfl, p5, rfl, rfl, rfl, rfl⟩ ?_
      refine ix_subW ([some (.inr (.inr (.inl (some (44))))), some (.inl (x1)), some (.inl (x2 + (-8 : Int32)))]) (ix_subS (ix_subS (ix_subS (ix_sub0)))) ?_
      exact h6
    · have h4 := h2.2 c3
      exact ix_sp rfl ⟨Nat.le_refl _, Nat.le_refl _, rfl, hQ _ _ _ h4⟩
def wp_X7_addToTape (a0 : Int32) (I : Nat → Nat → Int32) (J : Nat → Nat → Int64) (T : Option Nat) (P : (Nat → Nat → Int32) → (Nat → Nat → Int64) → Option Nat → Prop) : Prop := wl_X7_addToTape_3 (a0) ((24 : Int32)) I J T P
set_option maxRecDepth 20000 in
theorem tp_X7_addToTape {d : Nat} {a0 : Int32} {I : Nat → Nat → Int32} {J : Nat → Nat → Int64} {T : Option Nat} {P : (Nat → Nat → Int32) → (Nat → Nat → Int64) → Option Nat → Prop} {Q : ix_Q} (h : wp_X7_addToTape a0 I J T P) (hQ : ∀ I J T, P I J T → Q none (ix_mem 276 I J T)) : ix_C (d + 1) 98 [.inr (.inr (.inl (some (44)))), .inl (a0)] (ix_mem 276 I J T) Q := by
  unfold wp_X7_addToTape at h
  refine ix_enter (ls := [some (.inr (.inr (.inl (some (44))))), some (.inl (a0)), none]) rfl rfl rfl (Nat.le_of_ble_eq_true rfl) ?_
  refine ix_go 2 (x' := (3, [some (.inr (.inr (.inl (some (44))))), some (.inl (a0)), some (.inl ((24 : Int32)))], [], 0, 0, ix_mem 276 I J T)) rfl trivial ?_
  refine ix_subW ([some (.inr (.inr (.inl (some (44))))), some (.inl (a0)), some (.inl ((24 : Int32)))]) (ix_subS (ix_subS (ix_subS (ix_sub0)))) ?_
  exact tl_X7_addToTape_3 h hQ
def wp_X9_clear_59 (I : Nat → Nat → Int32) (J : Nat → Nat → Int64) (T : Option Nat) (P : (Nat → Nat → Int32) → (Nat → Nat → Int64) → Option Nat → Prop) : Prop := P (ix_u2 (ix_u2 I 59 0 ((0 : Int32))) 59 1 ((0 : Int32))) J T
set_option maxRecDepth 20000 in
theorem tp_X9_clear_59 {d : Nat} {I : Nat → Nat → Int32} {J : Nat → Nat → Int64} {T : Option Nat} {P : (Nat → Nat → Int32) → (Nat → Nat → Int64) → Option Nat → Prop} {Q : ix_Q} (h : wp_X9_clear_59 I J T P) (hQ : ∀ I J T, P I J T → Q none (ix_mem 276 I J T)) : ix_C (d + 1) 99 [.inr (.inr (.inl (some (59))))] (ix_mem 276 I J T) Q := by
  unfold wp_X9_clear_59 at h
  refine ix_enter (ls := [some (.inr (.inr (.inl (some (59)))))]) rfl rfl rfl (Nat.le_of_ble_eq_true rfl) ?_
  refine ix_go 6 (x' := (10, [some (.inr (.inr (.inl (some (59)))))], [], 0, 0, ix_mem 276 (ix_u2 (ix_u2 I 59 0 ((0 : Int32))) 59 1 ((0 : Int32))) J T)) rfl ⟨rfl, rfl, rfl, rfl⟩ ?_
  exact ix_sp rfl ⟨Nat.le_refl _, Nat.le_refl _, rfl, hQ _ _ _ h⟩
