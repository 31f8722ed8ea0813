def wb_X2_joinedCost_19 (x1 : Int32) (x2 : Int32) (I : Nat → Nat → Int32) (J : Nat → Nat → Int64) (T : Option Nat) (V19 : Int32 → Int32 → (Nat → Nat → Int32) → (Nat → Nat → Int64) → Option Nat → Prop) (P : Int32 → (Nat → Nat → Int32) → (Nat → Nat → Int64) → Option Nat → Prop) : Prop := ((x2 < I 182 ((0 : Int32)).toNatClampNeg → ix_inb (x2) 12 = true ∧ ((I 192 (x2).toNatClampNeg = (-1 : Int32) → V19 (x1) (x2 + (1 : Int32)) I J T) ∧ (¬ (I 192 (x2).toNatClampNeg = (-1 : Int32)) → ix_inb (x2) 12 = true ∧ wp_X2_cost (x2) (I 192 (x2).toNatClampNeg) I J T (fun v9 I9 J9 T9 => V19 ((x1) + ((v9) - ((50 : Int32)))) (x2 + (1 : Int32)) I9 J9 T9)))) ∧ (¬ (x2 < I 182 ((0 : Int32)).toNatClampNeg) → P (x1) I J T))
def wl_X2_joinedCost_19 (x1 : Int32) (x2 : Int32) (I : Nat → Nat → Int32) (J : Nat → Nat → Int64) (T : Option Nat) (P : Int32 → (Nat → Nat → Int32) → (Nat → Nat → Int64) → Option Nat → Prop) : Prop := ∀ V : Int32 → Int32 → (Nat → Nat → Int32) → (Nat → Nat → Int64) → Option Nat → Prop, (∀ (x1 : Int32) (x2 : Int32) (I : Nat → Nat → Int32) (J : Nat → Nat → Int64) (T : Option Nat), wb_X2_joinedCost_19 x1 x2 I J T V P → V x1 x2 I J T) → V x1 x2 I J T
set_option maxRecDepth 20000 in
theorem tl_X2_joinedCost_19 {d : Nat} {x1 : Int32} {x2 : Int32} {I : Nat → Nat → Int32} {J : Nat → Nat → Int64} {T : Option Nat} {P : Int32 → (Nat → Nat → Int32) → (Nat → Nat → Int64) → Option Nat → Prop} {Q : ix_Q} (h : wl_X2_joinedCost_19 x1 x2 I J T P) (hQ : ∀ v I J T, P v I J T → Q (some (.inl v)) (ix_mem 276 I J T)) : ix_W (ix_C (d + 2)) (2, ix_lk ix_l40, (some .int), 0, 0, Nat.blt 0 0, none) Q (19, [some (.inr (.inr (.inl (some (181))))), some (.inl (x1)), some (.inl (x2))], [], 0, 0, ix_mem 276 I J T) := by
  refine h (fun x1 x2 I J T => ix_W (ix_C (d + 2)) (2, ix_lk ix_l40, (some .int), 0, 0, Nat.blt 0 0, none) Q (19, [some (.inr (.inr (.inl (some (181))))), some (.inl (x1)), some (.inl (x2))], [], 0, 0, ix_mem 276 I J T)) ?_
  intro x1 x2 I J T hb
  unfold wb_X2_joinedCost_19 at hb
  refine ix_go 6 (x' := (if x2 < I 182 ((0 : Int32)).toNatClampNeg then 29 else 62, [some (.inr (.inr (.inl (some (181))))), some (.inl (x1)), some (.inl (x2))], [], 0, 0, ix_mem 276 I J T)) rfl ⟨rfl, rfl, rfl, rfl, rfl⟩ ?_
  refine ix_br (fun c1 => ?_) (fun c1 => ?_)
  · have h2 := hb.1 c1
    obtain ⟨p3, h4⟩ := h2
    refine ix_go 6 (x' := (if I 192 (x2).toNatClampNeg = (-1 : Int32) then 56 else 39, [some (.inr (.inr (.inl (some (181))))), some (.inl (x1)), some (.inl (x2))], [], 0, 0, ix_mem 276 I J T)) rfl ⟨rfl, rfl, rfl, rfl, p3⟩ ?_
    refine ix_br (fun c5 => ?_) (fun c5 => ?_)
    · have h6 := h4.1 c5
      refine ix_go 2 (x' := (19, [some (.inr (.inr (.inl (some (181))))), some (.inl (x1)), some (.inl (x2 + (1 : Int32)))], [], 0, 0, ix_mem 276 I J T)) rfl trivial ?_
      refine ix_subW ([some (.inr (.inr (.inl (some (181))))), some (.inl (x1)), some (.inl (x2 + (1 : Int32)))]) (ix_subS (ix_subS (ix_subS (ix_sub0)))) ?_
      exact h6
    · have h6 := h4.2 c5
      obtain ⟨p7, h8⟩ := h6
      refine ix_go 7 (x' := (48, [some (.inr (.inr (.inl (some (181))))), some (.inl (x1)), some (.inl (x2))], [.inl (I 192 (x2).toNatClampNeg), .inl (x2), .inr (.inr (.inl (some (181)))), .inl (x1)], 0, 0, ix_mem 276 I J T)) rfl ⟨rfl, rfl, rfl, rfl, p7⟩ ?_
      refine ix_sp rfl ⟨rfl, ⟨ix_lt rfl, ix_eq rfl, ix_lt rfl⟩, ix_le rfl, Nat.le_refl _, Nat.le_refl _, tp_X2_cost h8 (fun v9 I9 J9 T9 h9 => ?_)⟩
      change ix_W _ _ _ (51, [some (.inr (.inr (.inl (some (181))))), some (.inl (x1)), some (.inl (x2))], [.inl (v9), .inl (x1)], 0, 0, ix_mem 276 I9 J9 T9)
      refine ix_go 6 (x' := (19, [some (.inr (.inr (.inl (some (181))))), some (.inl ((x1) + ((v9) - ((50 : Int32))))), some (.inl (x2 + (1 : Int32)))], [], 0, 0, ix_mem 276 I9 J9 T9)) rfl trivial ?_
      refine ix_subW ([some (.inr (.inr (.inl (some (181))))), some (.inl ((x1) + ((v9) - ((50 : Int32))))), some (.inl (x2 + (1 : Int32)))]) (ix_subS (ix_subS (ix_subS (ix_sub0)))) ?_
      exact h9
  · have h2 := hb.2 c1
    refine ix_go 1 (x' := (63, [some (.inr (.inr (.inl (some (181))))), some (.inl (x1)), some (.inl (x2))], [.inl (x1)], 0, 0, ix_mem 276 I J T)) rfl trivial ?_
    exact ix_sp rfl ⟨Nat.le_refl _, Nat.le_refl _, trivial, hQ _ _ _ _ h2⟩
def wp_X2_joinedCost (I : Nat → Nat → Int32) (J : Nat → Nat → Int64) (T : Option Nat) (P : Int32 → (Nat → Nat → Int32) → (Nat → Nat → Int64) → Option Nat → Prop) : Prop := wl_X2_joinedCost_19 (((25 : Int32)) * ((I 182 ((0 : Int32)).toNatClampNeg) + (I 182 ((1 : Int32)).toNatClampNeg))) ((0 : Int32)) I J T P
set_option maxRecDepth 20000 in
theorem tp_X2_joinedCost {d : Nat} {I : Nat → Nat → Int32} {J : Nat → Nat → Int64} {T : Option Nat} {P : Int32 → (Nat → Nat → Int32) → (Nat → Nat → Int64) → Option Nat → Prop} {Q : ix_Q} (h : wp_X2_joinedCost I J T P) (hQ : ∀ v I J T, P v I J T → Q (some (.inl v)) (ix_mem 276 I J T)) : ix_C (d + 3) 40 [.inr (.inr (.inl (some (181))))] (ix_mem 276 I J T) Q := by
  unfold wp_X2_joinedCost at h
  refine ix_enter (ls := [some (.inr (.inr (.inl (some (181))))), none, none]) rfl rfl rfl (Nat.le_of_ble_eq_true rfl) ?_
  refine ix_go 14 (x' := (19, [some (.inr (.inr (.inl (some (181))))), some (.inl (((25 : Int32)) * ((I 182 ((0 : Int32)).toNatClampNeg) + (I 182 ((1 : Int32)).toNatClampNeg)))), some (.inl ((0 : Int32)))], [], 0, 0, ix_mem 276 I J T)) rfl ⟨rfl, rfl, rfl, rfl, rfl, rfl, rfl, rfl, rfl, rfl⟩ ?_
  refine ix_subW ([some (.inr (.inr (.inl (some (181))))), some (.inl (((25 : Int32)) * ((I 182 ((0 : Int32)).toNatClampNeg) + (I 182 ((1 : Int32)).toNatClampNeg)))), some (.inl ((0 : Int32)))]) (ix_subS (ix_subS (ix_subS (ix_sub0)))) ?_
  exact tl_X2_joinedCost_19 h hQ
def wb_X2_leanOfPairs_4 (x1 : Int32) (x2 : Int32) (I : Nat → Nat → Int32) (J : Nat → Nat → Int64) (T : Option Nat) (V4 : Int32 → Int32 → (Nat → Nat → Int32) → (Nat → Nat → Int64) → Option Nat → Prop) (P : Int32 → (Nat → Nat → Int32) → (Nat → Nat → Int64) → Option Nat → Prop) : Prop := ((x2 < I 182 ((0 : Int32)).toNatClampNeg → ix_inb (x2) 12 = true ∧ ((I 192 (x2).toNatClampNeg = (-1 : Int32) → V4 (x1) (x2 + (1 : Int32)) I J T) ∧ (¬ (I 192 (x2).toNatClampNeg = (-1 : Int32)) → ix_inb (x2) 12 = true ∧ ix_inb (x2) 12 = true ∧ ix_inb (I 192 (x2).toNatClampNeg) 12 = true ∧ V4 ((x1) + ((I 190 (x2).toNatClampNeg) - (I 191 (I 192 (x2).toNatClampNeg).toNatClampNeg))) (x2 + (1 : Int32)) I J T))) ∧ (¬ (x2 < I 182 ((0 : Int32)).toNatClampNeg) → P (x1) I J T))
def wl_X2_leanOfPairs_4 (x1 : Int32) (x2 : Int32) (I : Nat → Nat → Int32) (J : Nat → Nat → Int64) (T : Option Nat) (P : Int32 → (Nat → Nat → Int32) → (Nat → Nat → Int64) → Option Nat → Prop) : Prop := ∀ V : Int32 → Int32 → (Nat → Nat → Int32) → (Nat → Nat → Int64) → Option Nat → Prop, (∀ (x1 : Int32) (x2 : Int32) (I : Nat → Nat → Int32) (J : Nat → Nat → Int64) (T : Option Nat), wb_X2_leanOfPairs_4 x1 x2 I J T V P → V x1 x2 I J T) → V x1 x2 I J T
set_option maxRecDepth 20000 in
theorem tl_X2_leanOfPairs_4 {d : Nat} {x1 : Int32} {x2 : Int32} {I : Nat → Nat → Int32} {J : Nat → Nat → Int64} {T : Option Nat} {P : Int32 → (Nat → Nat → Int32) → (Nat → Nat → Int64) → Option Nat → Prop} {Q : ix_Q} (h : wl_X2_leanOfPairs_4 x1 x2 I J T P) (hQ : ∀ v I J T, P v I J T → Q (some (.inl v)) (ix_mem 276 I J T)) : ix_W (ix_C d) (2, ix_lk ix_l41, (some .int), 0, 0, Nat.blt 0 0, none) Q (4, [some (.inr (.inr (.inl (some (181))))), some (.inl (x1)), some (.inl (x2))], [], 0, 0, ix_mem 276 I J T) := by
  refine h (fun x1 x2 I J T => ix_W (ix_C d) (2, ix_lk ix_l41, (some .int), 0, 0, Nat.blt 0 0, none) Q (4, [some (.inr (.inr (.inl (some (181))))), some (.inl (x1)), some (.inl (x2))], [], 0, 0, ix_mem 276 I J T)) ?_
  intro x1 x2 I J T hb
  unfold wb_X2_leanOfPairs_4 at hb
  refine ix_go 6 (x' := (if x2 < I 182 ((0 : Int32)).toNatClampNeg then 14 else 55, [some (.inr (.inr (.inl (some (181))))), some (.inl (x1)), some (.inl (x2))], [], 0, 0, ix_mem 276 I J T)) rfl ⟨rfl, rfl, rfl, rfl, rfl⟩ ?_
  refine ix_br (fun c1 => ?_) (fun c1 => ?_)
  · have h2 := hb.1 c1
    obtain ⟨p3, h4⟩ := h2
    refine ix_go 6 (x' := (if I 192 (x2).toNatClampNeg = (-1 : Int32) then 49 else 24, [some (.inr (.inr (.inl (some (181))))), some (.inl (x1)), some (.inl (x2))], [], 0, 0, ix_mem 276 I J T)) rfl ⟨rfl, rfl, rfl, rfl, p3⟩ ?_
    refine ix_br (fun c5 => ?_) (fun c5 => ?_)
    · have h6 := h4.1 c5
      refine ix_go 2 (x' := (4, [some (.inr (.inr (.inl (some (181))))), some (.inl (x1)), some (.inl (x2 + (1 : Int32)))], [], 0, 0, ix_mem 276 I J T)) rfl trivial ?_
      refine ix_subW ([some (.inr (.inr (.inl (some (181))))), some (.inl (x1)), some (.inl (x2 + (1 : Int32)))]) (ix_subS (ix_subS (ix_subS (ix_sub0)))) ?_
      exact h6
    · have h6 := h4.2 c5
      obtain ⟨p7, h8⟩ := h6
      obtain ⟨p9, h10⟩ := h8
      obtain ⟨p11, h12⟩ := h10
      refine ix_go 21 (x' := (4, [some (.inr (.inr (.inl (some (181))))), some (.inl ((x1) + ((I 190 (x2).toNatClampNeg) - (I 191 (I 192 (x2).toNatClampNeg).toNatClampNeg)))), some (.inl (x2 + (1 : Int32)))], [], 0, 0, ix_mem 276 I J T)) rfl ⟨rfl, rfl, rfl, rfl, rfl, rfl, rfl, rfl, rfl, p7, rfl, rfl, rfl, rfl, rfl, rfl, rfl, rfl, rfl, rfl, rfl, p9, rfl, rfl, p11⟩ ?_
      refine ix_subW ([some (.inr (.inr (.inl (some (181))))), some (.inl ((x1) + ((I 190 (x2).toNatClampNeg) - (I 191 (I 192 (x2).toNatClampNeg).toNatClampNeg)))), some (.inl (x2 + (1 : Int32)))]) (ix_subS (ix_subS (ix_subS (ix_sub0)))) ?_
      exact h12
  · have h2 := hb.2 c1
    refine ix_go 1 (x' := (56, [some (.inr (.inr (.inl (some (181))))), some (.inl (x1)), some (.inl (x2))], [.inl (x1)], 0, 0, ix_mem 276 I J T)) rfl trivial ?_
    exact ix_sp rfl ⟨Nat.le_refl _, Nat.le_refl _, trivial, hQ _ _ _ _ h2⟩
def wp_X2_leanOfPairs (I : Nat → Nat → Int32) (J : Nat → Nat → Int64) (T : Option Nat) (P : Int32 → (Nat → Nat → Int32) → (Nat → Nat → Int64) → Option Nat → Prop) : Prop := wl_X2_leanOfPairs_4 ((0 : Int32)) ((0 : Int32)) I J T P
set_option maxRecDepth 20000 in
theorem tp_X2_leanOfPairs {d : Nat} {I : Nat → Nat → Int32} {J : Nat → Nat → Int64} {T : Option Nat} {P : Int32 → (Nat → Nat → Int32) → (Nat → Nat → Int64) → Option Nat → Prop} {Q : ix_Q} (h : wp_X2_leanOfPairs I J T P) (hQ : ∀ v I J T, P v I J T → Q (some (.inl v)) (ix_mem 276 I J T)) : ix_C (d + 1) 41 [.inr (.inr (.inl (some (181))))] (ix_mem 276 I J T) Q := by
  unfold wp_X2_leanOfPairs at h
  refine ix_enter (ls := [some (.inr (.inr (.inl (some (181))))), none, none]) rfl rfl rfl (Nat.le_of_ble_eq_true rfl) ?_
  refine ix_go 4 (x' := (4, [some (.inr (.inr (.inl (some (181))))), some (.inl ((0 : Int32))), some (.inl ((0 : Int32)))], [], 0, 0, ix_mem 276 I J T)) rfl trivial ?_
  refine ix_subW ([some (.inr (.inr (.inl (some (181))))), some (.inl ((0 : Int32))), some (.inl ((0 : Int32)))]) (ix_subS (ix_subS (ix_subS (ix_sub0)))) ?_
  exact tl_X2_leanOfPairs_4 h hQ
def wb_X2_leanOfAll_11_4 (x1 : Int32) (x2 : Int32) (x3 : Int32) (I : Nat → Nat → Int32) (J : Nat → Nat → Int64) (T : Option Nat) (V11 : Int32 → Int32 → Int32 → (Nat → Nat → Int32) → (Nat → Nat → Int64) → Option Nat → Prop) (V4 : Int32 → Int32 → (Nat → Nat → Int32) → (Nat → Nat → Int64) → Option Nat → Prop) (P : Int32 → (Nat → Nat → Int32) → (Nat → Nat → Int64) → Option Nat → Prop) : Prop := ix_inb (x2) 2 = true ∧ ((x3 < I 182 (x2).toNatClampNeg → ((x2 = 0 → ix_inb (x2) 2 = true ∧ ix_inb (x3) 12 = true ∧ V11 ((x1) + (I (ix_row 189 (x2)) (x3).toNatClampNeg)) (x2) (x3 + (1 : Int32)) I J T) ∧ (¬ (x2 = 0) → ix_inb (x2) 2 = true ∧ ix_inb (x3) 12 = true ∧ V11 ((x1) + (-(I (ix_row 189 (x2)) (x3).toNatClampNeg))) (x2) (x3 + (1 : Int32)) I J T))) ∧ (¬ (x3 < I 182 (x2).toNatClampNeg) → V4 (x1) (x2 + (1 : Int32)) I J T))
def wl_X2_leanOfAll_11_4 (x1 : Int32) (x2 : Int32) (x3 : Int32) (I : Nat → Nat → Int32) (J : Nat → Nat → Int64) (T : Option Nat) (V4 : Int32 → Int32 → (Nat → Nat → Int32) → (Nat → Nat → Int64) → Option Nat → Prop) (P : Int32 → (Nat → Nat → Int32) → (Nat → Nat → Int64) → Option Nat → Prop) : Prop := ∀ V : Int32 → Int32 → Int32 → (Nat → Nat → Int32) → (Nat → Nat → Int64) → Option Nat → Prop, (∀ (x1 : Int32) (x2 : Int32) (x3 : Int32) (I : Nat → Nat → Int32) (J : Nat → Nat → Int64) (T : Option Nat), wb_X2_leanOfAll_11_4 x1 x2 x3 I J T V V4 P → V x1 x2 x3 I J T) → V x1 x2 x3 I J T
set_option maxRecDepth 20000 in
theorem tl_X2_leanOfAll_11_4 {d : Nat} {x1 : Int32} {x2 : Int32} {x3 : Int32} {I : Nat → Nat → Int32} {J : Nat → Nat → Int64} {T : Option Nat} {V4 : Int32 → Int32 → (Nat → Nat → Int32) → (Nat → Nat → Int64) → Option Nat → Prop} {P : Int32 → (Nat → Nat → Int32) → (Nat → Nat → Int64) → Option Nat → Prop} {Q : ix_Q} (h : wl_X2_leanOfAll_11_4 x1 x2 x3 I J T V4 P) (hV4 : ∀ (x1 : Int32) (x2 : Int32) I J T, V4 x1 x2 I J T → ix_W (ix_C d) (2, ix_lk ix_l42, (some .int), 0, 0, Nat.blt 0 0, none) Q (4, [some (.inr (.inr (.inl (some (181))))), some (.inl (x1)), some (.inl (x2)), none], [], 0, 0, ix_mem 276 I J T)) (hQ : ∀ v I J T, P v I J T → Q (some (.inl v)) (ix_mem 276 I J T)) : ix_W (ix_C d) (2, ix_lk ix_l42, (some .int), 0, 0, Nat.blt 0 0, none) Q (11, [some (.inr (.inr (.inl (some (181))))), some (.inl (x1)), some (.inl (x2)), some (.inl (x3))], [], 0, 0, ix_mem 276 I J T) := by
  refine h (fun x1 x2 x3 I J T => ix_W (ix_C d) (2, ix_lk ix_l42, (some .int), 0, 0, Nat.blt 0 0, none) Q (11, [some (.inr (.inr (.inl (some (181))))), some (.inl (x1)), some (.inl (x2)), some (.inl (x3))], [], 0, 0, ix_mem 276 I J T)) ?_
  intro x1 x2 x3 I J T hb
  unfold wb_X2_leanOfAll_11_4 at hb
  obtain ⟨p3, h4⟩ := hb
  refine ix_go 6 (x' := (if x3 < I 182 (x2).toNatClampNeg then 21 else 54, [some (.inr (.inr (.inl (some (181))))), some (.inl (x1)), some (.inl (x2)), some (.inl (x3))], [], 0, 0, ix_mem 276 I J T)) rfl ⟨rfl, rfl, rfl, rfl, p3⟩ ?_
  refine ix_br (fun c5 => ?_) (fun c5 => ?_)
  · have h6 := h4.1 c5
    refine ix_go 3 (x' := (if x2 = 0 then 26 else 37, [some (.inr (.inr (.inl (some (181))))), some (.inl (x1)), some (.inl (x2)), some (.inl (x3))], [.inl (x1)], 0, 0, ix_mem 276 I J T)) rfl trivial ?_
    refine ix_br (fun c7 => ?_) (fun c7 => ?_)
    · have h8 := h6.1 c7
      obtain ⟨p9, h10⟩ := h8
      obtain ⟨p11, h12⟩ := h10
      refine ix_go 11 (x' := (11, [some (.inr (.inr (.inl (some (181))))), some (.inl ((x1) + (I (ix_row 189 (x2)) (x3).toNatClampNeg))), some (.inl (x2)), some (.inl (x3 + (1 : Int32)))], [], 0, 0, ix_mem 276 I J T)) rfl ⟨rfl, rfl, rfl, rfl, rfl, p9, (rw_189 p9).1, (rw_189 p9).2.1, (rw_189 p9).2.2.1, (ix_inbL (rw_189 p9).2.2.2.1 p11)⟩ ?_
      refine ix_subW ([some (.inr (.inr (.inl (some (181))))), some (.inl ((x1) + (I (ix_row 189 (x2)) (x3).toNatClampNeg))), some (.inl (x2)), some (.inl (x3 + (1 : Int32)))]) (ix_subS (ix_subS (ix_subS (ix_subS (ix_sub0))))) ?_
      exact h12
    · have h8 := h6.2 c7
      obtain ⟨p13, h14⟩ := h8
      obtain ⟨p15, h16⟩ := h14
      refine ix_go 11 (x' := (11, [some (.inr (.inr (.inl (some (181))))), some (.inl ((x1) + (-(I (ix_row 189 (x2)) (x3).toNatClampNeg)))), some (.inl (x2)), some (.inl (x3 + (1 : Int32)))], [], 0, 0, ix_mem 276 I J T)) rfl ⟨rfl, rfl, rfl, rfl, rfl, p13, (rw_189 p13).1, (rw_189 p13).2.1, (rw_189 p13).2.2.1, (ix_inbL (rw_189 p13).2.2.2.1 p15)⟩ ?_
      refine ix_subW ([some (.inr (.inr (.inl (some (181))))), some (.inl ((x1) + (-(I (ix_row 189 (x2)) (x3).toNatClampNeg)))), some (.inl (x2)), some (.inl (x3 + (1 : Int32)))]) (ix_subS (ix_subS (ix_subS (ix_subS (ix_sub0))))) ?_
      exact h16
  · have h6 := h4.2 c5
    refine ix_go 2 (x' := (4, [some (.inr (.inr (.inl (some (181))))), some (.inl (x1)), some (.inl (x2 + (1 : Int32))), some (.inl (x3))], [], 0, 0, ix_mem 276 I J T)) rfl trivial ?_
    refine ix_subW ([some (.inr (.inr (.inl (some (181))))), some (.inl (x1)), some (.inl (x2 + (1 : Int32))), none]) (ix_subS (ix_subS (ix_subS (ix_subN (ix_sub0))))) ?_
    exact hV4 _ _ _ _ _ h6
def wb_X2_leanOfAll_4 (x1 : Int32) (x2 : Int32) (I : Nat → Nat → Int32) (J : Nat → Nat → Int64) (T : Option Nat) (V4 : Int32 → Int32 → (Nat → Nat → Int32) → (Nat → Nat → Int64) → Option Nat → Prop) (P : Int32 → (Nat → Nat → Int32) → (Nat → Nat → Int64) → Option Nat → Prop) : Prop := ((x2 < (2 : Int32) → wl_X2_leanOfAll_11_4 (x1) (x2) ((0 : Int32)) I J T V4 P) ∧ (¬ (x2 < (2 : Int32)) → P (x1) I J T))
def wl_X2_leanOfAll_4 (x1 : Int32) (x2 : Int32) (I : Nat → Nat → Int32) (J : Nat → Nat → Int64) (T : Option Nat) (P : Int32 → (Nat → Nat → Int32) → (Nat → Nat → Int64) → Option Nat → Prop) : Prop := ∀ V : Int32 → Int32 → (Nat → Nat → Int32) → (Nat → Nat → Int64) → Option Nat → Prop, (∀ (x1 : Int32) (x2 : Int32) (I : Nat → Nat → Int32) (J : Nat → Nat → Int64) (T : Option Nat), wb_X2_leanOfAll_4 x1 x2 I J T V P → V x1 x2 I J T) → V x1 x2 I J T
set_option maxRecDepth 20000 in
theorem tl_X2_leanOfAll_4 {d : Nat} {x1 : Int32} {x2 : Int32} {I : Nat → Nat → Int32} {J : Nat → Nat → Int64} {T : Option Nat} {P : Int32 → (Nat → Nat → Int32) → (Nat → Nat → Int64) → Option Nat → Prop} {Q : ix_Q} (h : wl_X2_leanOfAll_4 x1 x2 I J T P) (hQ : ∀ v I J T, P v I J T → Q (some (.inl v)) (ix_mem 276 I J T)) : ix_W (ix_C d) (2, ix_lk ix_l42, (some .int), 0, 0, Nat.blt 0 0, none) Q (4, [some (.inr (.inr (.inl (some (181))))), some (.inl (x1)), some (.inl (x2)), none], [], 0, 0, ix_mem 276 I J T) := by
  refine h (fun x1 x2 I J T => ix_W (ix_C d) (2, ix_lk ix_l42, (some .int), 0, 0, Nat.blt 0 0, none) Q (4, [some (.inr (.inr (.inl (some (181))))), some (.inl (x1)), some (.inl (x2)), none], [], 0, 0, ix_mem 276 I J T)) ?_
  intro x1 x2 I J T hb
  unfold wb_X2_leanOfAll_4 at hb
  refine ix_go 3 (x' := (if x2 < (2 : Int32) then 9 else 60, [some (.inr (.inr (.inl (some (181))))), some (.inl (x1)), some (.inl (x2)), none], [], 0, 0, ix_mem 276 I J T)) rfl trivial ?_
  refine ix_br (fun c1 => ?_) (fun c1 => ?_)
  · have h2 := hb.1 c1
    refine ix_go 2 (x' := (11, [some (.inr (.inr (.inl (some (181))))), some (.inl (x1)), some (.inl (x2)), some (.inl ((0 : Int32)))], [], 0, 0, ix_mem 276 I J T)) rfl trivial ?_
    refine ix_subW ([some (.inr (.inr (.inl (some (181))))), some (.inl (x1)), some (.inl (x2)), some (.inl ((0 : Int32)))]) (ix_subS (ix_subS (ix_subS (ix_subS (ix_sub0))))) ?_
    exact tl_X2_leanOfAll_11_4 h2 (fun _ _ I J T hv => hv) hQ
  · have h2 := hb.2 c1
    refine ix_go 1 (x' := (61, [some (.inr (.inr (.inl (some (181))))), some (.inl (x1)), some (.inl (x2)), none], [.inl (x1)], 0, 0, ix_mem 276 I J T)) rfl trivial ?_
    exact ix_sp rfl ⟨Nat.le_refl _, Nat.le_refl _, trivial, hQ _ _ _ _ h2⟩
def wp_X2_leanOfAll (I : Nat → Nat → Int32) (J : Nat → Nat → Int64) (T : Option Nat) (P : Int32 → (Nat → Nat → Int32) → (Nat → Nat → Int64) → Option Nat → Prop) : Prop := wl_X2_leanOfAll_4 ((0 : Int32)) ((0 : Int32)) I J T P
set_option maxRecDepth 20000 in
theorem tp_X2_leanOfAll {d : Nat} {I : Nat → Nat → Int32} {J : Nat → Nat → Int64} {T : Option Nat} {P : Int32 → (Nat → Nat → Int32) → (Nat → Nat → Int64) → Option Nat → Prop} {Q : ix_Q} (h : wp_X2_leanOfAll I J T P) (hQ : ∀ v I J T, P v I J T → Q (some (.inl v)) (ix_mem 276 I J T)) : ix_C (d + 1) 42 [.inr (.inr (.inl (some (181))))] (ix_mem 276 I J T) Q := by
  unfold wp_X2_leanOfAll at h
  refine ix_enter (ls := [some (.inr (.inr (.inl (some (181))))), none, none, none]) rfl rfl rfl (Nat.le_of_ble_eq_true rfl) ?_
  refine ix_go 4 (x' := (4, [some (.inr (.inr (.inl (some (181))))), some (.inl ((0 : Int32))), some (.inl ((0 : Int32))), none], [], 0, 0, ix_mem 276 I J T)) rfl trivial ?_
  refine ix_subW ([some (.inr (.inr (.inl (some (181))))), some (.inl ((0 : Int32))), some (.inl ((0 : Int32))), none]) (ix_subS (ix_subS (ix_subS (ix_subS (ix_sub0))))) ?_
  exact tl_X2_leanOfAll_4 h hQ
def wp_X3_setWeight (a0 : Int32) (a1 : Int32) (I : Nat → Nat → Int32) (J : Nat → Nat → Int64) (T : Option Nat) (P : (Nat → Nat → Int32) → (Nat → Nat → Int64) → Option Nat → Prop) : Prop := ix_inb (a0) 6 = true ∧ P (ix_u2 I 203 (a0).toNatClampNeg (a1)) J T
set_option maxRecDepth 20000 in
theorem tp_X3_setWeight {d : Nat} {a0 : Int32} {a1 : Int32} {I : Nat → Nat → Int32} {J : Nat → Nat → Int64} {T : Option Nat} {P : (Nat → Nat → Int32) → (Nat → Nat → Int64) → Option Nat → Prop} {Q : ix_Q} (h : wp_X3_setWeight a0 a1 I J T P) (hQ : ∀ I J T, P I J T → Q none (ix_mem 276 I J T)) : ix_C (d + 1) 44 [.inr (.inr (.inl (some (200)))), .inl (a0), .inl (a1)] (ix_mem 276 I J T) Q := by
  unfold wp_X3_setWeight at h
  refine ix_enter (ls := [some (.inr (.inr (.inl (some (200))))), some (.inl (a0)), some (.inl (a1))]) rfl rfl rfl (Nat.le_of_ble_eq_true rfl) ?_
  obtain ⟨p1, h2⟩ := h
  refine ix_go 5 (x' := (7, [some (.inr (.inr (.inl (some (200))))), some (.inl (a0)), some (.inl (a1))], [], 0, 0, ix_mem 276 (ix_u2 I 203 (a0).toNatClampNeg (a1)) J T)) rfl ⟨rfl, rfl, rfl, rfl, p1⟩ ?_
  exact ix_sp rfl ⟨Nat.le_refl _, Nat.le_refl _, rfl, hQ _ _ _ h2⟩
def wp_X3_isFull (I : Nat → Nat → Int32) (J : Nat → Nat → Int64) (T : Option Nat) (P : Int32 → (Nat → Nat → Int32) → (Nat → Nat → Int64) → Option Nat → Prop) : Prop := ((I 200 0 < (20 : Int32) → P ((0 : Int32)) I J T) ∧ (¬ (I 200 0 < (20 : Int32)) → P ((1 : Int32)) I J T))
set_option maxRecDepth 20000 in
theorem tp_X3_isFull {d : Nat} {I : Nat → Nat → Int32} {J : Nat → Nat → Int64} {T : Option Nat} {P : Int32 → (Nat → Nat → Int32) → (Nat → Nat → Int64) → Option Nat → Prop} {Q : ix_Q} (h : wp_X3_isFull I J T P) (hQ : ∀ v I J T, P v I J T → Q (some (.inl v)) (ix_mem 276 I J T)) : ix_C (d + 1) 45 [.inr (.inr (.inl (some (200))))] (ix_mem 276 I J T) Q := by
  unfold wp_X3_isFull at h
  refine ix_enter (ls := [some (.inr (.inr (.inl (some (200)))))]) rfl rfl rfl (Nat.le_of_ble_eq_true rfl) ?_
  refine ix_go 4 (x' := (if I 200 0 < (20 : Int32) then 13 else 9, [some (.inr (.inr (.inl (some (200)))))], [], 0, 0, ix_mem 276 I J T)) rfl ⟨rfl, rfl⟩ ?_
  refine ix_br (fun c1 => ?_) (fun c1 => ?_)
  · have h2 := h.1 c1
    refine ix_go 1 (x' := (14, [some (.inr (.inr (.inl (some (200)))))], [.inl ((0 : Int32))], 0, 0, ix_mem 276 I J T)) rfl trivial ?_
    exact ix_sp rfl ⟨Nat.le_refl _, Nat.le_refl _, ix_01_ok rfl, hQ _ _ _ _ h2⟩
  · have h2 := h.2 c1
    refine ix_go 2 (x' := (14, [some (.inr (.inr (.inl (some (200)))))], [.inl ((1 : Int32))], 0, 0, ix_mem 276 I J T)) rfl trivial ?_
    exact ix_sp rfl ⟨Nat.le_refl _, Nat.le_refl _, ix_01_ok rfl, hQ _ _ _ _ h2⟩
def wp_X3_add (a0 : Int32) (a1 : Int32) (I : Nat → Nat → Int32) (J : Nat → Nat → Int64) (T : Option Nat) (P : Int32 → (Nat → Nat → Int32) → (Nat → Nat → Int64) → Option Nat → Prop) : Prop := ix_inb (I 200 0) 20 = true ∧ ix_inb (I 200 0) 20 = true ∧ P ((((I 200 0) + ((1 : Int32)))) - ((1 : Int32))) (ix_u2 (ix_u2 (ix_u2 I 201 (I 200 0).toNatClampNeg (a0)) 202 (I 200 0).toNatClampNeg (a1)) 200 0 ((I 200 0) + ((1 : Int32)))) J T
set_option maxRecDepth 20000 in
theorem tp_X3_add {d : Nat} {a0 : Int32} {a1 : Int32} {I : Nat → Nat → Int32} {J : Nat → Nat → Int64} {T : Option Nat} {P : Int32 → (Nat → Nat → Int32) → (Nat → Nat → Int64) → Option Nat → Prop} {Q : ix_Q} (h : wp_X3_add a0 a1 I J T P) (hQ : ∀ v I J T, P v I J T → Q (some (.inl v)) (ix_mem 276 I J T)) : ix_C (d + 1) 46 [.inr (.inr (.inl (some (200)))), .inl (a0), .inl (a1)] (ix_mem 276 I J T) Q := by
  unfold wp_X3_add at h
  refine ix_enter (ls := [some (.inr (.inr (.inl (some (200))))), some (.inl (a0)), some (.inl (a1))]) rfl rfl rfl (Nat.le_of_ble_eq_true rfl) ?_
  obtain ⟨p1, h2⟩ := h
  obtain ⟨p3, h4⟩ := h2
  refine ix_go 22 (x' := (36, [some (.inr (.inr (.inl (some (200))))), some (.inl (a0)), some (.inl (a1))], [.inl ((((I 200 0) + ((1 : Int32)))) - ((1 : Int32)))], 0, 0, ix_mem 276 (ix_u2 (ix_u2 (ix_u2 I 201 (I 200 0).toNatClampNeg (a0)) 202 (I 200 0).toNatClampNeg (a1)) 200 0 ((I 200 0) + ((1 : Int32)))) J T)) rfl ⟨rfl, rfl, rfl, rfl, rfl, rfl, p1, rfl, rfl, rfl, rfl, rfl, rfl, p3, rfl, rfl, rfl, rfl, rfl, rfl⟩ ?_
  exact ix_sp rfl ⟨Nat.le_refl _, Nat.le_refl _, trivial, hQ _ _ _ _ h4⟩
def wb_X3_distance_11 (x3 : Int32) (x4 : Int32) (x5 : Int32) (x6 : Int32) (I : Nat → Nat → Int32) (J : Nat → Nat → Int64) (T : Option Nat) (V11 : Int32 → Int32 → Int32 → Int32 → (Nat → Nat → Int32) → (Nat → Nat → Int64) → Option Nat → Prop) (P : Int32 → (Nat → Nat → Int32) → (Nat → Nat → Int64) → Option Nat → Prop) : Prop := ((x6 < (6 : Int32) → ix_inb (x6) 6 = true ∧ wp_J9_abs_0f7a4 (((x4) - (x4) / ((10 : Int32)) * ((10 : Int32))) - ((x5) - (x5) / ((10 : Int32)) * ((10 : Int32)))) I J T (fun v5 I5 J5 T5 => V11 ((x3) + ((I 203 (x6).toNatClampNeg) * (v5))) ((x4) / ((10 : Int32))) ((x5) / ((10 : Int32))) (x6 + (1 : Int32)) I5 J5 T5)) ∧ (¬ (x6 < (6 : Int32)) → P (x3) I J T))
def wl_X3_distance_11 (x3 : Int32) (x4 : Int32) (x5 : Int32) (x6 : Int32) (I : Nat → Nat → Int32) (J : Nat → Nat → Int64) (T : Option Nat) (P : Int32 → (Nat → Nat → Int32) → (Nat → Nat → Int64) → Option Nat → Prop) : Prop := ∀ V : Int32 → Int32 → Int32 → Int32 → (Nat → Nat → Int32) → (Nat → Nat → Int64) → Option Nat → Prop, (∀ (x3 : Int32) (x4 : Int32) (x5 : Int32) (x6 : Int32) (I : Nat → Nat → Int32) (J : Nat → Nat → Int64) (T : Option Nat), wb_X3_distance_11 x3 x4 x5 x6 I J T V P → V x3 x4 x5 x6 I J T) → V x3 x4 x5 x6 I J T
set_option maxRecDepth 20000 in
theorem tl_X3_distance_11 {d : Nat} {x3 : Int32} {x4 : Int32} {x5 : Int32} {x6 : Int32} {I : Nat → Nat → Int32} {J : Nat → Nat → Int64} {T : Option Nat} {P : Int32 → (Nat → Nat → Int32) → (Nat → Nat → Int64) → Option Nat → Prop} {Q : ix_Q} (h : wl_X3_distance_11 x3 x4 x5 x6 I J T P) (hQ : ∀ v I J T, P v I J T → Q (some (.inl v)) (ix_mem 276 I J T)) : ix_W (ix_C (d + 1)) (3, ix_lk ix_l47, (some .int), 0, 0, Nat.blt 0 0, none) Q (11, [some (.inr (.inr (.inl (some (200))))), none, none, some (.inl (x3)), some (.inl (x4)), some (.inl (x5)), some (.inl (x6))], [], 0, 0, ix_mem 276 I J T) := by
  refine h (fun x3 x4 x5 x6 I J T => ix_W (ix_C (d + 1)) (3, ix_lk ix_l47, (some .int), 0, 0, Nat.blt 0 0, none) Q (11, [some (.inr (.inr (.inl (some (200))))), none, none, some (.inl (x3)), some (.inl (x4)), some (.inl (x5)), some (.inl (x6))], [], 0, 0, ix_mem 276 I J T)) ?_
  intro x3 x4 x5 x6 I J T hb
  unfold wb_X3_distance_11 at hb
  refine ix_go 3 (x' := (if x6 < (6 : Int32) then 18 else 63, [some (.inr (.inr (.inl (some (200))))), none, none, some (.inl (x3)), some (.inl (x4)), some (.inl (x5)), some (.inl (x6))], [], 0, 0, ix_mem 276 I J T)) rfl trivial ?_
  refine ix_br (fun c1 => ?_) (fun c1 => ?_)
  · have h2 := hb.1 c1
    obtain ⟨p3, h4⟩ := h2
    refine ix_go 12 (x' := (37, [some (.inr (.inr (.inl (some (200))))), none, none, some (.inl (x3)), some (.inl (x4)), some (.inl (x5)), some (.inl (x6))], [.inl (((x4) - (x4) / ((10 : Int32)) * ((10 : Int32))) - ((x5) - (x5) / ((10 : Int32)) * ((10 : Int32)))), .inl (I 203 (x6).toNatClampNeg), .inl (x3)], 0, 0, ix_mem 276 I J T)) rfl ⟨rfl, rfl, rfl, rfl, p3, rfl, rfl⟩ ?_
    refine ix_sp rfl ⟨rfl, trivial, ix_le rfl, Nat.le_refl _, Nat.le_refl _, tp_J9_abs_0f7a4 h4 (fun v5 I5 J5 T5 h5 => ?_)⟩
    change ix_W _ _ _ (40, [some (.inr (.inr (.inl (some (200))))), none, none, some (.inl (x3)), some (.inl (x4)), some (.inl (x5)), some (.inl (x6))], [.inl (v5), .inl (I 203 (x6).toNatClampNeg), .inl (x3)], 0, 0, ix_mem 276 I5 J5 T5)
    refine ix_go 13 (x' := (11, [some (.inr (.inr (.inl (some (200))))), none, none, some (.inl ((x3) + ((I 203 (x6).toNatClampNeg) * (v5)))), some (.inl ((x4) / ((10 : Int32)))), some (.inl ((x5) / ((10 : Int32)))), some (.inl (x6 + (1 : Int32)))], [], 0, 0, ix_mem 276 I5 J5 T5)) rfl ⟨rfl, rfl⟩ ?_
    refine ix_subW ([some (.inr (.inr (.inl (some (200))))), none, none, some (.inl ((x3) + ((I 203 (x6).toNatClampNeg) * (v5)))), some (.inl ((x4) / ((10 : Int32)))), some (.inl ((x5) / ((10 : Int32)))), some (.inl (x6 + (1 : Int32)))]) (ix_subS (ix_subS (ix_subS (ix_subS (ix_subS (ix_subS (ix_subS (ix_sub0)))))))) ?_
    exact h5
  · have h2 := hb.2 c1
    refine ix_go 1 (x' := (64, [some (.inr (.inr (.inl (some (200))))), none, none, some (.inl (x3)), some (.inl (x4)), some (.inl (x5)), some (.inl (x6))], [.inl (x3)], 0, 0, ix_mem 276 I J T)) rfl trivial ?_
    exact ix_sp rfl ⟨Nat.le_refl _, Nat.le_refl _, trivial, hQ _ _ _ _ h2⟩
def wp_X3_distance (a0 : Int32) (a1 : Int32) (I : Nat → Nat → Int32) (J : Nat → Nat → Int64) (T : Option Nat) (P : Int32 → (Nat → Nat → Int32) → (Nat → Nat → Int64) → Option Nat → Prop) : Prop := wl_X3_distance_11 ((0 : Int32)) (a0) (a1) ((0 : Int32)) I J T P
set_option maxRecDepth 20000 in
theorem tp_X3_distance {d : Nat} {a0 : Int32} {a1 : Int32} {I : Nat → Nat → Int32} {J : Nat → Nat → Int64} {T : Option Nat} {P : Int32 → (Nat → Nat → Int32) → (Nat → Nat → Int64) → Option Nat → Prop} {Q : ix_Q} (h : wp_X3_distance a0 a1 I J T P) (hQ : ∀ v I J T, P v I J T → Q (some (.inl v)) (ix_mem 276 I J T)) : ix_C (d + 2) 47 [.inr (.inr (.inl (some (200)))), .inl (a0), .inl (a1)] (ix_mem 276 I J T) Q := by
  unfold wp_X3_distance at h
  refine ix_enter (ls := [some (.inr (.inr (.inl (some (200))))), some (.inl (a0)), some (.inl (a1)), none, none, none, none]) rfl rfl rfl (Nat.le_of_ble_eq_true rfl) ?_
  refine ix_go 8 (x' := (11, [some (.inr (.inr (.inl (some (200))))), some (.inl (a0)), some (.inl (a1)), some (.inl ((0 : Int32))), some (.inl (a0)), some (.inl (a1)), some (.inl ((0 : Int32)))], [], 0, 0, ix_mem 276 I J T)) rfl trivial ?_
  refine ix_subW ([some (.inr (.inr (.inl (some (200))))), none, none, some (.inl ((0 : Int32))), some (.inl (a0)), some (.inl (a1)), some (.inl ((0 : Int32)))]) (ix_subS (ix_subN (ix_subN (ix_subS (ix_subS (ix_subS (ix_subS (ix_sub0)))))))) ?_
  exact tl_X3_distance_11 h hQ
def wb_X3_nearestRuling_8 (x1 : Int32) (x2 : Int32) (x3 : Int32) (x4 : Int32) (I : Nat → Nat → Int32) (J : Nat → Nat → Int64) (T : Option Nat) (V8 : Int32 → Int32 → Int32 → Int32 → (Nat → Nat → Int32) → (Nat → Nat → Int64) → Option Nat → Prop) (P : Int32 → (Nat → Nat → Int32) → (Nat → Nat → Int64) → Option Nat → Prop) : Prop := ((x4 < I 200 0 → ix_inb (x4) 20 = true ∧ wp_X3_distance (I 201 (x4).toNatClampNeg) (x1) I J T (fun v5 I5 J5 T5 => ((v5 ≤ x3 → ix_inb (x4) 20 = true ∧ V8 (x1) (I5 202 (x4).toNatClampNeg) (v5) (x4 + (1 : Int32)) I5 J5 T5) ∧ (¬ (v5 ≤ x3) → V8 (x1) (x2) (x3) (x4 + (1 : Int32)) I5 J5 T5)))) ∧ (¬ (x4 < I 200 0) → P (x2) I J T))
def wl_X3_nearestRuling_8 (x1 : Int32) (x2 : Int32) (x3 : Int32) (x4 : Int32) (I : Nat → Nat → Int32) (J : Nat → Nat → Int64) (T : Option Nat) (P : Int32 → (Nat → Nat → Int32) → (Nat → Nat → Int64) → Option Nat → Prop) : Prop := ∀ V : Int32 → Int32 → Int32 → Int32 → (Nat → Nat → Int32) → (Nat → Nat → Int64) → Option Nat → Prop, (∀ (x1 : Int32) (x2 : Int32) (x3 : Int32) (x4 : Int32) (I : Nat → Nat → Int32) (J : Nat → Nat → Int64) (T : Option Nat), wb_X3_nearestRuling_8 x1 x2 x3 x4 I J T V P → V x1 x2 x3 x4 I J T) → V x1 x2 x3 x4 I J T
set_option maxRecDepth 20000 in
theorem tl_X3_nearestRuling_8 {d : Nat} {x1 : Int32} {x2 : Int32} {x3 : Int32} {x4 : Int32} {I : Nat → Nat → Int32} {J : Nat → Nat → Int64} {T : Option Nat} {P : Int32 → (Nat → Nat → Int32) → (Nat → Nat → Int64) → Option Nat → Prop} {Q : ix_Q} (h : wl_X3_nearestRuling_8 x1 x2 x3 x4 I J T P) (hQ : ∀ v I J T, P v I J T → Q (some (.inl v)) (ix_mem 276 I J T)) : ix_W (ix_C (d + 2)) (3, ix_lk ix_l48, (some .int), 0, 0, Nat.blt 0 0, none) Q (8, [some (.inr (.inr (.inl (some (200))))), some (.inl (x1)), some (.inl (x2)), some (.inl (x3)), some (.inl (x4)), none], [], 0, 0, ix_mem 276 I J T) := by
  refine h (fun x1 x2 x3 x4 I J T => ix_W (ix_C (d + 2)) (3, ix_lk ix_l48, (some .int), 0, 0, Nat.blt 0 0, none) Q (8, [some (.inr (.inr (.inl (some (200))))), some (.inl (x1)), some (.inl (x2)), some (.inl (x3)), some (.inl (x4)), none], [], 0, 0, ix_mem 276 I J T)) ?_
  intro x1 x2 x3 x4 I J T hb
  unfold wb_X3_nearestRuling_8 at hb
  refine ix_go 4 (x' := (if x4 < I 200 0 then 17 else 54, [some (.inr (.inr (.inl (some (200))))), some (.inl (x1)), some (.inl (x2)), some (.inl (x3)), some (.inl (x4)), none], [], 0, 0, ix_mem 276 I J T)) rfl ⟨rfl, rfl⟩ ?_
  refine ix_br (fun c1 => ?_) (fun c1 => ?_)
  · have h2 := hb.1 c1
    obtain ⟨p3, h4⟩ := h2
    refine ix_go 6 (x' := (26, [some (.inr (.inr (.inl (some (200))))), some (.inl (x1)), some (.inl (x2)), some (.inl (x3)), some (.inl (x4)), none], [.inl (x1), .inl (I 201 (x4).toNatClampNeg), .inr (.inr (.inl (some (200))))], 0, 0, ix_mem 276 I J T)) rfl ⟨rfl, rfl, rfl, rfl, p3⟩ ?_
    refine ix_sp rfl ⟨rfl, ⟨ix_lt rfl, ix_eq rfl, ix_lt rfl⟩, ix_le rfl, Nat.le_refl _, Nat.le_refl _, tp_X3_distance h4 (fun v5 I5 J5 T5 h5 => ?_)⟩
    change ix_W _ _ _ (29, [some (.inr (.inr (.inl (some (200))))), some (.inl (x1)), some (.inl (x2)), some (.inl (x3)), some (.inl (x4)), none], [.inl (v5)], 0, 0, ix_mem 276 I5 J5 T5)
    refine ix_go 4 (x' := (if v5 ≤ x3 then 37 else 48, [some (.inr (.inr (.inl (some (200))))), some (.inl (x1)), some (.inl (x2)), some (.inl (x3)), some (.inl (x4)), some (.inl (v5))], [], 0, 0, ix_mem 276 I5 J5 T5)) rfl trivial ?_
    refine ix_br (fun c6 => ?_) (fun c6 => ?_)
    · have h7 := h5.1 c6
      obtain ⟨p8, h9⟩ := h7
      refine ix_go 9 (x' := (8, [some (.inr (.inr (.inl (some (200))))), some (.inl (x1)), some (.inl (I5 202 (x4).toNatClampNeg)), some (.inl (v5)), some (.inl (x4 + (1 : Int32))), some (.inl (v5))], [], 0, 0, ix_mem 276 I5 J5 T5)) rfl ⟨rfl, rfl, rfl, rfl, p8⟩ ?_
      refine ix_subW ([some (.inr (.inr (.inl (some (200))))), some (.inl (x1)), some (.inl (I5 202 (x4).toNatClampNeg)), some (.inl (v5)), some (.inl (x4 + (1 : Int32))), none]) (ix_subS (ix_subS (ix_subS (ix_subS (ix_subS (ix_subN (ix_sub0))))))) ?_
      exact h9
    · have h7 := h5.2 c6
      refine ix_go 2 (x' := (8, [some (.inr (.inr (.inl (some (200))))), some (.inl (x1)), some (.inl (x2)), some (.inl (x3)), some (.inl (x4 + (1 : Int32))), some (.inl (v5))], [], 0, 0, ix_mem 276 I5 J5 T5)) rfl trivial ?_
      refine ix_subW ([some (.inr (.inr (.inl (some (200))))), some (.inl (x1)), some (.inl (x2)), some (.inl (x3)), some (.inl (x4 + (1 : Int32))), none]) (ix_subS (ix_subS (ix_subS (ix_subS (ix_subS (ix_subN (ix_sub0))))))) ?_
      exact h7
  · have h2 := hb.2 c1
    refine ix_go 1 (x' := (55, [some (.inr (.inr (.inl (some (200))))), some (.inl (x1)), some (.inl (x2)), some (.inl (x3)), some (.inl (x4)), none], [.inl (x2)], 0, 0, ix_mem 276 I J T)) rfl trivial ?_
    exact ix_sp rfl ⟨Nat.le_refl _, Nat.le_refl _, trivial, hQ _ _ _ _ h2⟩
def wp_X3_nearestRuling (a0 : Int32) (I : Nat → Nat → Int32) (J : Nat → Nat → Int64) (T : Option Nat) (P : Int32 → (Nat → Nat → Int32) → (Nat → Nat → Int64) → Option Nat → Prop) : Prop := wl_X3_nearestRuling_8 (a0) ((-1 : Int32)) ((2147483647 : Int32)) ((0 : Int32)) I J T P
set_option maxRecDepth 20000 in
theorem tp_X3_nearestRuling {d : Nat} {a0 : Int32} {I : Nat → Nat → Int32} {J : Nat → Nat → Int64} {T : Option Nat} {P : Int32 → (Nat → Nat → Int32) → (Nat → Nat → Int64) → Option Nat → Prop} {Q : ix_Q} (h : wp_X3_nearestRuling a0 I J T P) (hQ : ∀ v I J T, P v I J T → Q (some (.inl v)) (ix_mem 276 I J T)) : ix_C (d + 3) 48 [.inr (.inr (.inl (some (200)))), .inl (a0)] (ix_mem 276 I J T) Q := by
  unfold wp_X3_nearestRuling at h
  refine ix_enter (ls := [some (.inr (.inr (.inl (some (200))))), some (.inl (a0)), none, none, none, none]) rfl rfl rfl (Nat.le_of_ble_eq_true rfl) ?_
  refine ix_go 6 (x' := (8, [some (.inr (.inr (.inl (some (200))))), some (.inl (a0)), some (.inl ((-1 : Int32))), some (.inl ((2147483647 : Int32))), some (.inl ((0 : Int32))), none], [], 0, 0, ix_mem 276 I J T)) rfl trivial ?_
  refine ix_subW ([some (.inr (.inr (.inl (some (200))))), some (.inl (a0)), some (.inl ((-1 : Int32))), some (.inl ((2147483647 : Int32))), some (.inl ((0 : Int32))), none]) (ix_subS (ix_subS (ix_subS (ix_subS (ix_subS (ix_subS (ix_sub0))))))) ?_
  exact tl_X3_nearestRuling_8 h hQ
def wp_X4_count (I : Nat → Nat → Int32) (J : Nat → Nat → Int64) (T : Option Nat) (P : Int32 → (Nat → Nat → Int32) → (Nat → Nat → Int64) → Option Nat → Prop) : Prop := P (I 106 0) I J T
set_option maxRecDepth 20000 in
theorem tp_X4_count {d : Nat} {I : Nat → Nat → Int32} {J : Nat → Nat → Int64} {T : Option Nat} {P : Int32 → (Nat → Nat → Int32) → (Nat → Nat → Int64) → Option Nat → Prop} {Q : ix_Q} (h : wp_X4_count I J T P) (hQ : ∀ v I J T, P v I J T → Q (some (.inl v)) (ix_mem 276 I J T)) : ix_C (d + 1) 50 [.inr (.inr (.inl (some (106))))] (ix_mem 276 I J T) Q := by
  unfold wp_X4_count at h
  refine ix_enter (ls := [some (.inr (.inr (.inl (some (106)))))]) rfl rfl rfl (Nat.le_of_ble_eq_true rfl) ?_
  refine ix_go 2 (x' := (4, [some (.inr (.inr (.inl (some (106)))))], [.inl (I 106 0)], 0, 0, ix_mem 276 I J T)) rfl ⟨rfl, rfl⟩ ?_
  exact ix_sp rfl ⟨Nat.le_refl _, Nat.le_refl _, trivial, hQ _ _ _ _ h⟩
def wp_X4_has (a0 : Int32) (I : Nat → Nat → Int32) (J : Nat → Nat → Int64) (T : Option Nat) (P : Int32 → (Nat → Nat → Int32) → (Nat → Nat → Int64) → Option Nat → Prop) : Prop := ((a0 < 0 → P ((0 : Int32)) I J T) ∧ (¬ (a0 < 0) → ((a0 < I 106 0 → P ((1 : Int32)) I J T) ∧ (¬ (a0 < I 106 0) → P ((0 : Int32)) I J T))))
set_option maxRecDepth 20000 in
theorem tp_X4_has {d : Nat} {a0 : Int32} {I : Nat → Nat → Int32} {J : Nat → Nat → Int64} {T : Option Nat} {P : Int32 → (Nat → Nat → Int32) → (Nat → Nat → Int64) → Option Nat → Prop} {Q : ix_Q} (h : wp_X4_has a0 I J T P) (hQ : ∀ v I J T, P v I J T → Q (some (.inl v)) (ix_mem 276 I J T)) : ix_C (d + 1) 51 [.inr (.inr (.inl (some (106)))), .inl (a0)] (ix_mem 276 I J T) Q := by
  unfold wp_X4_has at h
  refine ix_enter (ls := [some (.inr (.inr (.inl (some (106))))), some (.inl (a0))]) rfl rfl rfl (Nat.le_of_ble_eq_true rfl) ?_
  refine ix_go 2 (x' := (if a0 < 0 then 16 else 4, [some (.inr (.inr (.inl (some (106))))), some (.inl (a0))], [], 0, 0, ix_mem 276 I J T)) rfl trivial ?_
  refine ix_br (fun c1 => ?_) (fun c1 => ?_)
  · have h2 := h.1 c1
    refine ix_go 1 (x' := (17, [some (.inr (.inr (.inl (some (106))))), some (.inl (a0))], [.inl ((0 : Int32))], 0, 0, ix_mem 276 I J T)) rfl trivial ?_
    exact ix_sp rfl ⟨Nat.le_refl _, Nat.le_refl _, ix_01_ok rfl, hQ _ _ _ _ h2⟩
  · have h2 := h.2 c1
    refine ix_go 4 (x' := (if a0 < I 106 0 then 12 else 16, [some (.inr (.inr (.inl (some (106))))), some (.inl (a0))], [], 0, 0, ix_mem 276 I J T)) rfl ⟨rfl, rfl⟩ ?_
    refine ix_br (fun c3 => ?_) (fun c3 => ?_)
    · have h4 := h2.1 c3
      refine ix_go 2 (x' := (17, [some (.inr (.inr (.inl (some (106))))), some (.inl (a0))], [.inl ((1 : Int32))], 0, 0, ix_mem 276 I J T)) rfl trivial ?_
      exact ix_sp rfl ⟨Nat.le_refl _, Nat.le_refl _, ix_01_ok rfl, hQ _ _ _ _ h4⟩
    · have h4 := h2.2 c3
      refine ix_go 1 (x' := (17, [some (.inr (.inr (.inl (some (106))))), some (.inl (a0))], [.inl ((0 : Int32))], 0, 0, ix_mem 276 I J T)) rfl trivial ?_
      exact ix_sp rfl ⟨Nat.le_refl _, Nat.le_refl _, ix_01_ok rfl, hQ _ _ _ _ h4⟩
def wp_X4_isFull (I : Nat → Nat → Int32) (J : Nat → Nat → Int64) (T : Option Nat) (P : Int32 → (Nat → Nat → Int32) → (Nat → Nat → Int64) → Option Nat → Prop) : Prop := ((I 106 0 < (8 : Int32) → P ((0 : Int32)) I J T) ∧ (¬ (I 106 0 < (8 : Int32)) → P ((1 : Int32)) I J T))
set_option maxRecDepth 20000 in
theorem tp_X4_isFull {d : Nat} {I : Nat → Nat → Int32} {J : Nat → Nat → Int64} {T : Option Nat} {P : Int32 → (Nat → Nat → Int32) → (Nat → Nat → Int64) → Option Nat → Prop} {Q : ix_Q} (h : wp_X4_isFull I J T P) (hQ : ∀ v I J T, P v I J T → Q (some (.inl v)) (ix_mem 276 I J T)) : ix_C (d + 1) 52 [.inr (.inr (.inl (some (106))))] (ix_mem 276 I J T) Q := by
  unfold wp_X4_isFull at h
  refine ix_enter (ls := [some (.inr (.inr (.inl (some (106)))))]) rfl rfl rfl (Nat.le_of_ble_eq_true rfl) ?_
  refine ix_go 4 (x' := (if I 106 0 < (8 : Int32) then 13 else 9, [some (.inr (.inr (.inl (some (106)))))], [], 0, 0, ix_mem 276 I J T)) rfl ⟨rfl, rfl⟩ ?_
  refine ix_br (fun c1 => ?_) (fun c1 => ?_)
  · have h2 := h.1 c1
    refine ix_go 1 (x' := (14, [some (.inr (.inr (.inl (some (106)))))], [.inl ((0 : Int32))], 0, 0, ix_mem 276 I J T)) rfl trivial ?_
    exact ix_sp rfl ⟨Nat.le_refl _, Nat.le_refl _, ix_01_ok rfl, hQ _ _ _ _ h2⟩
  · have h2 := h.2 c1
    refine ix_go 2 (x' := (14, [some (.inr (.inr (.inl (some (106)))))], [.inl ((1 : Int32))], 0, 0, ix_mem 276 I J T)) rfl trivial ?_
    exact ix_sp rfl ⟨Nat.le_refl _, Nat.le_refl _, ix_01_ok rfl, hQ _ _ _ _ h2⟩
def wp_X4_trueWeight (a0 : Int32) (I : Nat → Nat → Int32) (J : Nat → Nat → Int64) (T : Option Nat) (P : Int32 → (Nat → Nat → Int32) → (Nat → Nat → Int64) → Option Nat → Prop) : Prop := ix_inb (a0) 8 = true ∧ P (I 111 (a0).toNatClampNeg) I J T
set_option maxRecDepth 20000 in
theorem tp_X4_trueWeight {d : Nat} {a0 : Int32} {I : Nat → Nat → Int32} {J : Nat → Nat → Int64} {T : Option Nat} {P : Int32 → (Nat → Nat → Int32) → (Nat → Nat → Int64) → Option Nat → Prop} {Q : ix_Q} (h : wp_X4_trueWeight a0 I J T P) (hQ : ∀ v I J T, P v I J T → Q (some (.inl v)) (ix_mem 276 I J T)) : ix_C (d + 1) 54 [.inr (.inr (.inl (some (106)))), .inl (a0)] (ix_mem 276 I J T) Q := by
  unfold wp_X4_trueWeight at h
  refine ix_enter (ls := [some (.inr (.inr (.inl (some (106))))), some (.inl (a0))]) rfl rfl rfl (Nat.le_of_ble_eq_true rfl) ?_
  obtain ⟨p1, h2⟩ := h
  refine ix_go 4 (x' := (6, [some (.inr (.inr (.inl (some (106))))), some (.inl (a0))], [.inl (I 111 (a0).toNatClampNeg)], 0, 0, ix_mem 276 I J T)) rfl ⟨rfl, rfl, rfl, rfl, p1⟩ ?_
  exact ix_sp rfl ⟨Nat.le_refl _, Nat.le_refl _, trivial, hQ _ _ _ _ h2⟩
def wp_X6_goOver (a0 : Int32) (a1 : Int32) (I : Nat → Nat → Int32) (J : Nat → Nat → Int64) (T : Option Nat) (P : (Nat → Nat → Int32) → (Nat → Nat → Int64) → Option Nat → Prop) : Prop := P (ix_u2 I 95 2 (a1)) (ix_u2 (ix_u2 J 96 ((5 : Int32)).toNatClampNeg ((a0).toInt64)) 96 ((6 : Int32)).toNatClampNeg ((a1).toInt64)) T
set_option maxRecDepth 20000 in
theorem tp_X6_goOver {d : Nat} {a0 : Int32} {a1 : Int32} {I : Nat → Nat → Int32} {J : Nat → Nat → Int64} {T : Option Nat} {P : (Nat → Nat → Int32) → (Nat → Nat → Int64) → Option Nat → Prop} {Q : ix_Q} (h : wp_X6_goOver a0 a1 I J T P) (hQ : ∀ I J T, P I J T → Q none (ix_mem 276 I J T)) : ix_C (d + 1) 55 [.inr (.inr (.inl (some (95)))), .inl (a0), .inl (a1)] (ix_mem 276 I J T) Q := by
  unfold wp_X6_goOver at h
  refine ix_enter (ls := [some (.inr (.inr (.inl (some (95))))), some (.inl (a0)), some (.inl (a1))]) rfl rfl rfl (Nat.le_of_ble_eq_true rfl) ?_
  refine ix_go 15 (x' := (22, [some (.inr (.inr (.inl (some (95))))), some (.inl (a0)), some (.inl (a1))], [], 0, 0, ix_mem 276 (ix_u2 I 95 2 (a1)) (ix_u2 (ix_u2 J 96 ((5 : Int32)).toNatClampNeg ((a0).toInt64)) 96 ((6 : Int32)).toNatClampNeg ((a1).toInt64)) T)) rfl ⟨rfl, rfl, rfl, rfl, rfl, rfl, rfl, rfl, rfl, rfl, rfl, rfl⟩ ?_
  exact ix_sp rfl ⟨Nat.le_refl _, Nat.le_refl _, rfl, hQ _ _ _ h⟩
def wp_X6_become (a0 : Int32) (a1 : Int32) (a2 : Int32) (a3 : Int32) (a4 : Int32) (a5 : Int32) (I : Nat → Nat → Int32) (J : Nat → Nat → Int64) (T : Option Nat) (P : (Nat → Nat → Int32) → (Nat → Nat → Int64) → Option Nat → Prop) : Prop := ((a4 ≤ 0 → wp_X6_goOver ((0 : Int32)) ((-1 : Int32)) (ix_u2 (ix_u2 (ix_u2 I 95 0 (a0)) 95 1 (a1)) 95 3 (a5)) (ix_u2 (ix_u2 (ix_u2 (ix_u2 (ix_u2 J 96 ((0 : Int32)).toNatClampNeg ((a3).toInt64)) 96 ((1 : Int32)).toNatClampNeg ((a4).toInt64)) 96 ((2 : Int32)).toNatClampNeg ((a2).toInt64)) 96 ((3 : Int32)).toNatClampNeg ((0 : Int64))) 96 ((4 : Int32)).toNatClampNeg (((a5) / ((365 : Int32))).toInt64)) T (fun I3 J3 T3 => P I3 J3 T3)) ∧ (¬ (a4 ≤ 0) → ix_nz (a4) = true ∧ wp_X6_goOver ((0 : Int32)) ((-1 : Int32)) (ix_u2 (ix_u2 (ix_u2 I 95 0 (a0)) 95 1 (a1)) 95 3 (a5)) (ix_u2 (ix_u2 (ix_u2 (ix_u2 (ix_u2 J 96 ((0 : Int32)).toNatClampNeg ((a3).toInt64)) 96 ((1 : Int32)).toNatClampNeg ((a4).toInt64)) 96 ((2 : Int32)).toNatClampNeg ((a2).toInt64)) 96 ((3 : Int32)).toNatClampNeg (((a3) / (a4)).toInt64)) 96 ((4 : Int32)).toNatClampNeg (((a5) / ((365 : Int32))).toInt64)) T (fun I6 J6 T6 => P I6 J6 T6)))
set_option maxRecDepth 20000 in
theorem tp_X6_become {d : Nat} {a0 : Int32} {a1 : Int32} {a2 : Int32} {a3 : Int32} {a4 : Int32} {a5 : Int32} {I : Nat → Nat → Int32} {J : Nat → Nat → Int64} {T : Option Nat} {P : (Nat → Nat → Int32) → (Nat → Nat → Int64) → Option Nat → Prop} {Q : ix_Q} (h : wp_X6_become a0 a1 a2 a3 a4 a5 I J T P) (hQ : ∀ I J T, P I J T → Q none (ix_mem 276 I J T)) : ix_C (d + 2) 56 [.inr (.inr (.inl (some (95)))), .inl (a0), .inl (a1), .inl (a2), .inl (a3), .inl (a4), .inl (a5)] (ix_mem 276 I J T) Q := by
  unfold wp_X6_become at h
  refine ix_enter (ls := [some (.inr (.inr (.inl (some (95))))), some (.inl (a0)), some (.inl (a1)), some (.inl (a2)), some (.inl (a3)), some (.inl (a4)), some (.inl (a5))]) rfl rfl rfl (Nat.le_of_ble_eq_true rfl) ?_
  refine ix_go 32 (x' := (if a4 ≤ 0 then 61 else 52, [some (.inr (.inr (.inl (some (95))))), some (.inl (a0)), some (.inl (a1)), some (.inl (a2)), some (.inl (a3)), some (.inl (a4)), some (.inl (a5))], [.inl ((3 : Int32)), .inr (.inr (.inl (some (96))))], 0, 0, ix_mem 276 (ix_u2 (ix_u2 (ix_u2 I 95 0 (a0)) 95 1 (a1)) 95 3 (a5)) (ix_u2 (ix_u2 (ix_u2 J 96 ((0 : Int32)).toNatClampNeg ((a3).toInt64)) 96 ((1 : Int32)).toNatClampNeg ((a4).toInt64)) 96 ((2 : Int32)).toNatClampNeg ((a2).toInt64)) T)) rfl ⟨rfl, rfl, rfl, rfl, rfl, rfl, rfl, rfl, rfl, rfl, rfl, rfl, rfl, rfl, rfl, rfl, rfl, rfl, rfl, rfl, rfl, rfl, rfl⟩ ?_
  refine ix_br (fun c1 => ?_) (fun c1 => ?_)
  · have h2 := h.1 c1
    refine ix_go 13 (x' := (79, [some (.inr (.inr (.inl (some (95))))), some (.inl (a0)), some (.inl (a1)), some (.inl (a2)), some (.inl (a3)), some (.inl (a4)), some (.inl (a5))], [.inl ((-1 : Int32)), .inl ((0 : Int32)), .inr (.inr (.inl (some (95))))], 0, 0, ix_mem 276 (ix_u2 (ix_u2 (ix_u2 I 95 0 (a0)) 95 1 (a1)) 95 3 (a5)) (ix_u2 (ix_u2 (ix_u2 (ix_u2 (ix_u2 J 96 ((0 : Int32)).toNatClampNeg ((a3).toInt64)) 96 ((1 : Int32)).toNatClampNeg ((a4).toInt64)) 96 ((2 : Int32)).toNatClampNeg ((a2).toInt64)) 96 ((3 : Int32)).toNatClampNeg ((0 : Int64))) 96 ((4 : Int32)).toNatClampNeg (((a5) / ((365 : Int32))).toInt64)) T)) rfl ⟨rfl, rfl, rfl, rfl, rfl, rfl, rfl, rfl, rfl⟩ ?_
    refine ix_sp rfl ⟨rfl, ⟨ix_lt rfl, ix_eq rfl, ix_lt rfl⟩, ix_le rfl, Nat.le_refl _, Nat.le_refl _, tp_X6_goOver h2 (fun I3 J3 T3 h3 => ?_)⟩
    change ix_W _ _ _ (82, [some (.inr (.inr (.inl (some (95))))), some (.inl (a0)), some (.inl (a1)), some (.inl (a2)), some (.inl (a3)), some (.inl (a4)), some (.inl (a5))], [], 0, 0, ix_mem 276 I3 J3 T3)
    exact ix_sp rfl ⟨Nat.le_refl _, Nat.le_refl _, rfl, hQ _ _ _ h3⟩
  · have h2 := h.2 c1
    obtain ⟨p4, h5⟩ := h2
    refine ix_go 17 (x' := (79, [some (.inr (.inr (.inl (some (95))))), some (.inl (a0)), some (.inl (a1)), some (.inl (a2)), some (.inl (a3)), some (.inl (a4)), some (.inl (a5))], [.inl ((-1 : Int32)), .inl ((0 : Int32)), .inr (.inr (.inl (some (95))))], 0, 0, ix_mem 276 (ix_u2 (ix_u2 (ix_u2 I 95 0 (a0)) 95 1 (a1)) 95 3 (a5)) (ix_u2 (ix_u2 (ix_u2 (ix_u2 (ix_u2 J 96 ((0 : Int32)).toNatClampNeg ((a3).toInt64)) 96 ((1 : Int32)).toNatClampNeg ((a4).toInt64)) 96 ((2 : Int32)).toNatClampNeg ((a2).toInt64)) 96 ((3 : Int32)).toNatClampNeg (((a3) / (a4)).toInt64)) 96 ((4 : Int32)).toNatClampNeg (((a5) / ((365 : Int32))).toInt64)) T)) rfl ⟨p4, rfl, rfl, rfl, rfl, rfl, rfl, rfl, rfl, rfl⟩ ?_
    refine ix_sp rfl ⟨rfl, ⟨ix_lt rfl, ix_eq rfl, ix_lt rfl⟩, ix_le rfl, Nat.le_refl _, Nat.le_refl _, tp_X6_goOver h5 (fun I6 J6 T6 h6 => ?_)⟩
    change ix_W _ _ _ (82, [some (.inr (.inr (.inl (some (95))))), some (.inl (a0)), some (.inl (a1)), some (.inl (a2)), some (.inl (a3)), some (.inl (a4)), some (.inl (a5))], [], 0, 0, ix_mem 276 I6 J6 T6)
    exact ix_sp rfl ⟨Nat.le_refl _, Nat.le_refl _, rfl, hQ _ _ _ h6⟩
def wp_X4_makeMail (a0 : Int32) (a1 : Int32) (a2 : Int32) (I : Nat → Nat → Int32) (J : Nat → Nat → Int64) (T : Option Nat) (P : (Nat → Nat → Int32) → (Nat → Nat → Int64) → Option Nat → Prop) : Prop := ix_inb (a0) 8 = true ∧ ix_inb (a0) 8 = true ∧ ix_inb (a0) 8 = true ∧ ix_inb (a0) 8 = true ∧ wp_X6_become (I 107 (a0).toNatClampNeg) (I 108 (a0).toNatClampNeg) (I 109 (a0).toNatClampNeg) ((a1) * ((1000 : Int32))) ((a1) * (I 110 (a0).toNatClampNeg)) (a2) I J T (fun I9 J9 T9 => P I9 J9 T9)
set_option maxRecDepth 20000 in
theorem tp_X4_makeMail {d : Nat} {a0 : Int32} {a1 : Int32} {a2 : Int32} {I : Nat → Nat → Int32} {J : Nat → Nat → Int64} {T : Option Nat} {P : (Nat → Nat → Int32) → (Nat → Nat → Int64) → Option Nat → Prop} {Q : ix_Q} (h : wp_X4_makeMail a0 a1 a2 I J T P) (hQ : ∀ I J T, P I J T → Q none (ix_mem 276 I J T)) : ix_C (d + 3) 57 [.inr (.inr (.inl (some (106)))), .inl (a0), .inl (a1), .inl (a2), .inr (.inr (.inl (some (95))))] (ix_mem 276 I J T) Q := by
  unfold wp_X4_makeMail at h
  refine ix_enter (ls := [some (.inr (.inr (.inl (some (106))))), some (.inl (a0)), some (.inl (a1)), some (.inl (a2)), some (.inr (.inr (.inl (some (95)))))]) rfl rfl rfl (Nat.le_of_ble_eq_true rfl) ?_
  obtain ⟨p1, h2⟩ := h
  obtain ⟨p3, h4⟩ := h2
  obtain ⟨p5, h6⟩ := h4
  obtain ⟨p7, h8⟩ := h6
  refine ix_go 23 (x' := (34, [some (.inr (.inr (.inl (some (106))))), some (.inl (a0)), some (.inl (a1)), some (.inl (a2)), some (.inr (.inr (.inl (some (95)))))], [.inl (a2), .inl ((a1) * (I 110 (a0).toNatClampNeg)), .inl ((a1) * ((1000 : Int32))), .inl (I 109 (a0).toNatClampNeg), .inl (I 108 (a0).toNatClampNeg), .inl (I 107 (a0).toNatClampNeg), .inr (.inr (.inl (some (95))))], 0, 0, ix_mem 276 I J T)) rfl ⟨rfl, rfl, rfl, rfl, p1, rfl, rfl, rfl, rfl, p3, rfl, rfl, rfl, rfl, p5, rfl, rfl, rfl, rfl, p7⟩ ?_
  refine ix_sp rfl ⟨rfl, ⟨ix_lt rfl, ix_eq rfl, ix_lt rfl⟩, ix_le rfl, Nat.le_refl _, Nat.le_refl _, tp_X6_become h8 (fun I9 J9 T9 h9 => ?_)⟩
  change ix_W _ _ _ (37, [some (.inr (.inr (.inl (some (106))))), some (.inl (a0)), some (.inl (a1)), some (.inl (a2)), some (.inr (.inr (.inl (some (95)))))], [], 0, 0, ix_mem 276 I9 J9 T9)
  exact ix_sp rfl ⟨Nat.le_refl _, Nat.le_refl _, rfl, hQ _ _ _ h9⟩
def wp_X4_hasDraw (I : Nat → Nat → Int32) (J : Nat → Nat → Int64) (T : Option Nat) (P : Int32 → (Nat → Nat → Int32) → (Nat → Nat → Int64) → Option Nat → Prop) : Prop := ((I 106 7 ≤ 0 → P ((0 : Int32)) I J T) ∧ (¬ (I 106 7 ≤ 0) → P ((1 : Int32)) I J T))
set_option maxRecDepth 20000 in
theorem tp_X4_hasDraw {d : Nat} {I : Nat → Nat → Int32} {J : Nat → Nat → Int64} {T : Option Nat} {P : Int32 → (Nat → Nat → Int32) → (Nat → Nat → Int64) → Option Nat → Prop} {Q : ix_Q} (h : wp_X4_hasDraw I J T P) (hQ : ∀ v I J T, P v I J T → Q (some (.inl v)) (ix_mem 276 I J T)) : ix_C (d + 1) 58 [.inr (.inr (.inl (some (106))))] (ix_mem 276 I J T) Q := by
  unfold wp_X4_hasDraw at h
  refine ix_enter (ls := [some (.inr (.inr (.inl (some (106)))))]) rfl rfl rfl (Nat.le_of_ble_eq_true rfl) ?_
  refine ix_go 3 (x' := (if I 106 7 ≤ 0 then 11 else 7, [some (.inr (.inr (.inl (some (106)))))], [], 0, 0, ix_mem 276 I J T)) rfl ⟨rfl, rfl⟩ ?_
  refine ix_br (fun c1 => ?_) (fun c1 => ?_)
  · have h2 := h.1 c1
    refine ix_go 1 (x' := (12, [some (.inr (.inr (.inl (some (106)))))], [.inl ((0 : Int32))], 0, 0, ix_mem 276 I J T)) rfl trivial ?_
    exact ix_sp rfl ⟨Nat.le_refl _, Nat.le_refl _, ix_01_ok rfl, hQ _ _ _ _ h2⟩
  · have h2 := h.2 c1
    refine ix_go 2 (x' := (12, [some (.inr (.inr (.inl (some (106)))))], [.inl ((1 : Int32))], 0, 0, ix_mem 276 I J T)) rfl trivial ?_
    exact ix_sp rfl ⟨Nat.le_refl _, Nat.le_refl _, ix_01_ok rfl, hQ _ _ _ _ h2⟩
def wb_X4_drawWeeks_11 (x1 : Int32) (x3 : Int64) (x5 : Int32) (I : Nat → Nat → Int32) (J : Nat → Nat → Int64) (T : Option Nat) (V11 : Int32 → Int64 → Int32 → (Nat → Nat → Int32) → (Nat → Nat → Int64) → Option Nat → Prop) (P : (Nat → Nat → Int32) → (Nat → Nat → Int64) → Option Nat → Prop) : Prop := ((x5 < (52 : Int32) → ix_nzl ((((52 : Int32)) - (x5)).toInt64) = true ∧ ((lg_cmp ((((((x3) * ((1103515245 : Int64))) + ((12345 : Int64))) &&& ((2147483647 : Int64))) / ((65536 : Int64))) - (((((x3) * ((1103515245 : Int64))) + ((12345 : Int64))) &&& ((2147483647 : Int64))) / ((65536 : Int64))) / ((((52 : Int32)) - (x5)).toInt64) * ((((52 : Int32)) - (x5)).toInt64)) (((x1) - (I 106 7)).toInt64) < 0 → ix_inb (I 106 7) 52 = true ∧ V11 (x1) ((((x3) * ((1103515245 : Int64))) + ((12345 : Int64))) &&& ((2147483647 : Int64))) (x5 + (1 : Int32)) (ix_u2 (ix_u2 I 121 (I 106 7).toNatClampNeg (x5)) 106 7 ((I 106 7) + ((1 : Int32)))) J T) ∧ (¬ (lg_cmp ((((((x3) * ((1103515245 : Int64))) + ((12345 : Int64))) &&& ((2147483647 : Int64))) / ((65536 : Int64))) - (((((x3) * ((1103515245 : Int64))) + ((12345 : Int64))) &&& ((2147483647 : Int64))) / ((65536 : Int64))) / ((((52 : Int32)) - (x5)).toInt64) * ((((52 : Int32)) - (x5)).toInt64)) (((x1) - (I 106 7)).toInt64) < 0) → V11 (x1) ((((x3) * ((1103515245 : Int64))) + ((12345 : Int64))) &&& ((2147483647 : Int64))) (x5 + (1 : Int32)) I J T))) ∧ (¬ (x5 < (52 : Int32)) → P I J T))
def wl_X4_drawWeeks_11 (x1 : Int32) (x3 : Int64) (x5 : Int32) (I : Nat → Nat → Int32) (J : Nat → Nat → Int64) (T : Option Nat) (P : (Nat → Nat → Int32) → (Nat → Nat → Int64) → Option Nat → Prop) : Prop := ∀ V : Int32 → Int64 → Int32 → (Nat → Nat → Int32) → (Nat → Nat → Int64) → Option Nat → Prop, (∀ (x1 : Int32) (x3 : Int64) (x5 : Int32) (I : Nat → Nat → Int32) (J : Nat → Nat → Int64) (T : Option Nat), wb_X4_drawWeeks_11 x1 x3 x5 I J T V P → V x1 x3 x5 I J T) → V x1 x3 x5 I J T
set_option maxRecDepth 20000 in
theorem tl_X4_drawWeeks_11 {d : Nat} {x1 : Int32} {x3 : Int64} {x5 : Int32} {I : Nat → Nat → Int32} {J : Nat → Nat → Int64} {T : Option Nat} {P : (Nat → Nat → Int32) → (Nat → Nat → Int64) → Option Nat → Prop} {Q : ix_Q} (h : wl_X4_drawWeeks_11 x1 x3 x5 I J T P) (hQ : ∀ I J T, P I J T → Q none (ix_mem 276 I J T)) : ix_W (ix_C d) (4, ix_lk ix_l59, none, 0, 0, Nat.blt 0 0, none) Q (11, [some (.inr (.inr (.inl (some (106))))), some (.inl (x1)), none, some (.inr (.inl (x3))), none, some (.inl (x5))], [], 0, 0, ix_mem 276 I J T) := by
  refine h (fun x1 x3 x5 I J T => ix_W (ix_C d) (4, ix_lk ix_l59, none, 0, 0, Nat.blt 0 0, none) Q (11, [some (.inr (.inr (.inl (some (106))))), some (.inl (x1)), none, some (.inr (.inl (x3))), none, some (.inl (x5))], [], 0, 0, ix_mem 276 I J T)) ?_
  intro x1 x3 x5 I J T hb
  unfold wb_X4_drawWeeks_11 at hb
  refine ix_go 3 (x' := (if x5 < (52 : Int32) then 18 else 82, [some (.inr (.inr (.inl (some (106))))), some (.inl (x1)), none, some (.inr (.inl (x3))), none, some (.inl (x5))], [], 0, 0, ix_mem 276 I J T)) rfl trivial ?_
  refine ix_br (fun c1 => ?_) (fun c1 => ?_)
  · have h2 := hb.1 c1
    obtain ⟨p3, h4⟩ := h2
    refine ix_go 23 (x' := (if lg_cmp ((((((x3) * ((1103515245 : Int64))) + ((12345 : Int64))) &&& ((2147483647 : Int64))) / ((65536 : Int64))) - (((((x3) * ((1103515245 : Int64))) + ((12345 : Int64))) &&& ((2147483647 : Int64))) / ((65536 : Int64))) / ((((52 : Int32)) - (x5)).toInt64) * ((((52 : Int32)) - (x5)).toInt64)) (((x1) - (I 106 7)).toInt64) < 0 then 55 else 76, [some (.inr (.inr (.inl (some (106))))), some (.inl (x1)), none, some (.inr (.inl ((((x3) * ((1103515245 : Int64))) + ((12345 : Int64))) &&& ((2147483647 : Int64))))), none, some (.inl (x5))], [], 0, 0, ix_mem 276 I J T)) rfl ⟨rfl, p3, rfl, rfl⟩ ?_
    refine ix_br (fun c5 => ?_) (fun c5 => ?_)
    · have h6 := h4.1 c5
      obtain ⟨p7, h8⟩ := h6
      refine ix_go 14 (x' := (11, [some (.inr (.inr (.inl (some (106))))), some (.inl (x1)), none, some (.inr (.inl ((((x3) * ((1103515245 : Int64))) + ((12345 : Int64))) &&& ((2147483647 : Int64))))), none, some (.inl (x5 + (1 : Int32)))], [], 0, 0, ix_mem 276 (ix_u2 (ix_u2 I 121 (I 106 7).toNatClampNeg (x5)) 106 7 ((I 106 7) + ((1 : Int32)))) J T)) rfl ⟨rfl, rfl, rfl, rfl, rfl, rfl, p7, rfl, rfl, rfl, rfl⟩ ?_
      refine ix_subW ([some (.inr (.inr (.inl (some (106))))), some (.inl (x1)), none, some (.inr (.inl ((((x3) * ((1103515245 : Int64))) + ((12345 : Int64))) &&& ((2147483647 : Int64))))), none, some (.inl (x5 + (1 : Int32)))]) (ix_subS (ix_subS (ix_subS (ix_subS (ix_subS (ix_subS (ix_sub0))))))) ?_
      exact h8
    · have h6 := h4.2 c5
      refine ix_go 2 (x' := (11, [some (.inr (.inr (.inl (some (106))))), some (.inl (x1)), none, some (.inr (.inl ((((x3) * ((1103515245 : Int64))) + ((12345 : Int64))) &&& ((2147483647 : Int64))))), none, some (.inl (x5 + (1 : Int32)))], [], 0, 0, ix_mem 276 I J T)) rfl trivial ?_
      refine ix_subW ([some (.inr (.inr (.inl (some (106))))), some (.inl (x1)), none, some (.inr (.inl ((((x3) * ((1103515245 : Int64))) + ((12345 : Int64))) &&& ((2147483647 : Int64))))), none, some (.inl (x5 + (1 : Int32)))]) (ix_subS (ix_subS (ix_subS (ix_subS (ix_subS (ix_subS (ix_sub0))))))) ?_
      exact h6
  · have h2 := hb.2 c1
    exact ix_sp rfl ⟨Nat.le_refl _, Nat.le_refl _, rfl, hQ _ _ _ h2⟩
def wp_X4_drawWeeks (a0 : Int32) (a1 : Int32) (I : Nat → Nat → Int32) (J : Nat → Nat → Int64) (T : Option Nat) (P : (Nat → Nat → Int32) → (Nat → Nat → Int64) → Option Nat → Prop) : Prop := wl_X4_drawWeeks_11 (a0) ((a1).toInt64) ((0 : Int32)) (ix_u2 I 106 7 ((0 : Int32))) J T P
set_option maxRecDepth 20000 in
theorem tp_X4_drawWeeks {d : Nat} {a0 : Int32} {a1 : Int32} {I : Nat → Nat → Int32} {J : Nat → Nat → Int64} {T : Option Nat} {P : (Nat → Nat → Int32) → (Nat → Nat → Int64) → Option Nat → Prop} {Q : ix_Q} (h : wp_X4_drawWeeks a0 a1 I J T P) (hQ : ∀ I J T, P I J T → Q none (ix_mem 276 I J T)) : ix_C (d + 1) 59 [.inr (.inr (.inl (some (106)))), .inl (a0), .inl (a1)] (ix_mem 276 I J T) Q := by
  unfold wp_X4_drawWeeks at h
  refine ix_enter (ls := [some (.inr (.inr (.inl (some (106))))), some (.inl (a0)), some (.inl (a1)), none, none, none]) rfl rfl rfl (Nat.le_of_ble_eq_true rfl) ?_
  refine ix_go 8 (x' := (11, [some (.inr (.inr (.inl (some (106))))), some (.inl (a0)), some (.inl (a1)), some (.inr (.inl ((a1).toInt64))), none, some (.inl ((0 : Int32)))], [], 0, 0, ix_mem 276 (ix_u2 I 106 7 ((0 : Int32))) J T)) rfl ⟨rfl, rfl⟩ ?_
  refine ix_subW ([some (.inr (.inr (.inl (some (106))))), some (.inl (a0)), none, some (.inr (.inl ((a1).toInt64))), none, some (.inl ((0 : Int32)))]) (ix_subS (ix_subS (ix_subN (ix_subS (ix_subS (ix_subS (ix_sub0))))))) ?_
  exact tl_X4_drawWeeks_11 h hQ
def wp_X4_drawnWeek (a0 : Int32) (I : Nat → Nat → Int32) (J : Nat → Nat → Int64) (T : Option Nat) (P : Int32 → (Nat → Nat → Int32) → (Nat → Nat → Int64) → Option Nat → Prop) : Prop := ((a0 < 0 → P ((-1 : Int32)) I J T) ∧ (¬ (a0 < 0) → ((a0 < I 106 7 → ix_inb (a0) 52 = true ∧ P (I 121 (a0).toNatClampNeg) I J T) ∧ (¬ (a0 < I 106 7) → P ((-1 : Int32)) I J T))))
set_option maxRecDepth 20000 in
theorem tp_X4_drawnWeek {d : Nat} {a0 : Int32} {I : Nat → Nat → Int32} {J : Nat → Nat → Int64} {T : Option Nat} {P : Int32 → (Nat → Nat → Int32) → (Nat → Nat → Int64) → Option Nat → Prop} {Q : ix_Q} (h : wp_X4_drawnWeek a0 I J T P) (hQ : ∀ v I J T, P v I J T → Q (some (.inl v)) (ix_mem 276 I J T)) : ix_C (d + 1) 60 [.inr (.inr (.inl (some (106)))), .inl (a0)] (ix_mem 276 I J T) Q := by
  unfold wp_X4_drawnWeek at h
  refine ix_enter (ls := [some (.inr (.inr (.inl (some (106))))), some (.inl (a0))]) rfl rfl rfl (Nat.le_of_ble_eq_true rfl) ?_
  refine ix_go 2 (x' := (if a0 < 0 then 21 else 4, [some (.inr (.inr (.inl (some (106))))), some (.inl (a0))], [], 0, 0, ix_mem 276 I J T)) rfl trivial ?_
  refine ix_br (fun c1 => ?_) (fun c1 => ?_)
  · have h2 := h.1 c1
    refine ix_go 1 (x' := (22, [some (.inr (.inr (.inl (some (106))))), some (.inl (a0))], [.inl ((-1 : Int32))], 0, 0, ix_mem 276 I J T)) rfl trivial ?_
    exact ix_sp rfl ⟨Nat.le_refl _, Nat.le_refl _, trivial, hQ _ _ _ _ h2⟩
  · have h2 := h.2 c1
    refine ix_go 4 (x' := (if a0 < I 106 7 then 12 else 21, [some (.inr (.inr (.inl (some (106))))), some (.inl (a0))], [], 0, 0, ix_mem 276 I J T)) rfl ⟨rfl, rfl⟩ ?_
    refine ix_br (fun c3 => ?_) (fun c3 => ?_)
    · have h4 := h2.1 c3
      obtain ⟨p5, h6⟩ := h4
      refine ix_go 5 (x' := (22, [some (.inr (.inr (.inl (some (106))))), some (.inl (a0))], [.inl (I 121 (a0).toNatClampNeg)], 0, 0, ix_mem 276 I J T)) rfl ⟨rfl, rfl, rfl, rfl, p5⟩ ?_
      exact ix_sp rfl ⟨Nat.le_refl _, Nat.le_refl _, trivial, hQ _ _ _ _ h6⟩
    · have h4 := h2.2 c3
      refine ix_go 1 (x' := (22, [some (.inr (.inr (.inl (some (106))))), some (.inl (a0))], [.inl ((-1 : Int32))], 0, 0, ix_mem 276 I J T)) rfl trivial ?_
      exact ix_sp rfl ⟨Nat.le_refl _, Nat.le_refl _, trivial, hQ _ _ _ _ h4⟩
def wb_X4_toldBy_r121_6_c121 (x1 : Int32) (x3 : Int32) (x4 : Int32) (x5 : Int32) (I : Nat → Nat → Int32) (J : Nat → Nat → Int64) (T : Option Nat) (V6 : Int32 → Int32 → Int32 → Int32 → (Nat → Nat → Int32) → (Nat → Nat → Int64) → Option Nat → Prop) (P : Int32 → (Nat → Nat → Int32) → (Nat → Nat → Int64) → Option Nat → Prop) : Prop := ((x5 < x3 → ((x5 < (52 : Int32) → ix_inb (x1) 8 = true ∧ ix_inb (x5) 52 = true ∧ ix_inb (I 121 (x5).toNatClampNeg) 52 = true ∧ V6 (x1) (x3) ((x4) + (I (ix_row 112 (x1)) (I 121 (x5).toNatClampNeg).toNatClampNeg)) (x5 + (1 : Int32)) I J T) ∧ (¬ (x5 < (52 : Int32)) → ((x3 ≤ 0 → P ((0 : Int32)) I J T) ∧ (¬ (x3 ≤ 0) → ix_nz (x3) = true ∧ P ((((52 : Int32)) * (x4)) / (x3)) I J T))))) ∧ (¬ (x5 < x3) → ((x3 ≤ 0 → P ((0 : Int32)) I J T) ∧ (¬ (x3 ≤ 0) → ix_nz (x3) = true ∧ P ((((52 : Int32)) * (x4)) / (x3)) I J T))))
def wl_X4_toldBy_r121_6_c121 (x1 : Int32) (x3 : Int32) (x4 : Int32) (x5 : Int32) (I : Nat → Nat → Int32) (J : Nat → Nat → Int64) (T : Option Nat) (P : Int32 → (Nat → Nat → Int32) → (Nat → Nat → Int64) → Option Nat → Prop) : Prop := ∀ V : Int32 → Int32 → Int32 → Int32 → (Nat → Nat → Int32) → (Nat → Nat → Int64) → Option Nat → Prop, (∀ (x1 : Int32) (x3 : Int32) (x4 : Int32) (x5 : Int32) (I : Nat → Nat → Int32) (J : Nat → Nat → Int64) (T : Option Nat), wb_X4_toldBy_r121_6_c121 x1 x3 x4 x5 I J T V P → V x1 x3 x4 x5 I J T) → V x1 x3 x4 x5 I J T
set_option maxRecDepth 20000 in
theorem tl_X4_toldBy_r121_6_c121 {d : Nat} {x1 : Int32} {x3 : Int32} {x4 : Int32} {x5 : Int32} {I : Nat → Nat → Int32} {J : Nat → Nat → Int64} {T : Option Nat} {P : Int32 → (Nat → Nat → Int32) → (Nat → Nat → Int64) → Option Nat → Prop} {Q : ix_Q} (h : wl_X4_toldBy_r121_6_c121 x1 x3 x4 x5 I J T P) (hQ : ∀ v I J T, P v I J T → Q (some (.inl v)) (ix_mem 276 I J T)) : ix_W (ix_C d) (4, ix_lk ix_l61, (some .int), 0, 0, Nat.blt 0 0, none) Q (6, [some (.inr (.inr (.inl (some (106))))), some (.inl (x1)), some (.inr (.inr (.inl (some (121))))), some (.inl (x3)), some (.inl (x4)), some (.inl (x5))], [], 0, 0, ix_mem 276 I J T) := by
  refine h (fun x1 x3 x4 x5 I J T => ix_W (ix_C d) (4, ix_lk ix_l61, (some .int), 0, 0, Nat.blt 0 0, none) Q (6, [some (.inr (.inr (.inl (some (106))))), some (.inl (x1)), some (.inr (.inr (.inl (some (121))))), some (.inl (x3)), some (.inl (x4)), some (.inl (x5))], [], 0, 0, ix_mem 276 I J T)) ?_
  intro x1 x3 x4 x5 I J T hb
  unfold wb_X4_toldBy_r121_6_c121 at hb
  refine ix_go 3 (x' := (if x5 < x3 then 12 else 41, [some (.inr (.inr (.inl (some (106))))), some (.inl (x1)), some (.inr (.inr (.inl (some (121))))), some (.inl (x3)), some (.inl (x4)), some (.inl (x5))], [], 0, 0, ix_mem 276 I J T)) rfl trivial ?_
  refine ix_br (fun c1 => ?_) (fun c1 => ?_)
  · have h2 := hb.1 c1
    refine ix_go 4 (x' := (if x5 < (52 : Int32) then 19 else 41, [some (.inr (.inr (.inl (some (106))))), some (.inl (x1)), some (.inr (.inr (.inl (some (121))))), some (.inl (x3)), some (.inl (x4)), some (.inl (x5))], [], 0, 0, ix_mem 276 I J T)) rfl ⟨rfl, rfl, rfl⟩ ?_
    refine ix_br (fun c3 => ?_) (fun c3 => ?_)
    · have h4 := h2.1 c3
      obtain ⟨p5, h6⟩ := h4
      obtain ⟨p7, h8⟩ := h6
      obtain ⟨p9, h10⟩ := h8
      refine ix_go 13 (x' := (6, [some (.inr (.inr (.inl (some (106))))), some (.inl (x1)), some (.inr (.inr (.inl (some (121))))), some (.inl (x3)), some (.inl ((x4) + (I (ix_row 112 (x1)) (I 121 (x5).toNatClampNeg).toNatClampNeg))), some (.inl (x5 + (1 : Int32)))], [], 0, 0, ix_mem 276 I J T)) rfl ⟨rfl, rfl, rfl, rfl, rfl, p5, (rw_112 p5).1, rfl, rfl, p7, (rw_112 p5).2.1, (rw_112 p5).2.2.1, (ix_inbL (rw_112 p5).2.2.2.1 p9)⟩ ?_
      refine ix_subW ([some (.inr (.inr (.inl (some (106))))), some (.inl (x1)), some (.inr (.inr (.inl (some (121))))), some (.inl (x3)), some (.inl ((x4) + (I (ix_row 112 (x1)) (I 121 (x5).toNatClampNeg).toNatClampNeg))), some (.inl (x5 + (1 : Int32)))]) (ix_subS (ix_subS (ix_subS (ix_subS (ix_subS (ix_subS (ix_sub0))))))) ?_
      exact h10
    · have h4 := h2.2 c3
      refine ix_go 2 (x' := (if x3 ≤ 0 then 55 else 45, [some (.inr (.inr (.inl (some (106))))), some (.inl (x1)), some (.inr (.inr (.inl (some (121))))), some (.inl (x3)), some (.inl (x4)), some (.inl (x5))], [], 0, 0, ix_mem 276 I J T)) rfl trivial ?_
      refine ix_br (fun c11 => ?_) (fun c11 => ?_)
      · have h12 := h4.1 c11
        refine ix_go 1 (x' := (56, [some (.inr (.inr (.inl (some (106))))), some (.inl (x1)), some (.inr (.inr (.inl (some (121))))), some (.inl (x3)), some (.inl (x4)), some (.inl (x5))], [.inl ((0 : Int32))], 0, 0, ix_mem 276 I J T)) rfl trivial ?_
        exact ix_sp rfl ⟨Nat.le_refl _, Nat.le_refl _, trivial, hQ _ _ _ _ h12⟩
      · have h12 := h4.2 c11
        obtain ⟨p13, h14⟩ := h12
        refine ix_go 6 (x' := (56, [some (.inr (.inr (.inl (some (106))))), some (.inl (x1)), some (.inr (.inr (.inl (some (121))))), some (.inl (x3)), some (.inl (x4)), some (.inl (x5))], [.inl ((((52 : Int32)) * (x4)) / (x3))], 0, 0, ix_mem 276 I J T)) rfl p13 ?_
        exact ix_sp rfl ⟨Nat.le_refl _, Nat.le_refl _, trivial, hQ _ _ _ _ h14⟩
  · have h2 := hb.2 c1
    refine ix_go 2 (x' := (if x3 ≤ 0 then 55 else 45, [some (.inr (.inr (.inl (some (106))))), some (.inl (x1)), some (.inr (.inr (.inl (some (121))))), some (.inl (x3)), some (.inl (x4)), some (.inl (x5))], [], 0, 0, ix_mem 276 I J T)) rfl trivial ?_
    refine ix_br (fun c15 => ?_) (fun c15 => ?_)
    · have h16 := h2.1 c15
      refine ix_go 1 (x' := (56, [some (.inr (.inr (.inl (some (106))))), some (.inl (x1)), some (.inr (.inr (.inl (some (121))))), some (.inl (x3)), some (.inl (x4)), some (.inl (x5))], [.inl ((0 : Int32))], 0, 0, ix_mem 276 I J T)) rfl trivial ?_
      exact ix_sp rfl ⟨Nat.le_refl _, Nat.le_refl _, trivial, hQ _ _ _ _ h16⟩
    · have h16 := h2.2 c15
      obtain ⟨p17, h18⟩ := h16
      refine ix_go 6 (x' := (56, [some (.inr (.inr (.inl (some (106))))), some (.inl (x1)), some (.inr (.inr (.inl (some (121))))), some (.inl (x3)), some (.inl (x4)), some (.inl (x5))], [.inl ((((52 : Int32)) * (x4)) / (x3))], 0, 0, ix_mem 276 I J T)) rfl p17 ?_
      exact ix_sp rfl ⟨Nat.le_refl _, Nat.le_refl _, trivial, hQ _ _ _ _ h18⟩
def wp_X4_toldBy_r121 (a0 : Int32) (a2 : Int32) (I : Nat → Nat → Int32) (J : Nat → Nat → Int64) (T : Option Nat) (P : Int32 → (Nat → Nat → Int32) → (Nat → Nat → Int64) → Option Nat → Prop) : Prop := wl_X4_toldBy_r121_6_c121 (a0) (a2) ((0 : Int32)) ((0 : Int32)) I J T P
set_option maxRecDepth 20000 in
theorem tp_X4_toldBy_r121 {d : Nat} {a0 : Int32} {a2 : Int32} {I : Nat → Nat → Int32} {J : Nat → Nat → Int64} {T : Option Nat} {P : Int32 → (Nat → Nat → Int32) → (Nat → Nat → Int64) → Option Nat → Prop} {Q : ix_Q} (h : wp_X4_toldBy_r121 a0 a2 I J T P) (hQ : ∀ v I J T, P v I J T → Q (some (.inl v)) (ix_mem 276 I J T)) : ix_C (d + 1) 61 [.inr (.inr (.inl (some (106)))), .inl (a0), .inr (.inr (.inl (some (121)))), .inl (a2)] (ix_mem 276 I J T) Q := by
  unfold wp_X4_toldBy_r121 at h
  refine ix_enter (ls := [some (.inr (.inr (.inl (some (106))))), some (.inl (a0)), some (.inr (.inr (.inl (some (121))))), some (.inl (a2)), none, none]) rfl rfl rfl (Nat.le_of_ble_eq_true rfl) ?_
  refine ix_go 4 (x' := (6, [some (.inr (.inr (.inl (some (106))))), some (.inl (a0)), some (.inr (.inr (.inl (some (121))))), some (.inl (a2)), some (.inl ((0 : Int32))), some (.inl ((0 : Int32)))], [], 0, 0, ix_mem 276 I J T)) rfl trivial ?_
  refine ix_subW ([some (.inr (.inr (.inl (some (106))))), some (.inl (a0)), some (.inr (.inr (.inl (some (121))))), some (.inl (a2)), some (.inl ((0 : Int32))), some (.inl ((0 : Int32)))]) (ix_subS (ix_subS (ix_subS (ix_subS (ix_subS (ix_subS (ix_sub0))))))) ?_
  exact tl_X4_toldBy_r121_6_c121 h hQ
