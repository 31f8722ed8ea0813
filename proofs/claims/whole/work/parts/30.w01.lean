def wp_X1_setRules (a0 : Int32) (a1 : Int32) (a2 : Int32) (I : Nat → Nat → Int32) (J : Nat → Nat → Int64) (T : Option Nat) (P : (Nat → Nat → Int32) → (Nat → Nat → Int64) → Option Nat → Prop) : Prop := P (ix_u2 (ix_u2 (ix_u2 I 142 0 (a0)) 142 1 (a1)) 142 2 (a2)) J T
set_option maxRecDepth 20000 in
theorem tp_X1_setRules {d : Nat} {a0 : Int32} {a1 : Int32} {a2 : Int32} {I : Nat → Nat → Int32} {J : Nat → Nat → Int64} {T : Option Nat} {P : (Nat → Nat → Int32) → (Nat → Nat → Int64) → Option Nat → Prop} {Q : ix_Q} (h : wp_X1_setRules a0 a1 a2 I J T P) (hQ : ∀ I J T, P I J T → Q none (ix_mem 276 I J T)) : ix_C (d + 1) 13 [.inr (.inr (.inl (some (142)))), .inl (a0), .inl (a1), .inl (a2)] (ix_mem 276 I J T) Q := by
  unfold wp_X1_setRules at h
  refine ix_enter (ls := [some (.inr (.inr (.inl (some (142))))), some (.inl (a0)), some (.inl (a1)), some (.inl (a2))]) rfl rfl rfl (Nat.le_of_ble_eq_true rfl) ?_
  refine ix_go 9 (x' := (15, [some (.inr (.inr (.inl (some (142))))), some (.inl (a0)), some (.inl (a1)), some (.inl (a2))], [], 0, 0, ix_mem 276 (ix_u2 (ix_u2 (ix_u2 I 142 0 (a0)) 142 1 (a1)) 142 2 (a2)) J T)) rfl ⟨rfl, rfl, rfl, rfl, rfl, rfl⟩ ?_
  exact ix_sp rfl ⟨Nat.le_refl _, Nat.le_refl _, rfl, hQ _ _ _ h⟩
def wp_X1_has (a0 : Int32) (I : Nat → Nat → Int32) (J : Nat → Nat → Int64) (T : Option Nat) (P : Int32 → (Nat → Nat → Int32) → (Nat → Nat → Int64) → Option Nat → Prop) : Prop := ((a0 < 0 → P ((0 : Int32)) I J T) ∧ (¬ (a0 < 0) → ((a0 < I 142 3 → P ((1 : Int32)) I J T) ∧ (¬ (a0 < I 142 3) → P ((0 : Int32)) I J T))))
set_option maxRecDepth 20000 in
theorem tp_X1_has {d : Nat} {a0 : Int32} {I : Nat → Nat → Int32} {J : Nat → Nat → Int64} {T : Option Nat} {P : Int32 → (Nat → Nat → Int32) → (Nat → Nat → Int64) → Option Nat → Prop} {Q : ix_Q} (h : wp_X1_has a0 I J T P) (hQ : ∀ v I J T, P v I J T → Q (some (.inl v)) (ix_mem 276 I J T)) : ix_C (d + 1) 14 [.inr (.inr (.inl (some (142)))), .inl (a0)] (ix_mem 276 I J T) Q := by
  unfold wp_X1_has at h
  refine ix_enter (ls := [some (.inr (.inr (.inl (some (142))))), some (.inl (a0))]) rfl rfl rfl (Nat.le_of_ble_eq_true rfl) ?_
  refine ix_go 2 (x' := (if a0 < 0 then 16 else 4, [some (.inr (.inr (.inl (some (142))))), some (.inl (a0))], [], 0, 0, ix_mem 276 I J T)) rfl trivial ?_
  refine ix_br (fun c1 => ?_) (fun c1 => ?_)
  · have h2 := h.1 c1
    refine ix_go 1 (x' := (17, [some (.inr (.inr (.inl (some (142))))), some (.inl (a0))], [.inl ((0 : Int32))], 0, 0, ix_mem 276 I J T)) rfl trivial ?_
    exact ix_sp rfl ⟨Nat.le_refl _, Nat.le_refl _, ix_01_ok rfl, hQ _ _ _ _ h2⟩
  · have h2 := h.2 c1
    refine ix_go 4 (x' := (if a0 < I 142 3 then 12 else 16, [some (.inr (.inr (.inl (some (142))))), some (.inl (a0))], [], 0, 0, ix_mem 276 I J T)) rfl ⟨rfl, rfl⟩ ?_
    refine ix_br (fun c3 => ?_) (fun c3 => ?_)
    · have h4 := h2.1 c3
      refine ix_go 2 (x' := (17, [some (.inr (.inr (.inl (some (142))))), some (.inl (a0))], [.inl ((1 : Int32))], 0, 0, ix_mem 276 I J T)) rfl trivial ?_
      exact ix_sp rfl ⟨Nat.le_refl _, Nat.le_refl _, ix_01_ok rfl, hQ _ _ _ _ h4⟩
    · have h4 := h2.2 c3
      refine ix_go 1 (x' := (17, [some (.inr (.inr (.inl (some (142))))), some (.inl (a0))], [.inl ((0 : Int32))], 0, 0, ix_mem 276 I J T)) rfl trivial ?_
      exact ix_sp rfl ⟨Nat.le_refl _, Nat.le_refl _, ix_01_ok rfl, hQ _ _ _ _ h4⟩
def wp_X1_hasPlace (a0 : Int32) (a1 : Int32) (I : Nat → Nat → Int32) (J : Nat → Nat → Int64) (T : Option Nat) (P : Int32 → (Nat → Nat → Int32) → (Nat → Nat → Int64) → Option Nat → Prop) : Prop := wp_X1_has (a0) I J T (fun v1 I1 J1 T1 => ((v1 = 0 → P ((0 : Int32)) I1 J1 T1) ∧ (¬ (v1 = 0) → ((a1 < 0 → P ((0 : Int32)) I1 J1 T1) ∧ (¬ (a1 < 0) → ix_inb (a0) 30 = true ∧ ((a1 < I1 145 (a0).toNatClampNeg → P ((1 : Int32)) I1 J1 T1) ∧ (¬ (a1 < I1 145 (a0).toNatClampNeg) → P ((0 : Int32)) I1 J1 T1)))))))
set_option maxRecDepth 20000 in
theorem tp_X1_hasPlace {d : Nat} {a0 : Int32} {a1 : Int32} {I : Nat → Nat → Int32} {J : Nat → Nat → Int64} {T : Option Nat} {P : Int32 → (Nat → Nat → Int32) → (Nat → Nat → Int64) → Option Nat → Prop} {Q : ix_Q} (h : wp_X1_hasPlace a0 a1 I J T P) (hQ : ∀ v I J T, P v I J T → Q (some (.inl v)) (ix_mem 276 I J T)) : ix_C (d + 2) 15 [.inr (.inr (.inl (some (142)))), .inl (a0), .inl (a1)] (ix_mem 276 I J T) Q := by
  unfold wp_X1_hasPlace at h
  refine ix_enter (ls := [some (.inr (.inr (.inl (some (142))))), some (.inl (a0)), some (.inl (a1))]) rfl rfl rfl (Nat.le_of_ble_eq_true rfl) ?_
  refine ix_go 2 (x' := (2, [some (.inr (.inr (.inl (some (142))))), some (.inl (a0)), some (.inl (a1))], [.inl (a0), .inr (.inr (.inl (some (142))))], 0, 0, ix_mem 276 I J T)) rfl trivial ?_
  refine ix_sp rfl ⟨rfl, ⟨ix_lt rfl, ix_eq rfl, ix_lt rfl⟩, ix_le rfl, Nat.le_refl _, Nat.le_refl _, tp_X1_has h (fun v1 I1 J1 T1 h1 => ?_)⟩
  change ix_W _ _ _ (5, [some (.inr (.inr (.inl (some (142))))), some (.inl (a0)), some (.inl (a1))], [.inl (v1)], 0, 0, ix_mem 276 I1 J1 T1)
  refine ix_go 1 (x' := (if v1 = 0 then 26 else 8, [some (.inr (.inr (.inl (some (142))))), some (.inl (a0)), some (.inl (a1))], [], 0, 0, ix_mem 276 I1 J1 T1)) rfl trivial ?_
  refine ix_br (fun c2 => ?_) (fun c2 => ?_)
  · have h3 := h1.1 c2
    refine ix_go 1 (x' := (27, [some (.inr (.inr (.inl (some (142))))), some (.inl (a0)), some (.inl (a1))], [.inl ((0 : Int32))], 0, 0, ix_mem 276 I1 J1 T1)) rfl trivial ?_
    exact ix_sp rfl ⟨Nat.le_refl _, Nat.le_refl _, ix_01_ok rfl, hQ _ _ _ _ h3⟩
  · have h3 := h1.2 c2
    refine ix_go 2 (x' := (if a1 < 0 then 26 else 12, [some (.inr (.inr (.inl (some (142))))), some (.inl (a0)), some (.inl (a1))], [], 0, 0, ix_mem 276 I1 J1 T1)) rfl trivial ?_
    refine ix_br (fun c4 => ?_) (fun c4 => ?_)
    · have h5 := h3.1 c4
      refine ix_go 1 (x' := (27, [some (.inr (.inr (.inl (some (142))))), some (.inl (a0)), some (.inl (a1))], [.inl ((0 : Int32))], 0, 0, ix_mem 276 I1 J1 T1)) rfl trivial ?_
      exact ix_sp rfl ⟨Nat.le_refl _, Nat.le_refl _, ix_01_ok rfl, hQ _ _ _ _ h5⟩
    · have h5 := h3.2 c4
      obtain ⟨p6, h7⟩ := h5
      refine ix_go 6 (x' := (if a1 < I1 145 (a0).toNatClampNeg then 22 else 26, [some (.inr (.inr (.inl (some (142))))), some (.inl (a0)), some (.inl (a1))], [], 0, 0, ix_mem 276 I1 J1 T1)) rfl ⟨rfl, rfl, rfl, rfl, p6⟩ ?_
      refine ix_br (fun c8 => ?_) (fun c8 => ?_)
      · have h9 := h7.1 c8
        refine ix_go 2 (x' := (27, [some (.inr (.inr (.inl (some (142))))), some (.inl (a0)), some (.inl (a1))], [.inl ((1 : Int32))], 0, 0, ix_mem 276 I1 J1 T1)) rfl trivial ?_
        exact ix_sp rfl ⟨Nat.le_refl _, Nat.le_refl _, ix_01_ok rfl, hQ _ _ _ _ h9⟩
      · have h9 := h7.2 c8
        refine ix_go 1 (x' := (27, [some (.inr (.inr (.inl (some (142))))), some (.inl (a0)), some (.inl (a1))], [.inl ((0 : Int32))], 0, 0, ix_mem 276 I1 J1 T1)) rfl trivial ?_
        exact ix_sp rfl ⟨Nat.le_refl _, Nat.le_refl _, ix_01_ok rfl, hQ _ _ _ _ h9⟩
def wp_X1_isFull (I : Nat → Nat → Int32) (J : Nat → Nat → Int64) (T : Option Nat) (P : Int32 → (Nat → Nat → Int32) → (Nat → Nat → Int64) → Option Nat → Prop) : Prop := ((I 142 3 < (30 : Int32) → P ((0 : Int32)) I J T) ∧ (¬ (I 142 3 < (30 : Int32)) → P ((1 : Int32)) I J T))
set_option maxRecDepth 20000 in
theorem tp_X1_isFull {d : Nat} {I : Nat → Nat → Int32} {J : Nat → Nat → Int64} {T : Option Nat} {P : Int32 → (Nat → Nat → Int32) → (Nat → Nat → Int64) → Option Nat → Prop} {Q : ix_Q} (h : wp_X1_isFull I J T P) (hQ : ∀ v I J T, P v I J T → Q (some (.inl v)) (ix_mem 276 I J T)) : ix_C (d + 1) 16 [.inr (.inr (.inl (some (142))))] (ix_mem 276 I J T) Q := by
  unfold wp_X1_isFull at h
  refine ix_enter (ls := [some (.inr (.inr (.inl (some (142)))))]) rfl rfl rfl (Nat.le_of_ble_eq_true rfl) ?_
  refine ix_go 4 (x' := (if I 142 3 < (30 : Int32) then 13 else 9, [some (.inr (.inr (.inl (some (142)))))], [], 0, 0, ix_mem 276 I J T)) rfl ⟨rfl, rfl⟩ ?_
  refine ix_br (fun c1 => ?_) (fun c1 => ?_)
  · have h2 := h.1 c1
    refine ix_go 1 (x' := (14, [some (.inr (.inr (.inl (some (142)))))], [.inl ((0 : Int32))], 0, 0, ix_mem 276 I J T)) rfl trivial ?_
    exact ix_sp rfl ⟨Nat.le_refl _, Nat.le_refl _, ix_01_ok rfl, hQ _ _ _ _ h2⟩
  · have h2 := h.2 c1
    refine ix_go 2 (x' := (14, [some (.inr (.inr (.inl (some (142)))))], [.inl ((1 : Int32))], 0, 0, ix_mem 276 I J T)) rfl trivial ?_
    exact ix_sp rfl ⟨Nat.le_refl _, Nat.le_refl _, ix_01_ok rfl, hQ _ _ _ _ h2⟩
def wp_X1_hasBegun (a0 : Int32) (a1 : Int32) (I : Nat → Nat → Int32) (J : Nat → Nat → Int64) (T : Option Nat) (P : Int32 → (Nat → Nat → Int32) → (Nat → Nat → Int64) → Option Nat → Prop) : Prop := ix_inb (a0) 30 = true ∧ ((I 144 (a0).toNatClampNeg ≤ a1 → P ((1 : Int32)) I J T) ∧ (¬ (I 144 (a0).toNatClampNeg ≤ a1) → P ((0 : Int32)) I J T))
set_option maxRecDepth 20000 in
theorem tp_X1_hasBegun {d : Nat} {a0 : Int32} {a1 : Int32} {I : Nat → Nat → Int32} {J : Nat → Nat → Int64} {T : Option Nat} {P : Int32 → (Nat → Nat → Int32) → (Nat → Nat → Int64) → Option Nat → Prop} {Q : ix_Q} (h : wp_X1_hasBegun a0 a1 I J T P) (hQ : ∀ v I J T, P v I J T → Q (some (.inl v)) (ix_mem 276 I J T)) : ix_C (d + 1) 18 [.inr (.inr (.inl (some (142)))), .inl (a0), .inl (a1)] (ix_mem 276 I J T) Q := by
  unfold wp_X1_hasBegun at h
  refine ix_enter (ls := [some (.inr (.inr (.inl (some (142))))), some (.inl (a0)), some (.inl (a1))]) rfl rfl rfl (Nat.le_of_ble_eq_true rfl) ?_
  obtain ⟨p1, h2⟩ := h
  refine ix_go 6 (x' := (if I 144 (a0).toNatClampNeg ≤ a1 then 10 else 14, [some (.inr (.inr (.inl (some (142))))), some (.inl (a0)), some (.inl (a1))], [], 0, 0, ix_mem 276 I J T)) rfl ⟨rfl, rfl, rfl, rfl, p1⟩ ?_
  refine ix_br (fun c3 => ?_) (fun c3 => ?_)
  · have h4 := h2.1 c3
    refine ix_go 2 (x' := (15, [some (.inr (.inr (.inl (some (142))))), some (.inl (a0)), some (.inl (a1))], [.inl ((1 : Int32))], 0, 0, ix_mem 276 I J T)) rfl trivial ?_
    exact ix_sp rfl ⟨Nat.le_refl _, Nat.le_refl _, ix_01_ok rfl, hQ _ _ _ _ h4⟩
  · have h4 := h2.2 c3
    refine ix_go 1 (x' := (15, [some (.inr (.inr (.inl (some (142))))), some (.inl (a0)), some (.inl (a1))], [.inl ((0 : Int32))], 0, 0, ix_mem 276 I J T)) rfl trivial ?_
    exact ix_sp rfl ⟨Nat.le_refl _, Nat.le_refl _, ix_01_ok rfl, hQ _ _ _ _ h4⟩
def wp_X1_isHandedFull (I : Nat → Nat → Int32) (J : Nat → Nat → Int64) (T : Option Nat) (P : Int32 → (Nat → Nat → Int32) → (Nat → Nat → Int64) → Option Nat → Prop) : Prop := ((I 142 8 < (150 : Int32) → P ((0 : Int32)) I J T) ∧ (¬ (I 142 8 < (150 : Int32)) → P ((1 : Int32)) I J T))
set_option maxRecDepth 20000 in
theorem tp_X1_isHandedFull {d : Nat} {I : Nat → Nat → Int32} {J : Nat → Nat → Int64} {T : Option Nat} {P : Int32 → (Nat → Nat → Int32) → (Nat → Nat → Int64) → Option Nat → Prop} {Q : ix_Q} (h : wp_X1_isHandedFull I J T P) (hQ : ∀ v I J T, P v I J T → Q (some (.inl v)) (ix_mem 276 I J T)) : ix_C (d + 1) 19 [.inr (.inr (.inl (some (142))))] (ix_mem 276 I J T) Q := by
  unfold wp_X1_isHandedFull at h
  refine ix_enter (ls := [some (.inr (.inr (.inl (some (142)))))]) rfl rfl rfl (Nat.le_of_ble_eq_true rfl) ?_
  refine ix_go 4 (x' := (if I 142 8 < (150 : Int32) then 14 else 10, [some (.inr (.inr (.inl (some (142)))))], [], 0, 0, ix_mem 276 I J T)) rfl ⟨rfl, rfl⟩ ?_
  refine ix_br (fun c1 => ?_) (fun c1 => ?_)
  · have h2 := h.1 c1
    refine ix_go 1 (x' := (15, [some (.inr (.inr (.inl (some (142)))))], [.inl ((0 : Int32))], 0, 0, ix_mem 276 I J T)) rfl trivial ?_
    exact ix_sp rfl ⟨Nat.le_refl _, Nat.le_refl _, ix_01_ok rfl, hQ _ _ _ _ h2⟩
  · have h2 := h.2 c1
    refine ix_go 2 (x' := (15, [some (.inr (.inr (.inl (some (142)))))], [.inl ((1 : Int32))], 0, 0, ix_mem 276 I J T)) rfl trivial ?_
    exact ix_sp rfl ⟨Nat.le_refl _, Nat.le_refl _, ix_01_ok rfl, hQ _ _ _ _ h2⟩
def wp_X1_latestKnown (I : Nat → Nat → Int32) (J : Nat → Nat → Int64) (T : Option Nat) (P : Int32 → (Nat → Nat → Int32) → (Nat → Nat → Int64) → Option Nat → Prop) : Prop := ((I 142 8 ≤ 0 → P ((0 : Int32)) I J T) ∧ (¬ (I 142 8 ≤ 0) → ix_inb ((I 142 8) - ((1 : Int32))) 150 = true ∧ P (I 180 ((I 142 8) - ((1 : Int32))).toNatClampNeg) I J T))
set_option maxRecDepth 20000 in
theorem tp_X1_latestKnown {d : Nat} {I : Nat → Nat → Int32} {J : Nat → Nat → Int64} {T : Option Nat} {P : Int32 → (Nat → Nat → Int32) → (Nat → Nat → Int64) → Option Nat → Prop} {Q : ix_Q} (h : wp_X1_latestKnown I J T P) (hQ : ∀ v I J T, P v I J T → Q (some (.inl v)) (ix_mem 276 I J T)) : ix_C (d + 1) 20 [.inr (.inr (.inl (some (142))))] (ix_mem 276 I J T) Q := by
  unfold wp_X1_latestKnown at h
  refine ix_enter (ls := [some (.inr (.inr (.inl (some (142)))))]) rfl rfl rfl (Nat.le_of_ble_eq_true rfl) ?_
  refine ix_go 3 (x' := (if I 142 8 ≤ 0 then 21 else 7, [some (.inr (.inr (.inl (some (142)))))], [], 0, 0, ix_mem 276 I J T)) rfl ⟨rfl, rfl⟩ ?_
  refine ix_br (fun c1 => ?_) (fun c1 => ?_)
  · have h2 := h.1 c1
    refine ix_go 1 (x' := (22, [some (.inr (.inr (.inl (some (142)))))], [.inl ((0 : Int32))], 0, 0, ix_mem 276 I J T)) rfl trivial ?_
    exact ix_sp rfl ⟨Nat.le_refl _, Nat.le_refl _, trivial, hQ _ _ _ _ h2⟩
  · have h2 := h.2 c1
    obtain ⟨p3, h4⟩ := h2
    refine ix_go 8 (x' := (22, [some (.inr (.inr (.inl (some (142)))))], [.inl (I 180 ((I 142 8) - ((1 : Int32))).toNatClampNeg)], 0, 0, ix_mem 276 I J T)) rfl ⟨rfl, rfl, rfl, rfl, rfl, rfl, p3⟩ ?_
    exact ix_sp rfl ⟨Nat.le_refl _, Nat.le_refl _, trivial, hQ _ _ _ _ h4⟩
def wp_X1_addHanded (a0 : Int32) (a1 : Int32) (a2 : Int32) (a3 : Int32) (I : Nat → Nat → Int32) (J : Nat → Nat → Int64) (T : Option Nat) (P : (Nat → Nat → Int32) → (Nat → Nat → Int64) → Option Nat → Prop) : Prop := ix_inb (I 142 8) 150 = true ∧ ix_inb (I 142 8) 150 = true ∧ ix_inb (I 142 8) 150 = true ∧ ix_inb (I 142 8) 150 = true ∧ P (ix_u2 (ix_u2 (ix_u2 (ix_u2 (ix_u2 I 177 (I 142 8).toNatClampNeg (a0)) 178 (I 142 8).toNatClampNeg (a1)) 179 (I 142 8).toNatClampNeg (a2)) 180 (I 142 8).toNatClampNeg (a3)) 142 8 ((I 142 8) + ((1 : Int32)))) J T
set_option maxRecDepth 20000 in
theorem tp_X1_addHanded {d : Nat} {a0 : Int32} {a1 : Int32} {a2 : Int32} {a3 : Int32} {I : Nat → Nat → Int32} {J : Nat → Nat → Int64} {T : Option Nat} {P : (Nat → Nat → Int32) → (Nat → Nat → Int64) → Option Nat → Prop} {Q : ix_Q} (h : wp_X1_addHanded a0 a1 a2 a3 I J T P) (hQ : ∀ I J T, P I J T → Q none (ix_mem 276 I J T)) : ix_C (d + 1) 21 [.inr (.inr (.inl (some (142)))), .inl (a0), .inl (a1), .inl (a2), .inl (a3)] (ix_mem 276 I J T) Q := by
  unfold wp_X1_addHanded at h
  refine ix_enter (ls := [some (.inr (.inr (.inl (some (142))))), some (.inl (a0)), some (.inl (a1)), some (.inl (a2)), some (.inl (a3))]) rfl rfl rfl (Nat.le_of_ble_eq_true rfl) ?_
  obtain ⟨p1, h2⟩ := h
  obtain ⟨p3, h4⟩ := h2
  obtain ⟨p5, h6⟩ := h4
  obtain ⟨p7, h8⟩ := h6
  refine ix_go 30 (x' := (51, [some (.inr (.inr (.inl (some (142))))), some (.inl (a0)), some (.inl (a1)), some (.inl (a2)), some (.inl (a3))], [], 0, 0, ix_mem 276 (ix_u2 (ix_u2 (ix_u2 (ix_u2 (ix_u2 I 177 (I 142 8).toNatClampNeg (a0)) 178 (I 142 8).toNatClampNeg (a1)) 179 (I 142 8).toNatClampNeg (a2)) 180 (I 142 8).toNatClampNeg (a3)) 142 8 ((I 142 8) + ((1 : Int32)))) J T)) rfl ⟨rfl, rfl, rfl, rfl, rfl, rfl, p1, rfl, rfl, rfl, rfl, rfl, rfl, p3, rfl, rfl, rfl, rfl, rfl, rfl, p5, rfl, rfl, rfl, rfl, rfl, rfl, p7, rfl, rfl, rfl, rfl⟩ ?_
  exact ix_sp rfl ⟨Nat.le_refl _, Nat.le_refl _, rfl, hQ _ _ _ h8⟩
def wb_X1_find_17 (x1 : Int32) (x2 : Int32) (x3 : Int32) (I : Nat → Nat → Int32) (J : Nat → Nat → Int64) (T : Option Nat) (V17 : Int32 → Int32 → Int32 → (Nat → Nat → Int32) → (Nat → Nat → Int64) → Option Nat → Prop) (P : (Nat → Nat → Int32) → (Nat → Nat → Int64) → Option Nat → Prop) : Prop := ((x3 < I 142 8 → ix_inb (x3) 150 = true ∧ ((I 177 (x3).toNatClampNeg = x1 → ix_inb (x3) 150 = true ∧ ((I 180 (x3).toNatClampNeg ≤ x2 → ix_inb (x3) 150 = true ∧ ((I 178 (x3).toNatClampNeg < I 142 13 → V17 (x1) (x2) (x3 + (1 : Int32)) I J T) ∧ (¬ (I 178 (x3).toNatClampNeg < I 142 13) → ix_inb (x3) 150 = true ∧ ix_inb (x3) 150 = true ∧ V17 (x1) (x2) (x3 + (1 : Int32)) (ix_u2 (ix_u2 I 142 13 (I 178 (x3).toNatClampNeg)) 142 14 (I 179 (x3).toNatClampNeg)) J T))) ∧ (¬ (I 180 (x3).toNatClampNeg ≤ x2) → V17 (x1) (x2) (x3 + (1 : Int32)) I J T))) ∧ (¬ (I 177 (x3).toNatClampNeg = x1) → V17 (x1) (x2) (x3 + (1 : Int32)) I J T))) ∧ (¬ (x3 < I 142 8) → P I J T))
def wl_X1_find_17 (x1 : Int32) (x2 : Int32) (x3 : Int32) (I : Nat → Nat → Int32) (J : Nat → Nat → Int64) (T : Option Nat) (P : (Nat → Nat → Int32) → (Nat → Nat → Int64) → Option Nat → Prop) : Prop := ∀ V : Int32 → Int32 → Int32 → (Nat → Nat → Int32) → (Nat → Nat → Int64) → Option Nat → Prop, (∀ (x1 : Int32) (x2 : Int32) (x3 : Int32) (I : Nat → Nat → Int32) (J : Nat → Nat → Int64) (T : Option Nat), wb_X1_find_17 x1 x2 x3 I J T V P → V x1 x2 x3 I J T) → V x1 x2 x3 I J T
set_option maxRecDepth 20000 in
theorem tl_X1_find_17 {d : Nat} {x1 : Int32} {x2 : Int32} {x3 : Int32} {I : Nat → Nat → Int32} {J : Nat → Nat → Int64} {T : Option Nat} {P : (Nat → Nat → Int32) → (Nat → Nat → Int64) → Option Nat → Prop} {Q : ix_Q} (h : wl_X1_find_17 x1 x2 x3 I J T P) (hQ : ∀ I J T, P I J T → Q none (ix_mem 276 I J T)) : ix_W (ix_C d) (1, ix_lk ix_l22, none, 0, 0, Nat.blt 0 0, none) Q (17, [some (.inr (.inr (.inl (some (142))))), some (.inl (x1)), some (.inl (x2)), some (.inl (x3))], [], 0, 0, ix_mem 276 I J T) := by
  refine h (fun x1 x2 x3 I J T => ix_W (ix_C d) (1, ix_lk ix_l22, none, 0, 0, Nat.blt 0 0, none) Q (17, [some (.inr (.inr (.inl (some (142))))), some (.inl (x1)), some (.inl (x2)), some (.inl (x3))], [], 0, 0, ix_mem 276 I J T)) ?_
  intro x1 x2 x3 I J T hb
  unfold wb_X1_find_17 at hb
  refine ix_go 4 (x' := (if x3 < I 142 8 then 25 else 84, [some (.inr (.inr (.inl (some (142))))), some (.inl (x1)), some (.inl (x2)), some (.inl (x3))], [], 0, 0, ix_mem 276 I J T)) rfl ⟨rfl, rfl⟩ ?_
  refine ix_br (fun c3 => ?_) (fun c3 => ?_)
  · have h4 := hb.1 c3
    obtain ⟨p5, h6⟩ := h4
    refine ix_go 6 (x' := (if I 177 (x3).toNatClampNeg = x1 then 35 else 78, [some (.inr (.inr (.inl (some (142))))), some (.inl (x1)), some (.inl (x2)), some (.inl (x3))], [], 0, 0, ix_mem 276 I J T)) rfl ⟨rfl, rfl, rfl, rfl, p5⟩ ?_
    refine ix_br (fun c7 => ?_) (fun c7 => ?_)
    · have h8 := h6.1 c7
      obtain ⟨p9, h10⟩ := h8
      refine ix_go 6 (x' := (if I 180 (x3).toNatClampNeg ≤ x2 then 45 else 78, [some (.inr (.inr (.inl (some (142))))), some (.inl (x1)), some (.inl (x2)), some (.inl (x3))], [], 0, 0, ix_mem 276 I J T)) rfl ⟨rfl, rfl, rfl, rfl, p9⟩ ?_
      refine ix_br (fun c11 => ?_) (fun c11 => ?_)
      · have h12 := h10.1 c11
        obtain ⟨p13, h14⟩ := h12
        refine ix_go 7 (x' := (if I 178 (x3).toNatClampNeg < I 142 13 then 78 else 58, [some (.inr (.inr (.inl (some (142))))), some (.inl (x1)), some (.inl (x2)), some (.inl (x3))], [], 0, 0, ix_mem 276 I J T)) rfl ⟨rfl, rfl, rfl, rfl, p13, rfl, rfl⟩ ?_
        refine ix_br (fun c15 => ?_) (fun c15 => ?_)
        · have h16 := h14.1 c15
          refine ix_go 2 (x' := (17, [some (.inr (.inr (.inl (some (142))))), some (.inl (x1)), some (.inl (x2)), some (.inl (x3 + (1 : Int32)))], [], 0, 0, ix_mem 276 I J T)) rfl trivial ?_
          refine ix_subW ([some (.inr (.inr (.inl (some (142))))), some (.inl (x1)), some (.inl (x2)), some (.inl (x3 + (1 : Int32)))]) (ix_subS (ix_subS (ix_subS (ix_subS (ix_sub0))))) ?_
          exact h16
        · have h16 := h14.2 c15
          obtain ⟨p17, h18⟩ := h16
          obtain ⟨p19, h20⟩ := h18
          refine ix_go 14 (x' := (17, [some (.inr (.inr (.inl (some (142))))), some (.inl (x1)), some (.inl (x2)), some (.inl (x3 + (1 : Int32)))], [], 0, 0, ix_mem 276 (ix_u2 (ix_u2 I 142 13 (I 178 (x3).toNatClampNeg)) 142 14 (I 179 (x3).toNatClampNeg)) J T)) rfl ⟨rfl, rfl, rfl, rfl, p17, rfl, rfl, rfl, rfl, rfl, rfl, p19, rfl, rfl⟩ ?_
          refine ix_subW ([some (.inr (.inr (.inl (some (142))))), some (.inl (x1)), some (.inl (x2)), some (.inl (x3 + (1 : Int32)))]) (ix_subS (ix_subS (ix_subS (ix_subS (ix_sub0))))) ?_
          exact h20
      · have h12 := h10.2 c11
        refine ix_go 2 (x' := (17, [some (.inr (.inr (.inl (some (142))))), some (.inl (x1)), some (.inl (x2)), some (.inl (x3 + (1 : Int32)))], [], 0, 0, ix_mem 276 I J T)) rfl trivial ?_
        refine ix_subW ([some (.inr (.inr (.inl (some (142))))), some (.inl (x1)), some (.inl (x2)), some (.inl (x3 + (1 : Int32)))]) (ix_subS (ix_subS (ix_subS (ix_subS (ix_sub0))))) ?_
        exact h12
    · have h8 := h6.2 c7
      refine ix_go 2 (x' := (17, [some (.inr (.inr (.inl (some (142))))), some (.inl (x1)), some (.inl (x2)), some (.inl (x3 + (1 : Int32)))], [], 0, 0, ix_mem 276 I J T)) rfl trivial ?_
      refine ix_subW ([some (.inr (.inr (.inl (some (142))))), some (.inl (x1)), some (.inl (x2)), some (.inl (x3 + (1 : Int32)))]) (ix_subS (ix_subS (ix_subS (ix_subS (ix_sub0))))) ?_
      exact h8
  · have h4 := hb.2 c3
    exact ix_sp rfl ⟨Nat.le_refl _, Nat.le_refl _, rfl, hQ _ _ _ h4⟩
def wp_X1_find (a0 : Int32) (a1 : Int32) (I : Nat → Nat → Int32) (J : Nat → Nat → Int64) (T : Option Nat) (P : (Nat → Nat → Int32) → (Nat → Nat → Int64) → Option Nat → Prop) : Prop := ix_inb (a0) 30 = true ∧ wl_X1_find_17 (a0) (a1) ((0 : Int32)) (ix_u2 (ix_u2 I 142 13 ((0 : Int32))) 142 14 (I 144 (a0).toNatClampNeg)) J T P
set_option maxRecDepth 20000 in
theorem tp_X1_find {d : Nat} {a0 : Int32} {a1 : Int32} {I : Nat → Nat → Int32} {J : Nat → Nat → Int64} {T : Option Nat} {P : (Nat → Nat → Int32) → (Nat → Nat → Int64) → Option Nat → Prop} {Q : ix_Q} (h : wp_X1_find a0 a1 I J T P) (hQ : ∀ I J T, P I J T → Q none (ix_mem 276 I J T)) : ix_C (d + 1) 22 [.inr (.inr (.inl (some (142)))), .inl (a0), .inl (a1)] (ix_mem 276 I J T) Q := by
  unfold wp_X1_find at h
  refine ix_enter (ls := [some (.inr (.inr (.inl (some (142))))), some (.inl (a0)), some (.inl (a1)), none]) rfl rfl rfl (Nat.le_of_ble_eq_true rfl) ?_
  obtain ⟨p1, h2⟩ := h
  refine ix_go 11 (x' := (17, [some (.inr (.inr (.inl (some (142))))), some (.inl (a0)), some (.inl (a1)), some (.inl ((0 : Int32)))], [], 0, 0, ix_mem 276 (ix_u2 (ix_u2 I 142 13 ((0 : Int32))) 142 14 (I 144 (a0).toNatClampNeg)) J T)) rfl ⟨rfl, rfl, rfl, rfl, rfl, rfl, p1, rfl, rfl⟩ ?_
  refine ix_subW ([some (.inr (.inr (.inl (some (142))))), some (.inl (a0)), some (.inl (a1)), some (.inl ((0 : Int32)))]) (ix_subS (ix_subS (ix_subS (ix_subS (ix_sub0))))) ?_
  exact tl_X1_find_17 h2 hQ
def wp_X1_landOf (a0 : Int32) (a1 : Int32) (I : Nat → Nat → Int32) (J : Nat → Nat → Int64) (T : Option Nat) (P : Int32 → (Nat → Nat → Int32) → (Nat → Nat → Int64) → Option Nat → Prop) : Prop := wp_X1_find (a0) (a1) I J T (fun I1 J1 T1 => ix_inb (a0) 30 = true ∧ ix_inb (I1 142 13) 5 = true ∧ P (I1 (ix_row 146 (a0)) (I1 142 13).toNatClampNeg) I1 J1 T1)
set_option maxRecDepth 20000 in
theorem tp_X1_landOf {d : Nat} {a0 : Int32} {a1 : Int32} {I : Nat → Nat → Int32} {J : Nat → Nat → Int64} {T : Option Nat} {P : Int32 → (Nat → Nat → Int32) → (Nat → Nat → Int64) → Option Nat → Prop} {Q : ix_Q} (h : wp_X1_landOf a0 a1 I J T P) (hQ : ∀ v I J T, P v I J T → Q (some (.inl v)) (ix_mem 276 I J T)) : ix_C (d + 2) 23 [.inr (.inr (.inl (some (142)))), .inl (a0), .inl (a1)] (ix_mem 276 I J T) Q := by
  unfold wp_X1_landOf at h
  refine ix_enter (ls := [some (.inr (.inr (.inl (some (142))))), some (.inl (a0)), some (.inl (a1))]) rfl rfl rfl (Nat.le_of_ble_eq_true rfl) ?_
  refine ix_go 3 (x' := (3, [some (.inr (.inr (.inl (some (142))))), some (.inl (a0)), some (.inl (a1))], [.inl (a1), .inl (a0), .inr (.inr (.inl (some (142))))], 0, 0, ix_mem 276 I J T)) rfl trivial ?_
  refine ix_sp rfl ⟨rfl, ⟨ix_lt rfl, ix_eq rfl, ix_lt rfl⟩, ix_le rfl, Nat.le_refl _, Nat.le_refl _, tp_X1_find h (fun I1 J1 T1 h1 => ?_)⟩
  change ix_W _ _ _ (6, [some (.inr (.inr (.inl (some (142))))), some (.inl (a0)), some (.inl (a1))], [], 0, 0, ix_mem 276 I1 J1 T1)
  obtain ⟨p2, h3⟩ := h1
  obtain ⟨p4, h5⟩ := h3
  refine ix_go 7 (x' := (17, [some (.inr (.inr (.inl (some (142))))), some (.inl (a0)), some (.inl (a1))], [.inl (I1 (ix_row 146 (a0)) (I1 142 13).toNatClampNeg)], 0, 0, ix_mem 276 I1 J1 T1)) rfl ⟨rfl, rfl, rfl, rfl, rfl, p2, (rw_146 p2).1, rfl, rfl, (rw_146 p2).2.1, (rw_146 p2).2.2.1, (ix_inbL (rw_146 p2).2.2.2.1 p4)⟩ ?_
  exact ix_sp rfl ⟨Nat.le_refl _, Nat.le_refl _, trivial, hQ _ _ _ _ h5⟩
def wp_X5_hasRoad (a0 : Int32) (a1 : Int32) (I : Nat → Nat → Int32) (J : Nat → Nat → Int64) (T : Option Nat) (P : Int32 → (Nat → Nat → Int32) → (Nat → Nat → Int64) → Option Nat → Prop) : Prop := ix_inb (a0) 7 = true ∧ ix_inb (a1) 7 = true ∧ ((I (ix_row 12 (a0)) (a1).toNatClampNeg ≤ 0 → P ((0 : Int32)) I J T) ∧ (¬ (I (ix_row 12 (a0)) (a1).toNatClampNeg ≤ 0) → P ((1 : Int32)) I J T))
set_option maxRecDepth 20000 in
theorem tp_X5_hasRoad {d : Nat} {a0 : Int32} {a1 : Int32} {I : Nat → Nat → Int32} {J : Nat → Nat → Int64} {T : Option Nat} {P : Int32 → (Nat → Nat → Int32) → (Nat → Nat → Int64) → Option Nat → Prop} {Q : ix_Q} (h : wp_X5_hasRoad a0 a1 I J T P) (hQ : ∀ v I J T, P v I J T → Q (some (.inl v)) (ix_mem 276 I J T)) : ix_C (d + 1) 24 [.inr (.inr (.inl (some (8)))), .inl (a0), .inl (a1)] (ix_mem 276 I J T) Q := by
  unfold wp_X5_hasRoad at h
  refine ix_enter (ls := [some (.inr (.inr (.inl (some (8))))), some (.inl (a0)), some (.inl (a1))]) rfl rfl rfl (Nat.le_of_ble_eq_true rfl) ?_
  obtain ⟨p1, h2⟩ := h
  obtain ⟨p3, h4⟩ := h2
  refine ix_go 7 (x' := (if I (ix_row 12 (a0)) (a1).toNatClampNeg ≤ 0 then 15 else 11, [some (.inr (.inr (.inl (some (8))))), some (.inl (a0)), some (.inl (a1))], [], 0, 0, ix_mem 276 I J T)) rfl ⟨rfl, rfl, rfl, rfl, rfl, p1, (rw_12 p1).1, (rw_12 p1).2.1, (rw_12 p1).2.2.1, (ix_inbL (rw_12 p1).2.2.2.1 p3)⟩ ?_
  refine ix_br (fun c5 => ?_) (fun c5 => ?_)
  · have h6 := h4.1 c5
    refine ix_go 1 (x' := (16, [some (.inr (.inr (.inl (some (8))))), some (.inl (a0)), some (.inl (a1))], [.inl ((0 : Int32))], 0, 0, ix_mem 276 I J T)) rfl trivial ?_
    exact ix_sp rfl ⟨Nat.le_refl _, Nat.le_refl _, ix_01_ok rfl, hQ _ _ _ _ h6⟩
  · have h6 := h4.2 c5
    refine ix_go 2 (x' := (16, [some (.inr (.inr (.inl (some (8))))), some (.inl (a0)), some (.inl (a1))], [.inl ((1 : Int32))], 0, 0, ix_mem 276 I J T)) rfl trivial ?_
    exact ix_sp rfl ⟨Nat.le_refl _, Nat.le_refl _, ix_01_ok rfl, hQ _ _ _ _ h6⟩
def wp_X5_daysOf (a0 : Int32) (a1 : Int32) (I : Nat → Nat → Int32) (J : Nat → Nat → Int64) (T : Option Nat) (P : Int32 → (Nat → Nat → Int32) → (Nat → Nat → Int64) → Option Nat → Prop) : Prop := ix_inb (a0) 7 = true ∧ ix_inb (a1) 7 = true ∧ P (I (ix_row 12 (a0)) (a1).toNatClampNeg) I J T
set_option maxRecDepth 20000 in
theorem tp_X5_daysOf {d : Nat} {a0 : Int32} {a1 : Int32} {I : Nat → Nat → Int32} {J : Nat → Nat → Int64} {T : Option Nat} {P : Int32 → (Nat → Nat → Int32) → (Nat → Nat → Int64) → Option Nat → Prop} {Q : ix_Q} (h : wp_X5_daysOf a0 a1 I J T P) (hQ : ∀ v I J T, P v I J T → Q (some (.inl v)) (ix_mem 276 I J T)) : ix_C (d + 1) 25 [.inr (.inr (.inl (some (8)))), .inl (a0), .inl (a1)] (ix_mem 276 I J T) Q := by
  unfold wp_X5_daysOf at h
  refine ix_enter (ls := [some (.inr (.inr (.inl (some (8))))), some (.inl (a0)), some (.inl (a1))]) rfl rfl rfl (Nat.le_of_ble_eq_true rfl) ?_
  obtain ⟨p1, h2⟩ := h
  obtain ⟨p3, h4⟩ := h2
  refine ix_go 6 (x' := (8, [some (.inr (.inr (.inl (some (8))))), some (.inl (a0)), some (.inl (a1))], [.inl (I (ix_row 12 (a0)) (a1).toNatClampNeg)], 0, 0, ix_mem 276 I J T)) rfl ⟨rfl, rfl, rfl, rfl, rfl, p1, (rw_12 p1).1, (rw_12 p1).2.1, (rw_12 p1).2.2.1, (ix_inbL (rw_12 p1).2.2.2.1 p3)⟩ ?_
  exact ix_sp rfl ⟨Nat.le_refl _, Nat.le_refl _, trivial, hQ _ _ _ _ h4⟩
def wp_X1_lateness (a0 : Int32) (a1 : Int32) (a2 : Int32) (I : Nat → Nat → Int32) (J : Nat → Nat → Int64) (T : Option Nat) (P : Int32 → (Nat → Nat → Int32) → (Nat → Nat → Int64) → Option Nat → Prop) : Prop := wp_X1_find (a0) (a2) I J T (fun I1 J1 T1 => ix_inb (a0) 30 = true ∧ ((I1 142 13 < (I1 145 (a0).toNatClampNeg) - ((1 : Int32)) → ix_inb (a0) 30 = true ∧ ix_inb (I1 142 13) 5 = true ∧ ix_inb (a0) 30 = true ∧ ix_inb ((I1 142 13) + ((1 : Int32))) 5 = true ∧ wp_X5_hasRoad (I1 (ix_row 146 (a0)) (I1 142 13).toNatClampNeg) (I1 (ix_row 146 (a0)) ((I1 142 13) + ((1 : Int32))).toNatClampNeg) I1 J1 T1 (fun v14 I14 J14 T14 => ((v14 = 0 → (((((a1) - (I14 142 14)) - ((60 : Int32))) - (I14 142 0) ≤ 0 → P ((0 : Int32)) I14 J14 T14) ∧ (¬ ((((a1) - (I14 142 14)) - ((60 : Int32))) - (I14 142 0) ≤ 0) → (((((a1) - (I14 142 14)) - ((60 : Int32))) - (I14 142 0) ≤ I14 142 1 → P ((1 : Int32)) I14 J14 T14) ∧ (¬ ((((a1) - (I14 142 14)) - ((60 : Int32))) - (I14 142 0) ≤ I14 142 1) → P ((2 : Int32)) I14 J14 T14))))) ∧ (¬ (v14 = 0) → wp_X5_daysOf (I1 (ix_row 146 (a0)) (I1 142 13).toNatClampNeg) (I1 (ix_row 146 (a0)) ((I1 142 13) + ((1 : Int32))).toNatClampNeg) I14 J14 T14 (fun v21 I21 J21 T21 => (((((a1) - (I21 142 14)) - (v21)) - (I21 142 0) ≤ 0 → P ((0 : Int32)) I21 J21 T21) ∧ (¬ ((((a1) - (I21 142 14)) - (v21)) - (I21 142 0) ≤ 0) → (((((a1) - (I21 142 14)) - (v21)) - (I21 142 0) ≤ I21 142 1 → P ((1 : Int32)) I21 J21 T21) ∧ (¬ ((((a1) - (I21 142 14)) - (v21)) - (I21 142 0) ≤ I21 142 1) → P ((2 : Int32)) I21 J21 T21))))))))) ∧ (¬ (I1 142 13 < (I1 145 (a0).toNatClampNeg) - ((1 : Int32))) → P ((0 : Int32)) I1 J1 T1)))
set_option maxRecDepth 20000 in
theorem tp_X1_lateness {d : Nat} {a0 : Int32} {a1 : Int32} {a2 : Int32} {I : Nat → Nat → Int32} {J : Nat → Nat → Int64} {T : Option Nat} {P : Int32 → (Nat → Nat → Int32) → (Nat → Nat → Int64) → Option Nat → Prop} {Q : ix_Q} (h : wp_X1_lateness a0 a1 a2 I J T P) (hQ : ∀ v I J T, P v I J T → Q (some (.inl v)) (ix_mem 276 I J T)) : ix_C (d + 2) 26 [.inr (.inr (.inl (some (142)))), .inl (a0), .inl (a1), .inl (a2), .inr (.inr (.inl (some (8))))] (ix_mem 276 I J T) Q := by
  unfold wp_X1_lateness at h
  refine ix_enter (ls := [some (.inr (.inr (.inl (some (142))))), some (.inl (a0)), some (.inl (a1)), some (.inl (a2)), some (.inr (.inr (.inl (some (8))))), none, none, none, none]) rfl rfl rfl (Nat.le_of_ble_eq_true rfl) ?_
  refine ix_go 3 (x' := (3, [some (.inr (.inr (.inl (some (142))))), some (.inl (a0)), some (.inl (a1)), some (.inl (a2)), some (.inr (.inr (.inl (some (8))))), none, none, none, none], [.inl (a2), .inl (a0), .inr (.inr (.inl (some (142))))], 0, 0, ix_mem 276 I J T)) rfl trivial ?_
  refine ix_sp rfl ⟨rfl, ⟨ix_lt rfl, ix_eq rfl, ix_lt rfl⟩, ix_le rfl, Nat.le_refl _, Nat.le_refl _, tp_X1_find h (fun I1 J1 T1 h1 => ?_)⟩
  change ix_W _ _ _ (6, [some (.inr (.inr (.inl (some (142))))), some (.inl (a0)), some (.inl (a1)), some (.inl (a2)), some (.inr (.inr (.inl (some (8))))), none, none, none, none], [], 0, 0, ix_mem 276 I1 J1 T1)
  obtain ⟨p2, h3⟩ := h1
  refine ix_go 9 (x' := (if I1 142 13 < (I1 145 (a0).toNatClampNeg) - ((1 : Int32)) then 23 else 21, [some (.inr (.inr (.inl (some (142))))), some (.inl (a0)), some (.inl (a1)), some (.inl (a2)), some (.inr (.inr (.inl (some (8))))), none, none, none, none], [], 0, 0, ix_mem 276 I1 J1 T1)) rfl ⟨rfl, rfl, rfl, rfl, rfl, rfl, p2⟩ ?_
  refine ix_br (fun c4 => ?_) (fun c4 => ?_)
  · have h5 := h3.1 c4
    obtain ⟨p6, h7⟩ := h5
    obtain ⟨p8, h9⟩ := h7
    obtain ⟨p10, h11⟩ := h9
    obtain ⟨p12, h13⟩ := h11
    refine ix_go 21 (x' := (57, [some (.inr (.inr (.inl (some (142))))), some (.inl (a0)), some (.inl (a1)), some (.inl (a2)), some (.inr (.inr (.inl (some (8))))), some (.inl (I1 (ix_row 146 (a0)) (I1 142 13).toNatClampNeg)), some (.inl (I1 (ix_row 146 (a0)) ((I1 142 13) + ((1 : Int32))).toNatClampNeg)), none, none], [.inl (I1 (ix_row 146 (a0)) ((I1 142 13) + ((1 : Int32))).toNatClampNeg), .inl (I1 (ix_row 146 (a0)) (I1 142 13).toNatClampNeg), .inr (.inr (.inl (some (8))))], 0, 0, ix_mem 276 I1 J1 T1)) rfl ⟨rfl, rfl, rfl, rfl, rfl, p6, (rw_146 p6).1, rfl, rfl, (rw_146 p6).2.1, (rw_146 p6).2.2.1, (ix_inbL (rw_146 p6).2.2.2.1 p8), rfl, rfl, rfl, rfl, rfl, p10, (rw_146 p10).1, rfl, rfl, (rw_146 p10).2.1, (rw_146 p10).2.2.1, (ix_inbL (rw_146 p10).2.2.2.1 p12)⟩ ?_
    refine ix_sp rfl ⟨rfl, ⟨ix_lt rfl, ix_eq rfl, ix_lt rfl⟩, ix_le rfl, Nat.le_refl _, Nat.le_refl _, tp_X5_hasRoad h13 (fun v14 I14 J14 T14 h14 => ?_)⟩
    change ix_W _ _ _ (60, [some (.inr (.inr (.inl (some (142))))), some (.inl (a0)), some (.inl (a1)), some (.inl (a2)), some (.inr (.inr (.inl (some (8))))), some (.inl (I1 (ix_row 146 (a0)) (I1 142 13).toNatClampNeg)), some (.inl (I1 (ix_row 146 (a0)) ((I1 142 13) + ((1 : Int32))).toNatClampNeg)), none, none], [.inl (v14)], 0, 0, ix_mem 276 I14 J14 T14)
    refine ix_go 1 (x' := (if v14 = 0 then 75 else 63, [some (.inr (.inr (.inl (some (142))))), some (.inl (a0)), some (.inl (a1)), some (.inl (a2)), some (.inr (.inr (.inl (some (8))))), some (.inl (I1 (ix_row 146 (a0)) (I1 142 13).toNatClampNeg)), some (.inl (I1 (ix_row 146 (a0)) ((I1 142 13) + ((1 : Int32))).toNatClampNeg)), none, none], [], 0, 0, ix_mem 276 I14 J14 T14)) rfl trivial ?_
    refine ix_br (fun c15 => ?_) (fun c15 => ?_)
    · have h16 := h14.1 c15
      refine ix_go 14 (x' := (if (((a1) - (I14 142 14)) - ((60 : Int32))) - (I14 142 0) ≤ 0 then 100 else 102, [some (.inr (.inr (.inl (some (142))))), some (.inl (a0)), some (.inl (a1)), some (.inl (a2)), some (.inr (.inr (.inl (some (8))))), some (.inl (I1 (ix_row 146 (a0)) (I1 142 13).toNatClampNeg)), some (.inl (I1 (ix_row 146 (a0)) ((I1 142 13) + ((1 : Int32))).toNatClampNeg)), some (.inl ((60 : Int32))), some (.inl ((((a1) - (I14 142 14)) - ((60 : Int32))) - (I14 142 0)))], [], 0, 0, ix_mem 276 I14 J14 T14)) rfl ⟨rfl, rfl, rfl, rfl⟩ ?_
      refine ix_br (fun c17 => ?_) (fun c17 => ?_)
      · have h18 := h16.1 c17
        refine ix_go 1 (x' := (101, [some (.inr (.inr (.inl (some (142))))), some (.inl (a0)), some (.inl (a1)), some (.inl (a2)), some (.inr (.inr (.inl (some (8))))), some (.inl (I1 (ix_row 146 (a0)) (I1 142 13).toNatClampNeg)), some (.inl (I1 (ix_row 146 (a0)) ((I1 142 13) + ((1 : Int32))).toNatClampNeg)), some (.inl ((60 : Int32))), some (.inl ((((a1) - (I14 142 14)) - ((60 : Int32))) - (I14 142 0)))], [.inl ((0 : Int32))], 0, 0, ix_mem 276 I14 J14 T14)) rfl trivial ?_
        exact ix_sp rfl ⟨Nat.le_refl _, Nat.le_refl _, trivial, hQ _ _ _ _ h18⟩
      · have h18 := h16.2 c17
        refine ix_go 4 (x' := (if (((a1) - (I14 142 14)) - ((60 : Int32))) - (I14 142 0) ≤ I14 142 1 then 115 else 111, [some (.inr (.inr (.inl (some (142))))), some (.inl (a0)), some (.inl (a1)), some (.inl (a2)), some (.inr (.inr (.inl (some (8))))), some (.inl (I1 (ix_row 146 (a0)) (I1 142 13).toNatClampNeg)), some (.inl (I1 (ix_row 146 (a0)) ((I1 142 13) + ((1 : Int32))).toNatClampNeg)), some (.inl ((60 : Int32))), some (.inl ((((a1) - (I14 142 14)) - ((60 : Int32))) - (I14 142 0)))], [], 0, 0, ix_mem 276 I14 J14 T14)) rfl ⟨rfl, rfl⟩ ?_
        refine ix_br (fun c19 => ?_) (fun c19 => ?_)
        · have h20 := h18.1 c19
          refine ix_go 1 (x' := (116, [some (.inr (.inr (.inl (some (142))))), some (.inl (a0)), some (.inl (a1)), some (.inl (a2)), some (.inr (.inr (.inl (some (8))))), some (.inl (I1 (ix_row 146 (a0)) (I1 142 13).toNatClampNeg)), some (.inl (I1 (ix_row 146 (a0)) ((I1 142 13) + ((1 : Int32))).toNatClampNeg)), some (.inl ((60 : Int32))), some (.inl ((((a1) - (I14 142 14)) - ((60 : Int32))) - (I14 142 0)))], [.inl ((1 : Int32))], 0, 0, ix_mem 276 I14 J14 T14)) rfl trivial ?_
          exact ix_sp rfl ⟨Nat.le_refl _, Nat.le_refl _, trivial, hQ _ _ _ _ h20⟩
        · have h20 := h18.2 c19
          refine ix_go 2 (x' := (116, [some (.inr (.inr (.inl (some (142))))), some (.inl (a0)), some (.inl (a1)), some (.inl (a2)), some (.inr (.inr (.inl (some (8))))), some (.inl (I1 (ix_row 146 (a0)) (I1 142 13).toNatClampNeg)), some (.inl (I1 (ix_row 146 (a0)) ((I1 142 13) + ((1 : Int32))).toNatClampNeg)), some (.inl ((60 : Int32))), some (.inl ((((a1) - (I14 142 14)) - ((60 : Int32))) - (I14 142 0)))], [.inl ((2 : Int32))], 0, 0, ix_mem 276 I14 J14 T14)) rfl trivial ?_
          exact ix_sp rfl ⟨Nat.le_refl _, Nat.le_refl _, trivial, hQ _ _ _ _ h20⟩
    · have h16 := h14.2 c15
      refine ix_go 3 (x' := (69, [some (.inr (.inr (.inl (some (142))))), some (.inl (a0)), some (.inl (a1)), some (.inl (a2)), some (.inr (.inr (.inl (some (8))))), some (.inl (I1 (ix_row 146 (a0)) (I1 142 13).toNatClampNeg)), some (.inl (I1 (ix_row 146 (a0)) ((I1 142 13) + ((1 : Int32))).toNatClampNeg)), none, none], [.inl (I1 (ix_row 146 (a0)) ((I1 142 13) + ((1 : Int32))).toNatClampNeg), .inl (I1 (ix_row 146 (a0)) (I1 142 13).toNatClampNeg), .inr (.inr (.inl (some (8))))], 0, 0, ix_mem 276 I14 J14 T14)) rfl trivial ?_
      refine ix_sp rfl ⟨rfl, ⟨ix_lt rfl, ix_eq rfl, ix_lt rfl⟩, ix_le rfl, Nat.le_refl _, Nat.le_refl _, tp_X5_daysOf h16 (fun v21 I21 J21 T21 h21 => ?_)⟩
      change ix_W _ _ _ (72, [some (.inr (.inr (.inl (some (142))))), some (.inl (a0)), some (.inl (a1)), some (.inl (a2)), some (.inr (.inr (.inl (some (8))))), some (.inl (I1 (ix_row 146 (a0)) (I1 142 13).toNatClampNeg)), some (.inl (I1 (ix_row 146 (a0)) ((I1 142 13) + ((1 : Int32))).toNatClampNeg)), none, none], [.inl (v21)], 0, 0, ix_mem 276 I21 J21 T21)
      refine ix_go 14 (x' := (if (((a1) - (I21 142 14)) - (v21)) - (I21 142 0) ≤ 0 then 100 else 102, [some (.inr (.inr (.inl (some (142))))), some (.inl (a0)), some (.inl (a1)), some (.inl (a2)), some (.inr (.inr (.inl (some (8))))), some (.inl (I1 (ix_row 146 (a0)) (I1 142 13).toNatClampNeg)), some (.inl (I1 (ix_row 146 (a0)) ((I1 142 13) + ((1 : Int32))).toNatClampNeg)), some (.inl (v21)), some (.inl ((((a1) - (I21 142 14)) - (v21)) - (I21 142 0)))], [], 0, 0, ix_mem 276 I21 J21 T21)) rfl ⟨rfl, rfl, rfl, rfl⟩ ?_
      refine ix_br (fun c22 => ?_) (fun c22 => ?_)
      · have h23 := h21.1 c22
        refine ix_go 1 (x' := (101, [some (.inr (.inr (.inl (some (142))))), some (.inl (a0)), some (.inl (a1)), some (.inl (a2)), some (.inr (.inr (.inl (some (8))))), some (.inl (I1 (ix_row 146 (a0)) (I1 142 13).toNatClampNeg)), some (.inl (I1 (ix_row 146 (a0)) ((I1 142 13) + ((1 : Int32))).toNatClampNeg)), some (.inl (v21)), some (.inl ((((a1) - (I21 142 14)) - (v21)) - (I21 142 0)))], [.inl ((0 : Int32))], 0, 0, ix_mem 276 I21 J21 T21)) rfl trivial ?_
        exact ix_sp rfl ⟨Nat.le_refl _, Nat.le_refl _, trivial, hQ _ _ _ _ h23⟩
      · have h23 := h21.2 c22
        refine ix_go 4 (x' := (if (((a1) - (I21 142 14)) - (v21)) - (I21 142 0) ≤ I21 142 1 then 115 else 111, [some (.inr (.inr (.inl (some (142))))), some (.inl (a0)), some (.inl (a1)), some (.inl (a2)), some (.inr (.inr (.inl (some (8))))), some (.inl (I1 (ix_row 146 (a0)) (I1 142 13).toNatClampNeg)), some (.inl (I1 (ix_row 146 (a0)) ((I1 142 13) + ((1 : Int32))).toNatClampNeg)), some (.inl (v21)), some (.inl ((((a1) - (I21 142 14)) - (v21)) - (I21 142 0)))], [], 0, 0, ix_mem 276 I21 J21 T21)) rfl ⟨rfl, rfl⟩ ?_
        refine ix_br (fun c24 => ?_) (fun c24 => ?_)
        · have h25 := h23.1 c24
          refine ix_go 1 (x' := (116, [some (.inr (.inr (.inl (some (142))))), some (.inl (a0)), some (.inl (a1)), some (.inl (a2)), some (.inr (.inr (.inl (some (8))))), some (.inl (I1 (ix_row 146 (a0)) (I1 142 13).toNatClampNeg)), some (.inl (I1 (ix_row 146 (a0)) ((I1 142 13) + ((1 : Int32))).toNatClampNeg)), some (.inl (v21)), some (.inl ((((a1) - (I21 142 14)) - (v21)) - (I21 142 0)))], [.inl ((1 : Int32))], 0, 0, ix_mem 276 I21 J21 T21)) rfl trivial ?_
          exact ix_sp rfl ⟨Nat.le_refl _, Nat.le_refl _, trivial, hQ _ _ _ _ h25⟩
        · have h25 := h23.2 c24
          refine ix_go 2 (x' := (116, [some (.inr (.inr (.inl (some (142))))), some (.inl (a0)), some (.inl (a1)), some (.inl (a2)), some (.inr (.inr (.inl (some (8))))), some (.inl (I1 (ix_row 146 (a0)) (I1 142 13).toNatClampNeg)), some (.inl (I1 (ix_row 146 (a0)) ((I1 142 13) + ((1 : Int32))).toNatClampNeg)), some (.inl (v21)), some (.inl ((((a1) - (I21 142 14)) - (v21)) - (I21 142 0)))], [.inl ((2 : Int32))], 0, 0, ix_mem 276 I21 J21 T21)) rfl trivial ?_
          exact ix_sp rfl ⟨Nat.le_refl _, Nat.le_refl _, trivial, hQ _ _ _ _ h25⟩
  · have h5 := h3.2 c4
    refine ix_go 1 (x' := (22, [some (.inr (.inr (.inl (some (142))))), some (.inl (a0)), some (.inl (a1)), some (.inl (a2)), some (.inr (.inr (.inl (some (8))))), none, none, none, none], [.inl ((0 : Int32))], 0, 0, ix_mem 276 I1 J1 T1)) rfl trivial ?_
    exact ix_sp rfl ⟨Nat.le_refl _, Nat.le_refl _, trivial, hQ _ _ _ _ h5⟩
def wb_X1_lossesOf_6_c8 (x1 : Int32) (x2 : Int32) (x4 : Int64) (x6 : Int32) (I : Nat → Nat → Int32) (J : Nat → Nat → Int64) (T : Option Nat) (V6 : Int32 → Int32 → Int64 → Int32 → (Nat → Nat → Int32) → (Nat → Nat → Int64) → Option Nat → Prop) (P : Int64 → (Nat → Nat → Int32) → (Nat → Nat → Int64) → Option Nat → Prop) : Prop := ((x6 < I 142 3 → wp_X1_hasBegun (x6) (x2) I J T (fun v3 I3 J3 T3 => ((v3 = 0 → V6 (x1) (x2) (x4) (x6 + (1 : Int32)) I3 J3 T3) ∧ (¬ (v3 = 0) → wp_X1_landOf (x6) (x2) I3 J3 T3 (fun v6 I6 J6 T6 => ((v6 = x1 → wp_X1_lateness (x6) (x2) (x2) I6 J6 T6 (fun v9 I9 J9 T9 => ((v9 = (2 : Int32) → ix_inb (x6) 30 = true ∧ V6 (x1) (x2) ((x4) + ((((I9 143 (x6).toNatClampNeg).toInt64) * ((I9 142 2).toInt64)) / ((1000 : Int64)))) (x6 + (1 : Int32)) I9 J9 T9) ∧ (¬ (v9 = (2 : Int32)) → V6 (x1) (x2) (x4) (x6 + (1 : Int32)) I9 J9 T9)))) ∧ (¬ (v6 = x1) → V6 (x1) (x2) (x4) (x6 + (1 : Int32)) I6 J6 T6))))))) ∧ (¬ (x6 < I 142 3) → P (x4) I J T))
def wl_X1_lossesOf_6_c8 (x1 : Int32) (x2 : Int32) (x4 : Int64) (x6 : Int32) (I : Nat → Nat → Int32) (J : Nat → Nat → Int64) (T : Option Nat) (P : Int64 → (Nat → Nat → Int32) → (Nat → Nat → Int64) → Option Nat → Prop) : Prop := ∀ V : Int32 → Int32 → Int64 → Int32 → (Nat → Nat → Int32) → (Nat → Nat → Int64) → Option Nat → Prop, (∀ (x1 : Int32) (x2 : Int32) (x4 : Int64) (x6 : Int32) (I : Nat → Nat → Int32) (J : Nat → Nat → Int64) (T : Option Nat), wb_X1_lossesOf_6_c8 x1 x2 x4 x6 I J T V P → V x1 x2 x4 x6 I J T) → V x1 x2 x4 x6 I J T
set_option maxRecDepth 20000 in
theorem tl_X1_lossesOf_6_c8 {d : Nat} {x1 : Int32} {x2 : Int32} {x4 : Int64} {x6 : Int32} {I : Nat → Nat → Int32} {J : Nat → Nat → Int64} {T : Option Nat} {P : Int64 → (Nat → Nat → Int32) → (Nat → Nat → Int64) → Option Nat → Prop} {Q : ix_Q} (h : wl_X1_lossesOf_6_c8 x1 x2 x4 x6 I J T P) (hQ : ∀ v I J T, P v I J T → Q (some (.inr (.inl v))) (ix_mem 276 I J T)) : ix_W (ix_C (d + 2)) (1, ix_lk ix_l27, (some .long), 0, 0, Nat.blt 0 0, none) Q (6, [some (.inr (.inr (.inl (some (142))))), some (.inl (x1)), some (.inl (x2)), some (.inr (.inr (.inl (some (8))))), some (.inr (.inl (x4))), none, some (.inl (x6))], [], 0, 0, ix_mem 276 I J T) := by
  refine h (fun x1 x2 x4 x6 I J T => ix_W (ix_C (d + 2)) (1, ix_lk ix_l27, (some .long), 0, 0, Nat.blt 0 0, none) Q (6, [some (.inr (.inr (.inl (some (142))))), some (.inl (x1)), some (.inl (x2)), some (.inr (.inr (.inl (some (8))))), some (.inr (.inl (x4))), none, some (.inl (x6))], [], 0, 0, ix_mem 276 I J T)) ?_
  intro x1 x2 x4 x6 I J T hb
  unfold wb_X1_lossesOf_6_c8 at hb
  refine ix_go 4 (x' := (if x6 < I 142 3 then 15 else 78, [some (.inr (.inr (.inl (some (142))))), some (.inl (x1)), some (.inl (x2)), some (.inr (.inr (.inl (some (8))))), some (.inr (.inl (x4))), none, some (.inl (x6))], [], 0, 0, ix_mem 276 I J T)) rfl ⟨rfl, rfl⟩ ?_
  refine ix_br (fun c1 => ?_) (fun c1 => ?_)
  · have h2 := hb.1 c1
    refine ix_go 3 (x' := (19, [some (.inr (.inr (.inl (some (142))))), some (.inl (x1)), some (.inl (x2)), some (.inr (.inr (.inl (some (8))))), some (.inr (.inl (x4))), none, some (.inl (x6))], [.inl (x2), .inl (x6), .inr (.inr (.inl (some (142))))], 0, 0, ix_mem 276 I J T)) rfl trivial ?_
    refine ix_sp rfl ⟨rfl, ⟨ix_lt rfl, ix_eq rfl, ix_lt rfl⟩, ix_le rfl, Nat.le_refl _, Nat.le_refl _, tp_X1_hasBegun h2 (fun v3 I3 J3 T3 h3 => ?_)⟩
    change ix_W _ _ _ (22, [some (.inr (.inr (.inl (some (142))))), some (.inl (x1)), some (.inl (x2)), some (.inr (.inr (.inl (some (8))))), some (.inr (.inl (x4))), none, some (.inl (x6))], [.inl (v3)], 0, 0, ix_mem 276 I3 J3 T3)
    refine ix_go 1 (x' := (if v3 = 0 then 72 else 25, [some (.inr (.inr (.inl (some (142))))), some (.inl (x1)), some (.inl (x2)), some (.inr (.inr (.inl (some (8))))), some (.inr (.inl (x4))), none, some (.inl (x6))], [], 0, 0, ix_mem 276 I3 J3 T3)) rfl trivial ?_
    refine ix_br (fun c4 => ?_) (fun c4 => ?_)
    · have h5 := h3.1 c4
      refine ix_go 2 (x' := (6, [some (.inr (.inr (.inl (some (142))))), some (.inl (x1)), some (.inl (x2)), some (.inr (.inr (.inl (some (8))))), some (.inr (.inl (x4))), none, some (.inl (x6 + (1 : Int32)))], [], 0, 0, ix_mem 276 I3 J3 T3)) rfl trivial ?_
      refine ix_subW ([some (.inr (.inr (.inl (some (142))))), some (.inl (x1)), some (.inl (x2)), some (.inr (.inr (.inl (some (8))))), some (.inr (.inl (x4))), none, some (.inl (x6 + (1 : Int32)))]) (ix_subS (ix_subS (ix_subS (ix_subS (ix_subS (ix_subS (ix_subS (ix_sub0)))))))) ?_
      exact h5
    · have h5 := h3.2 c4
      refine ix_go 3 (x' := (29, [some (.inr (.inr (.inl (some (142))))), some (.inl (x1)), some (.inl (x2)), some (.inr (.inr (.inl (some (8))))), some (.inr (.inl (x4))), none, some (.inl (x6))], [.inl (x2), .inl (x6), .inr (.inr (.inl (some (142))))], 0, 0, ix_mem 276 I3 J3 T3)) rfl trivial ?_
      refine ix_sp rfl ⟨rfl, ⟨ix_lt rfl, ix_eq rfl, ix_lt rfl⟩, ix_le rfl, Nat.le_refl _, Nat.le_refl _, tp_X1_landOf h5 (fun v6 I6 J6 T6 h6 => ?_)⟩
      change ix_W _ _ _ (32, [some (.inr (.inr (.inl (some (142))))), some (.inl (x1)), some (.inl (x2)), some (.inr (.inr (.inl (some (8))))), some (.inr (.inl (x4))), none, some (.inl (x6))], [.inl (v6)], 0, 0, ix_mem 276 I6 J6 T6)
      refine ix_go 2 (x' := (if v6 = x1 then 36 else 72, [some (.inr (.inr (.inl (some (142))))), some (.inl (x1)), some (.inl (x2)), some (.inr (.inr (.inl (some (8))))), some (.inr (.inl (x4))), none, some (.inl (x6))], [], 0, 0, ix_mem 276 I6 J6 T6)) rfl trivial ?_
      refine ix_br (fun c7 => ?_) (fun c7 => ?_)
      · have h8 := h6.1 c7
        refine ix_go 5 (x' := (42, [some (.inr (.inr (.inl (some (142))))), some (.inl (x1)), some (.inl (x2)), some (.inr (.inr (.inl (some (8))))), some (.inr (.inl (x4))), none, some (.inl (x6))], [.inr (.inr (.inl (some (8)))), .inl (x2), .inl (x2), .inl (x6), .inr (.inr (.inl (some (142))))], 0, 0, ix_mem 276 I6 J6 T6)) rfl trivial ?_
        refine ix_sp rfl ⟨rfl, ⟨ix_lt rfl, ix_eq rfl, ix_lt rfl⟩, ix_le rfl, Nat.le_refl _, Nat.le_refl _, tp_X1_lateness h8 (fun v9 I9 J9 T9 h9 => ?_)⟩
        change ix_W _ _ _ (45, [some (.inr (.inr (.inl (some (142))))), some (.inl (x1)), some (.inl (x2)), some (.inr (.inr (.inl (some (8))))), some (.inr (.inl (x4))), none, some (.inl (x6))], [.inl (v9)], 0, 0, ix_mem 276 I9 J9 T9)
        refine ix_go 2 (x' := (if v9 = (2 : Int32) then 49 else 72, [some (.inr (.inr (.inl (some (142))))), some (.inl (x1)), some (.inl (x2)), some (.inr (.inr (.inl (some (8))))), some (.inr (.inl (x4))), none, some (.inl (x6))], [], 0, 0, ix_mem 276 I9 J9 T9)) rfl trivial ?_
        refine ix_br (fun c10 => ?_) (fun c10 => ?_)
        · have h11 := h9.1 c10
          obtain ⟨p12, h13⟩ := h11
          refine ix_go 16 (x' := (6, [some (.inr (.inr (.inl (some (142))))), some (.inl (x1)), some (.inl (x2)), some (.inr (.inr (.inl (some (8))))), some (.inr (.inl ((x4) + ((((I9 143 (x6).toNatClampNeg).toInt64) * ((I9 142 2).toInt64)) / ((1000 : Int64)))))), none, some (.inl (x6 + (1 : Int32)))], [], 0, 0, ix_mem 276 I9 J9 T9)) rfl ⟨rfl, rfl, rfl, rfl, p12, rfl, rfl, rfl⟩ ?_
          refine ix_subW ([some (.inr (.inr (.inl (some (142))))), some (.inl (x1)), some (.inl (x2)), some (.inr (.inr (.inl (some (8))))), some (.inr (.inl ((x4) + ((((I9 143 (x6).toNatClampNeg).toInt64) * ((I9 142 2).toInt64)) / ((1000 : Int64)))))), none, some (.inl (x6 + (1 : Int32)))]) (ix_subS (ix_subS (ix_subS (ix_subS (ix_subS (ix_subS (ix_subS (ix_sub0)))))))) ?_
          exact h13
        · have h11 := h9.2 c10
          refine ix_go 2 (x' := (6, [some (.inr (.inr (.inl (some (142))))), some (.inl (x1)), some (.inl (x2)), some (.inr (.inr (.inl (some (8))))), some (.inr (.inl (x4))), none, some (.inl (x6 + (1 : Int32)))], [], 0, 0, ix_mem 276 I9 J9 T9)) rfl trivial ?_
          refine ix_subW ([some (.inr (.inr (.inl (some (142))))), some (.inl (x1)), some (.inl (x2)), some (.inr (.inr (.inl (some (8))))), some (.inr (.inl (x4))), none, some (.inl (x6 + (1 : Int32)))]) (ix_subS (ix_subS (ix_subS (ix_subS (ix_subS (ix_subS (ix_subS (ix_sub0)))))))) ?_
          exact h11
      · have h8 := h6.2 c7
        refine ix_go 2 (x' := (6, [some (.inr (.inr (.inl (some (142))))), some (.inl (x1)), some (.inl (x2)), some (.inr (.inr (.inl (some (8))))), some (.inr (.inl (x4))), none, some (.inl (x6 + (1 : Int32)))], [], 0, 0, ix_mem 276 I6 J6 T6)) rfl trivial ?_
        refine ix_subW ([some (.inr (.inr (.inl (some (142))))), some (.inl (x1)), some (.inl (x2)), some (.inr (.inr (.inl (some (8))))), some (.inr (.inl (x4))), none, some (.inl (x6 + (1 : Int32)))]) (ix_subS (ix_subS (ix_subS (ix_subS (ix_subS (ix_subS (ix_subS (ix_sub0)))))))) ?_
        exact h8
  · have h2 := hb.2 c1
    refine ix_go 1 (x' := (80, [some (.inr (.inr (.inl (some (142))))), some (.inl (x1)), some (.inl (x2)), some (.inr (.inr (.inl (some (8))))), some (.inr (.inl (x4))), none, some (.inl (x6))], [.inr (.inl (x4))], 0, 0, ix_mem 276 I J T)) rfl trivial ?_
    exact ix_sp rfl ⟨Nat.le_refl _, Nat.le_refl _, rfl, hQ _ _ _ _ h2⟩
def wp_X1_lossesOf (a0 : Int32) (a1 : Int32) (I : Nat → Nat → Int32) (J : Nat → Nat → Int64) (T : Option Nat) (P : Int64 → (Nat → Nat → Int32) → (Nat → Nat → Int64) → Option Nat → Prop) : Prop := wl_X1_lossesOf_6_c8 (a0) (a1) ((0 : Int64)) ((0 : Int32)) I J T P
set_option maxRecDepth 20000 in
theorem tp_X1_lossesOf {d : Nat} {a0 : Int32} {a1 : Int32} {I : Nat → Nat → Int32} {J : Nat → Nat → Int64} {T : Option Nat} {P : Int64 → (Nat → Nat → Int32) → (Nat → Nat → Int64) → Option Nat → Prop} {Q : ix_Q} (h : wp_X1_lossesOf a0 a1 I J T P) (hQ : ∀ v I J T, P v I J T → Q (some (.inr (.inl v))) (ix_mem 276 I J T)) : ix_C (d + 3) 27 [.inr (.inr (.inl (some (142)))), .inl (a0), .inl (a1), .inr (.inr (.inl (some (8))))] (ix_mem 276 I J T) Q := by
  unfold wp_X1_lossesOf at h
  refine ix_enter (ls := [some (.inr (.inr (.inl (some (142))))), some (.inl (a0)), some (.inl (a1)), some (.inr (.inr (.inl (some (8))))), none, none, none]) rfl rfl rfl (Nat.le_of_ble_eq_true rfl) ?_
  refine ix_go 4 (x' := (6, [some (.inr (.inr (.inl (some (142))))), some (.inl (a0)), some (.inl (a1)), some (.inr (.inr (.inl (some (8))))), some (.inr (.inl ((0 : Int64)))), none, some (.inl ((0 : Int32)))], [], 0, 0, ix_mem 276 I J T)) rfl trivial ?_
  refine ix_subW ([some (.inr (.inr (.inl (some (142))))), some (.inl (a0)), some (.inl (a1)), some (.inr (.inr (.inl (some (8))))), some (.inr (.inl ((0 : Int64)))), none, some (.inl ((0 : Int32)))]) (ix_subS (ix_subS (ix_subS (ix_subS (ix_subS (ix_subS (ix_subS (ix_sub0)))))))) ?_
  exact tl_X1_lossesOf_6_c8 h hQ
def wp_X2_clear (I : Nat → Nat → Int32) (J : Nat → Nat → Int64) (T : Option Nat) (P : (Nat → Nat → Int32) → (Nat → Nat → Int64) → Option Nat → Prop) : Prop := P (ix_u2 (ix_u2 I 182 ((0 : Int32)).toNatClampNeg ((0 : Int32))) 182 ((1 : Int32)).toNatClampNeg ((0 : Int32))) J T
set_option maxRecDepth 20000 in
theorem tp_X2_clear {d : Nat} {I : Nat → Nat → Int32} {J : Nat → Nat → Int64} {T : Option Nat} {P : (Nat → Nat → Int32) → (Nat → Nat → Int64) → Option Nat → Prop} {Q : ix_Q} (h : wp_X2_clear I J T P) (hQ : ∀ I J T, P I J T → Q none (ix_mem 276 I J T)) : ix_C (d + 1) 29 [.inr (.inr (.inl (some (181))))] (ix_mem 276 I J T) Q := by
  unfold wp_X2_clear at h
  refine ix_enter (ls := [some (.inr (.inr (.inl (some (181)))))]) rfl rfl rfl (Nat.le_of_ble_eq_true rfl) ?_
  refine ix_go 10 (x' := (14, [some (.inr (.inr (.inl (some (181)))))], [], 0, 0, ix_mem 276 (ix_u2 (ix_u2 I 182 ((0 : Int32)).toNatClampNeg ((0 : Int32))) 182 ((1 : Int32)).toNatClampNeg ((0 : Int32))) J T)) rfl ⟨rfl, rfl, rfl, rfl, rfl, rfl, rfl, rfl, rfl, rfl⟩ ?_
  exact ix_sp rfl ⟨Nat.le_refl _, Nat.le_refl _, rfl, hQ _ _ _ h⟩
def wp_X2_isFull (a0 : Int32) (I : Nat → Nat → Int32) (J : Nat → Nat → Int64) (T : Option Nat) (P : Int32 → (Nat → Nat → Int32) → (Nat → Nat → Int64) → Option Nat → Prop) : Prop := ix_inb (a0) 2 = true ∧ ((I 182 (a0).toNatClampNeg < (12 : Int32) → P ((0 : Int32)) I J T) ∧ (¬ (I 182 (a0).toNatClampNeg < (12 : Int32)) → P ((1 : Int32)) I J T))
set_option maxRecDepth 20000 in
theorem tp_X2_isFull {d : Nat} {a0 : Int32} {I : Nat → Nat → Int32} {J : Nat → Nat → Int64} {T : Option Nat} {P : Int32 → (Nat → Nat → Int32) → (Nat → Nat → Int64) → Option Nat → Prop} {Q : ix_Q} (h : wp_X2_isFull a0 I J T P) (hQ : ∀ v I J T, P v I J T → Q (some (.inl v)) (ix_mem 276 I J T)) : ix_C (d + 1) 30 [.inr (.inr (.inl (some (181)))), .inl (a0)] (ix_mem 276 I J T) Q := by
  unfold wp_X2_isFull at h
  refine ix_enter (ls := [some (.inr (.inr (.inl (some (181))))), some (.inl (a0))]) rfl rfl rfl (Nat.le_of_ble_eq_true rfl) ?_
  obtain ⟨p1, h2⟩ := h
  refine ix_go 6 (x' := (if I 182 (a0).toNatClampNeg < (12 : Int32) then 15 else 11, [some (.inr (.inr (.inl (some (181))))), some (.inl (a0))], [], 0, 0, ix_mem 276 I J T)) rfl ⟨rfl, rfl, rfl, rfl, p1⟩ ?_
  refine ix_br (fun c3 => ?_) (fun c3 => ?_)
  · have h4 := h2.1 c3
    refine ix_go 1 (x' := (16, [some (.inr (.inr (.inl (some (181))))), some (.inl (a0))], [.inl ((0 : Int32))], 0, 0, ix_mem 276 I J T)) rfl trivial ?_
    exact ix_sp rfl ⟨Nat.le_refl _, Nat.le_refl _, ix_01_ok rfl, hQ _ _ _ _ h4⟩
  · have h4 := h2.2 c3
    refine ix_go 2 (x' := (16, [some (.inr (.inr (.inl (some (181))))), some (.inl (a0))], [.inl ((1 : Int32))], 0, 0, ix_mem 276 I J T)) rfl trivial ?_
    exact ix_sp rfl ⟨Nat.le_refl _, Nat.le_refl _, ix_01_ok rfl, hQ _ _ _ _ h4⟩
def wp_X2_has (a0 : Int32) (I : Nat → Nat → Int32) (J : Nat → Nat → Int64) (T : Option Nat) (P : Int32 → (Nat → Nat → Int32) → (Nat → Nat → Int64) → Option Nat → Prop) : Prop := ((a0 < 0 → P ((0 : Int32)) I J T) ∧ (¬ (a0 < 0) → ((a0 < I 182 ((0 : Int32)).toNatClampNeg → P ((1 : Int32)) I J T) ∧ (¬ (a0 < I 182 ((0 : Int32)).toNatClampNeg) → P ((0 : Int32)) I J T))))
set_option maxRecDepth 20000 in
theorem tp_X2_has {d : Nat} {a0 : Int32} {I : Nat → Nat → Int32} {J : Nat → Nat → Int64} {T : Option Nat} {P : Int32 → (Nat → Nat → Int32) → (Nat → Nat → Int64) → Option Nat → Prop} {Q : ix_Q} (h : wp_X2_has a0 I J T P) (hQ : ∀ v I J T, P v I J T → Q (some (.inl v)) (ix_mem 276 I J T)) : ix_C (d + 1) 31 [.inr (.inr (.inl (some (181)))), .inl (a0)] (ix_mem 276 I J T) Q := by
  unfold wp_X2_has at h
  refine ix_enter (ls := [some (.inr (.inr (.inl (some (181))))), some (.inl (a0))]) rfl rfl rfl (Nat.le_of_ble_eq_true rfl) ?_
  refine ix_go 2 (x' := (if a0 < 0 then 18 else 4, [some (.inr (.inr (.inl (some (181))))), some (.inl (a0))], [], 0, 0, ix_mem 276 I J T)) rfl trivial ?_
  refine ix_br (fun c1 => ?_) (fun c1 => ?_)
  · have h2 := h.1 c1
    refine ix_go 1 (x' := (19, [some (.inr (.inr (.inl (some (181))))), some (.inl (a0))], [.inl ((0 : Int32))], 0, 0, ix_mem 276 I J T)) rfl trivial ?_
    exact ix_sp rfl ⟨Nat.le_refl _, Nat.le_refl _, ix_01_ok rfl, hQ _ _ _ _ h2⟩
  · have h2 := h.2 c1
    refine ix_go 6 (x' := (if a0 < I 182 ((0 : Int32)).toNatClampNeg then 14 else 18, [some (.inr (.inr (.inl (some (181))))), some (.inl (a0))], [], 0, 0, ix_mem 276 I J T)) rfl ⟨rfl, rfl, rfl, rfl, rfl⟩ ?_
    refine ix_br (fun c3 => ?_) (fun c3 => ?_)
    · have h4 := h2.1 c3
      refine ix_go 2 (x' := (19, [some (.inr (.inr (.inl (some (181))))), some (.inl (a0))], [.inl ((1 : Int32))], 0, 0, ix_mem 276 I J T)) rfl trivial ?_
      exact ix_sp rfl ⟨Nat.le_refl _, Nat.le_refl _, ix_01_ok rfl, hQ _ _ _ _ h4⟩
    · have h4 := h2.2 c3
      refine ix_go 1 (x' := (19, [some (.inr (.inr (.inl (some (181))))), some (.inl (a0))], [.inl ((0 : Int32))], 0, 0, ix_mem 276 I J T)) rfl trivial ?_
      exact ix_sp rfl ⟨Nat.le_refl _, Nat.le_refl _, ix_01_ok rfl, hQ _ _ _ _ h4⟩
def wp_X2_add (a0 : Int32) (a1 : Int32) (a2 : Int32) (a3 : Int32) (I : Nat → Nat → Int32) (J : Nat → Nat → Int64) (T : Option Nat) (P : Int32 → (Nat → Nat → Int32) → (Nat → Nat → Int64) → Option Nat → Prop) : Prop := ix_inb (a0) 2 = true ∧ ix_inb (a0) 2 = true ∧ ix_inb (I 182 (a0).toNatClampNeg) 12 = true ∧ ix_inb (a0) 2 = true ∧ ix_inb (I 182 (a0).toNatClampNeg) 12 = true ∧ ix_inb (a0) 2 = true ∧ ix_inb (I 182 (a0).toNatClampNeg) 12 = true ∧ ix_inb (a0) 2 = true ∧ ix_inb (a0) 2 = true ∧ P (I 182 (a0).toNatClampNeg) (ix_u2 (ix_u2 (ix_u2 (ix_u2 I (ix_row 183 (a0)) (I 182 (a0).toNatClampNeg).toNatClampNeg (a1)) (ix_row 186 (a0)) (I 182 (a0).toNatClampNeg).toNatClampNeg (a2)) (ix_row 189 (a0)) (I 182 (a0).toNatClampNeg).toNatClampNeg (a3)) 182 (a0).toNatClampNeg (((ix_u2 (ix_u2 (ix_u2 I (ix_row 183 (a0)) (I 182 (a0).toNatClampNeg).toNatClampNeg (a1)) (ix_row 186 (a0)) (I 182 (a0).toNatClampNeg).toNatClampNeg (a2)) (ix_row 189 (a0)) (I 182 (a0).toNatClampNeg).toNatClampNeg (a3)) 182 (a0).toNatClampNeg) + ((1 : Int32)))) J T
set_option maxRecDepth 20000 in
theorem tp_X2_add {d : Nat} {a0 : Int32} {a1 : Int32} {a2 : Int32} {a3 : Int32} {I : Nat → Nat → Int32} {J : Nat → Nat → Int64} {T : Option Nat} {P : Int32 → (Nat → Nat → Int32) → (Nat → Nat → Int64) → Option Nat → Prop} {Q : ix_Q} (h : wp_X2_add a0 a1 a2 a3 I J T P) (hQ : ∀ v I J T, P v I J T → Q (some (.inl v)) (ix_mem 276 I J T)) : ix_C (d + 1) 32 [.inr (.inr (.inl (some (181)))), .inl (a0), .inl (a1), .inl (a2), .inl (a3)] (ix_mem 276 I J T) Q := by
  unfold wp_X2_add at h
  refine ix_enter (ls := [some (.inr (.inr (.inl (some (181))))), some (.inl (a0)), some (.inl (a1)), some (.inl (a2)), some (.inl (a3)), none]) rfl rfl rfl (Nat.le_of_ble_eq_true rfl) ?_
  obtain ⟨p1, h2⟩ := h
  obtain ⟨p3, h4⟩ := h2
  obtain ⟨p5, h6⟩ := h4
  obtain ⟨p7, h8⟩ := h6
  obtain ⟨p9, h10⟩ := h8
  obtain ⟨p11, h12⟩ := h10
  obtain ⟨p13, h14⟩ := h12
  obtain ⟨p15, h16⟩ := h14
  obtain ⟨p17, h18⟩ := h16
  refine ix_go 35 (x' := (51, [some (.inr (.inr (.inl (some (181))))), some (.inl (a0)), some (.inl (a1)), some (.inl (a2)), some (.inl (a3)), some (.inl (I 182 (a0).toNatClampNeg))], [.inl (I 182 (a0).toNatClampNeg)], 0, 0, ix_mem 276 (ix_u2 (ix_u2 (ix_u2 (ix_u2 I (ix_row 183 (a0)) (I 182 (a0).toNatClampNeg).toNatClampNeg (a1)) (ix_row 186 (a0)) (I 182 (a0).toNatClampNeg).toNatClampNeg (a2)) (ix_row 189 (a0)) (I 182 (a0).toNatClampNeg).toNatClampNeg (a3)) 182 (a0).toNatClampNeg (((ix_u2 (ix_u2 (ix_u2 I (ix_row 183 (a0)) (I 182 (a0).toNatClampNeg).toNatClampNeg (a1)) (ix_row 186 (a0)) (I 182 (a0).toNatClampNeg).toNatClampNeg (a2)) (ix_row 189 (a0)) (I 182 (a0).toNatClampNeg).toNatClampNeg (a3)) 182 (a0).toNatClampNeg) + ((1 : Int32)))) J T)) rfl ⟨rfl, rfl, rfl, rfl, p1, rfl, rfl, rfl, rfl, rfl, p3, (rw_183 p3).1, (rw_183 p3).2.1, (rw_183 p3).2.2.1, (ix_inbL (rw_183 p3).2.2.2.1 p5), rfl, rfl, rfl, rfl, rfl, p7, (rw_186 p7).1, (rw_186 p7).2.1, (rw_186 p7).2.2.1, (ix_inbL (rw_186 p7).2.2.2.1 p9), rfl, rfl, rfl, rfl, rfl, p11, (rw_189 p11).1, (rw_189 p11).2.1, (rw_189 p11).2.2.1, (ix_inbL (rw_189 p11).2.2.2.1 p13), rfl, rfl, rfl, rfl, p15, rfl, rfl, p17⟩ ?_
  exact ix_sp rfl ⟨Nat.le_refl _, Nat.le_refl _, trivial, hQ _ _ _ _ h18⟩
def wp_X2_mateOf (a0 : Int32) (I : Nat → Nat → Int32) (J : Nat → Nat → Int64) (T : Option Nat) (P : Int32 → (Nat → Nat → Int32) → (Nat → Nat → Int64) → Option Nat → Prop) : Prop := ix_inb (a0) 12 = true ∧ P (I 192 (a0).toNatClampNeg) I J T
set_option maxRecDepth 20000 in
theorem tp_X2_mateOf {d : Nat} {a0 : Int32} {I : Nat → Nat → Int32} {J : Nat → Nat → Int64} {T : Option Nat} {P : Int32 → (Nat → Nat → Int32) → (Nat → Nat → Int64) → Option Nat → Prop} {Q : ix_Q} (h : wp_X2_mateOf a0 I J T P) (hQ : ∀ v I J T, P v I J T → Q (some (.inl v)) (ix_mem 276 I J T)) : ix_C (d + 1) 33 [.inr (.inr (.inl (some (181)))), .inl (a0)] (ix_mem 276 I J T) Q := by
  unfold wp_X2_mateOf at h
  refine ix_enter (ls := [some (.inr (.inr (.inl (some (181))))), some (.inl (a0))]) rfl rfl rfl (Nat.le_of_ble_eq_true rfl) ?_
  obtain ⟨p1, h2⟩ := h
  refine ix_go 4 (x' := (6, [some (.inr (.inr (.inl (some (181))))), some (.inl (a0))], [.inl (I 192 (a0).toNatClampNeg)], 0, 0, ix_mem 276 I J T)) rfl ⟨rfl, rfl, rfl, rfl, p1⟩ ?_
  exact ix_sp rfl ⟨Nat.le_refl _, Nat.le_refl _, trivial, hQ _ _ _ _ h2⟩
def wp_J9_abs_0f7a4 (a0 : Int32) (I : Nat → Nat → Int32) (J : Nat → Nat → Int64) (T : Option Nat) (P : Int32 → (Nat → Nat → Int32) → (Nat → Nat → Int64) → Option Nat → Prop) : Prop := ((a0 < 0 → P (-(a0)) I J T) ∧ (¬ (a0 < 0) → P (a0) I J T))
set_option maxRecDepth 20000 in
theorem tp_J9_abs_0f7a4 {d : Nat} {a0 : Int32} {I : Nat → Nat → Int32} {J : Nat → Nat → Int64} {T : Option Nat} {P : Int32 → (Nat → Nat → Int32) → (Nat → Nat → Int64) → Option Nat → Prop} {Q : ix_Q} (h : wp_J9_abs_0f7a4 a0 I J T P) (hQ : ∀ v I J T, P v I J T → Q (some (.inl v)) (ix_mem 276 I J T)) : ix_C (d + 1) 341 [.inl (a0)] (ix_mem 276 I J T) Q := by
  unfold wp_J9_abs_0f7a4 at h
  refine ix_enter (ls := [some (.inl (a0))]) rfl rfl rfl (Nat.le_of_ble_eq_true rfl) ?_
  refine ix_go 2 (x' := (if a0 < 0 then 4 else 9, [some (.inl (a0))], [], 0, 0, ix_mem 276 I J T)) rfl trivial ?_
  refine ix_br (fun c1 => ?_) (fun c1 => ?_)
  · have h2 := h.1 c1
    refine ix_go 3 (x' := (10, [some (.inl (a0))], [.inl (-(a0))], 0, 0, ix_mem 276 I J T)) rfl trivial ?_
    exact ix_sp rfl ⟨Nat.le_refl _, Nat.le_refl _, trivial, hQ _ _ _ _ h2⟩
  · have h2 := h.2 c1
    refine ix_go 1 (x' := (10, [some (.inl (a0))], [.inl (a0)], 0, 0, ix_mem 276 I J T)) rfl trivial ?_
    exact ix_sp rfl ⟨Nat.le_refl _, Nat.le_refl _, trivial, hQ _ _ _ _ h2⟩
