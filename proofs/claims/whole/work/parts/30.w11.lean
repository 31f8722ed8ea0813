def wp_X8_has (a0 : Int32) (I : Nat → Nat → Int32) (J : Nat → Nat → Int64) (T : Option Nat) (P : Int32 → (Nat → Nat → Int32) → (Nat → Nat → Int64) → Option Nat → Prop) : Prop := ((a0 < 0 → P ((0 : Int32)) I J T) ∧ (¬ (a0 < 0) → ((a0 < I 51 0 → P ((1 : Int32)) I J T) ∧ (¬ (a0 < I 51 0) → P ((0 : Int32)) I J T))))
set_option maxRecDepth 20000 in
theorem tp_X8_has {d : Nat} {a0 : Int32} {I : Nat → Nat → Int32} {J : Nat → Nat → Int64} {T : Option Nat} {P : Int32 → (Nat → Nat → Int32) → (Nat → Nat → Int64) → Option Nat → Prop} {Q : ix_Q} (h : wp_X8_has a0 I J T P) (hQ : ∀ v I J T, P v I J T → Q (some (.inl v)) (ix_mem 276 I J T)) : ix_C (d + 1) 131 [.inr (.inr (.inl (some (51)))), .inl (a0)] (ix_mem 276 I J T) Q := by
  unfold wp_X8_has at h
  refine ix_enter (ls := [some (.inr (.inr (.inl (some (51))))), some (.inl (a0))]) rfl rfl rfl (Nat.le_of_ble_eq_true rfl) ?_
  refine ix_go 2 (x' := (if a0 < 0 then 16 else 4, [some (.inr (.inr (.inl (some (51))))), some (.inl (a0))], [], 0, 0, ix_mem 276 I J T)) rfl trivial ?_
  refine ix_br (fun c1 => ?_) (fun c1 => ?_)
  · have h2 := h.1 c1
    refine ix_go 1 (x' := (17, [some (.inr (.inr (.inl (some (51))))), some (.inl (a0))], [.inl ((0 : Int32))], 0, 0, ix_mem 276 I J T)) rfl trivial ?_
    exact ix_sp rfl ⟨Nat.le_refl _, Nat.le_refl _, ix_01_ok rfl, hQ _ _ _ _ h2⟩
  · have h2 := h.2 c1
    refine ix_go 4 (x' := (if a0 < I 51 0 then 12 else 16, [some (.inr (.inr (.inl (some (51))))), some (.inl (a0))], [], 0, 0, ix_mem 276 I J T)) rfl ⟨rfl, rfl⟩ ?_
    refine ix_br (fun c3 => ?_) (fun c3 => ?_)
    · have h4 := h2.1 c3
      refine ix_go 2 (x' := (17, [some (.inr (.inr (.inl (some (51))))), some (.inl (a0))], [.inl ((1 : Int32))], 0, 0, ix_mem 276 I J T)) rfl trivial ?_
      exact ix_sp rfl ⟨Nat.le_refl _, Nat.le_refl _, ix_01_ok rfl, hQ _ _ _ _ h4⟩
    · have h4 := h2.2 c3
      refine ix_go 1 (x' := (17, [some (.inr (.inr (.inl (some (51))))), some (.inl (a0))], [.inl ((0 : Int32))], 0, 0, ix_mem 276 I J T)) rfl trivial ?_
      exact ix_sp rfl ⟨Nat.le_refl _, Nat.le_refl _, ix_01_ok rfl, hQ _ _ _ _ h4⟩
def wp_X8_nextFree (I : Nat → Nat → Int32) (J : Nat → Nat → Int64) (T : Option Nat) (P : Option Nat → (Nat → Nat → Int32) → (Nat → Nat → Int64) → Option Nat → Prop) : Prop := ((I 51 0 < (4 : Int32) → ix_inb (I 51 0) 4 = true ∧ ((I 51 0 = 0 → P (some 59) I J T) ∧ (I 51 0 = 1 → P (some 68) I J T) ∧ (I 51 0 = 2 → P (some 77) I J T) ∧ (I 51 0 = 3 → P (some 86) I J T))) ∧ (¬ (I 51 0 < (4 : Int32)) → P (none) I J T))
set_option maxRecDepth 20000 in
theorem tp_X8_nextFree {d : Nat} {I : Nat → Nat → Int32} {J : Nat → Nat → Int64} {T : Option Nat} {P : Option Nat → (Nat → Nat → Int32) → (Nat → Nat → Int64) → Option Nat → Prop} {Q : ix_Q} (h : wp_X8_nextFree I J T P) (hQ : ∀ v I J T, P v I J T → Q (some (.inr (.inr (.inl v)))) (ix_mem 276 I J T)) : ix_C (d + 1) 132 [.inr (.inr (.inl (some (51))))] (ix_mem 276 I J T) Q := by
  unfold wp_X8_nextFree at h
  refine ix_enter (ls := [some (.inr (.inr (.inl (some (51)))))]) rfl rfl rfl (Nat.le_of_ble_eq_true rfl) ?_
  refine ix_go 4 (x' := (if I 51 0 < (4 : Int32) then 8 else 20, [some (.inr (.inr (.inl (some (51)))))], [], 0, 0, ix_mem 276 I J T)) rfl ⟨rfl, rfl⟩ ?_
  refine ix_br (fun c1 => ?_) (fun c1 => ?_)
  · have h2 := h.1 c1
    obtain ⟨p3, h4⟩ := h2
    refine ix_go 5 (x' := (17, [some (.inr (.inr (.inl (some (51)))))], [.inr (.inr (.inl (some (ix_row 52 (I 51 0)))))], 0, 0, ix_mem 276 I J T)) rfl ⟨rfl, rfl, rfl, rfl, rfl, rfl, rfl, p3, (rw_52 p3).1⟩ ?_
    rcases ix_four p3 with e | e | e | e
    · have h5 := h4.1 e
      rw [show ix_row 52 (I 51 0) = 59 from by unfold ix_row; rw [e]; rfl]
      refine ix_go 1 (x' := (21, [some (.inr (.inr (.inl (some (51)))))], [.inr (.inr (.inl (some (59))))], 0, 0, ix_mem 276 I J T)) rfl trivial ?_
      exact ix_sp rfl ⟨Nat.le_refl _, Nat.le_refl _, rfl, hQ _ _ _ _ h5⟩
    · have h5 := h4.2.1 e
      rw [show ix_row 52 (I 51 0) = 68 from by unfold ix_row; rw [e]; rfl]
      refine ix_go 1 (x' := (21, [some (.inr (.inr (.inl (some (51)))))], [.inr (.inr (.inl (some (68))))], 0, 0, ix_mem 276 I J T)) rfl trivial ?_
      exact ix_sp rfl ⟨Nat.le_refl _, Nat.le_refl _, rfl, hQ _ _ _ _ h5⟩
    · have h5 := h4.2.2.1 e
      rw [show ix_row 52 (I 51 0) = 77 from by unfold ix_row; rw [e]; rfl]
      refine ix_go 1 (x' := (21, [some (.inr (.inr (.inl (some (51)))))], [.inr (.inr (.inl (some (77))))], 0, 0, ix_mem 276 I J T)) rfl trivial ?_
      exact ix_sp rfl ⟨Nat.le_refl _, Nat.le_refl _, rfl, hQ _ _ _ _ h5⟩
    · have h5 := h4.2.2.2 e
      rw [show ix_row 52 (I 51 0) = 86 from by unfold ix_row; rw [e]; rfl]
      refine ix_go 1 (x' := (21, [some (.inr (.inr (.inl (some (51)))))], [.inr (.inr (.inl (some (86))))], 0, 0, ix_mem 276 I J T)) rfl trivial ?_
      exact ix_sp rfl ⟨Nat.le_refl _, Nat.le_refl _, rfl, hQ _ _ _ _ h5⟩
  · have h2 := h.2 c1
    refine ix_go 1 (x' := (21, [some (.inr (.inr (.inl (some (51)))))], [.inr (.inr (.inl none))], 0, 0, ix_mem 276 I J T)) rfl trivial ?_
    exact ix_sp rfl ⟨Nat.le_refl _, Nat.le_refl _, rfl, hQ _ _ _ _ h2⟩
def wp_X8_add (a0 : Int32) (I : Nat → Nat → Int32) (J : Nat → Nat → Int64) (T : Option Nat) (P : Int32 → (Nat → Nat → Int32) → (Nat → Nat → Int64) → Option Nat → Prop) : Prop := ix_inb (I 51 0) 4 = true ∧ P ((((I 51 0) + ((1 : Int32)))) - ((1 : Int32))) (ix_u2 (ix_u2 I 53 (I 51 0).toNatClampNeg (a0)) 51 0 ((I 51 0) + ((1 : Int32)))) J T
set_option maxRecDepth 20000 in
theorem tp_X8_add {d : Nat} {a0 : Int32} {I : Nat → Nat → Int32} {J : Nat → Nat → Int64} {T : Option Nat} {P : Int32 → (Nat → Nat → Int32) → (Nat → Nat → Int64) → Option Nat → Prop} {Q : ix_Q} (h : wp_X8_add a0 I J T P) (hQ : ∀ v I J T, P v I J T → Q (some (.inl v)) (ix_mem 276 I J T)) : ix_C (d + 1) 133 [.inr (.inr (.inl (some (51)))), .inl (a0)] (ix_mem 276 I J T) Q := by
  unfold wp_X8_add at h
  refine ix_enter (ls := [some (.inr (.inr (.inl (some (51))))), some (.inl (a0))]) rfl rfl rfl (Nat.le_of_ble_eq_true rfl) ?_
  obtain ⟨p1, h2⟩ := h
  refine ix_go 16 (x' := (26, [some (.inr (.inr (.inl (some (51))))), some (.inl (a0))], [.inl ((((I 51 0) + ((1 : Int32)))) - ((1 : Int32)))], 0, 0, ix_mem 276 (ix_u2 (ix_u2 I 53 (I 51 0).toNatClampNeg (a0)) 51 0 ((I 51 0) + ((1 : Int32)))) J T)) rfl ⟨rfl, rfl, rfl, rfl, rfl, rfl, p1, rfl, rfl, rfl, rfl, rfl, rfl⟩ ?_
  exact ix_sp rfl ⟨Nat.le_refl _, Nat.le_refl _, trivial, hQ _ _ _ _ h2⟩
def wp_X8_clausesOf (a0 : Int32) (I : Nat → Nat → Int32) (J : Nat → Nat → Int64) (T : Option Nat) (P : Int32 → (Nat → Nat → Int32) → (Nat → Nat → Int64) → Option Nat → Prop) : Prop := wp_X8_has (a0) I J T (fun v1 I1 J1 T1 => ((v1 = 0 → P ((0 : Int32)) I1 J1 T1) ∧ (¬ (v1 = 0) → ix_inb (a0) 4 = true ∧ ((a0 = 0 → wp_X9_count_59 I1 J1 T1 (fun v7 I7 J7 T7 => P (v7) I7 J7 T7)) ∧ (a0 = 1 → wp_X9_count_68 I1 J1 T1 (fun v8 I8 J8 T8 => P (v8) I8 J8 T8)) ∧ (a0 = 2 → wp_X9_count_77 I1 J1 T1 (fun v9 I9 J9 T9 => P (v9) I9 J9 T9)) ∧ (a0 = 3 → wp_X9_count_86 I1 J1 T1 (fun v10 I10 J10 T10 => P (v10) I10 J10 T10))))))
set_option maxRecDepth 20000 in
theorem tp_X8_clausesOf {d : Nat} {a0 : Int32} {I : Nat → Nat → Int32} {J : Nat → Nat → Int64} {T : Option Nat} {P : Int32 → (Nat → Nat → Int32) → (Nat → Nat → Int64) → Option Nat → Prop} {Q : ix_Q} (h : wp_X8_clausesOf a0 I J T P) (hQ : ∀ v I J T, P v I J T → Q (some (.inl v)) (ix_mem 276 I J T)) : ix_C (d + 2) 134 [.inr (.inr (.inl (some (51)))), .inl (a0)] (ix_mem 276 I J T) Q := by
  unfold wp_X8_clausesOf at h
  refine ix_enter (ls := [some (.inr (.inr (.inl (some (51))))), some (.inl (a0)), none]) rfl rfl rfl (Nat.le_of_ble_eq_true rfl) ?_
  refine ix_go 2 (x' := (2, [some (.inr (.inr (.inl (some (51))))), some (.inl (a0)), none], [.inl (a0), .inr (.inr (.inl (some (51))))], 0, 0, ix_mem 276 I J T)) rfl trivial ?_
  refine ix_sp rfl ⟨rfl, ⟨ix_lt rfl, ix_eq rfl, ix_lt rfl⟩, ix_le rfl, Nat.le_refl _, Nat.le_refl _, tp_X8_has h (fun v1 I1 J1 T1 h1 => ?_)⟩
  change ix_W _ _ _ (5, [some (.inr (.inr (.inl (some (51))))), some (.inl (a0)), none], [.inl (v1)], 0, 0, ix_mem 276 I1 J1 T1)
  refine ix_go 1 (x' := (if v1 = 0 then 17 else 8, [some (.inr (.inr (.inl (some (51))))), some (.inl (a0)), none], [], 0, 0, ix_mem 276 I1 J1 T1)) rfl trivial ?_
  refine ix_br (fun c2 => ?_) (fun c2 => ?_)
  · have h3 := h1.1 c2
    refine ix_go 6 (x' := (31, [some (.inr (.inr (.inl (some (51))))), some (.inl (a0)), some (.inr (.inr (.inl none)))], [.inl ((0 : Int32))], 0, 0, ix_mem 276 I1 J1 T1)) rfl trivial ?_
    exact ix_sp rfl ⟨Nat.le_refl _, Nat.le_refl _, trivial, hQ _ _ _ _ h3⟩
  · have h3 := h1.2 c2
    obtain ⟨p4, h5⟩ := h3
    refine ix_go 4 (x' := (14, [some (.inr (.inr (.inl (some (51))))), some (.inl (a0)), none], [.inr (.inr (.inl (some (ix_row 52 (a0)))))], 0, 0, ix_mem 276 I1 J1 T1)) rfl ⟨rfl, rfl, rfl, rfl, rfl, p4, (rw_52 p4).1⟩ ?_
    rcases ix_four p4 with e | e | e | e
    · have h6 := h5.1 e
      rw [show ix_row 52 (a0) = 59 from by unfold ix_row; rw [e]; rfl]
      refine ix_go 5 (x' := (28, [some (.inr (.inr (.inl (some (51))))), some (.inl (a0)), some (.inr (.inr (.inl (some (59)))))], [.inr (.inr (.inl (some (59))))], 0, 0, ix_mem 276 I1 J1 T1)) rfl trivial ?_
      refine ix_sp rfl ⟨rfl, ⟨ix_lt rfl, ix_eq rfl, ix_lt rfl⟩, ix_le rfl, Nat.le_refl _, Nat.le_refl _, tp_X9_count_59 h6 (fun v7 I7 J7 T7 h7 => ?_)⟩
      change ix_W _ _ _ (31, [some (.inr (.inr (.inl (some (51))))), some (.inl (a0)), some (.inr (.inr (.inl (some (59)))))], [.inl (v7)], 0, 0, ix_mem 276 I7 J7 T7)
      exact ix_sp rfl ⟨Nat.le_refl _, Nat.le_refl _, trivial, hQ _ _ _ _ h7⟩
    · have h6 := h5.2.1 e
      rw [show ix_row 52 (a0) = 68 from by unfold ix_row; rw [e]; rfl]
      refine ix_go 5 (x' := (28, [some (.inr (.inr (.inl (some (51))))), some (.inl (a0)), some (.inr (.inr (.inl (some (68)))))], [.inr (.inr (.inl (some (68))))], 0, 0, ix_mem 276 I1 J1 T1)) rfl trivial ?_
      refine ix_sp rfl ⟨rfl, ⟨ix_lt rfl, ix_eq rfl, ix_lt rfl⟩, ix_le rfl, Nat.le_refl _, Nat.le_refl _, tp_X9_count_68 h6 (fun v8 I8 J8 T8 h8 => ?_)⟩
      change ix_W _ _ _ (31, [some (.inr (.inr (.inl (some (51))))), some (.inl (a0)), some (.inr (.inr (.inl (some (68)))))], [.inl (v8)], 0, 0, ix_mem 276 I8 J8 T8)
      exact ix_sp rfl ⟨Nat.le_refl _, Nat.le_refl _, trivial, hQ _ _ _ _ h8⟩
    · have h6 := h5.2.2.1 e
      rw [show ix_row 52 (a0) = 77 from by unfold ix_row; rw [e]; rfl]
      refine ix_go 5 (x' := (28, [some (.inr (.inr (.inl (some (51))))), some (.inl (a0)), some (.inr (.inr (.inl (some (77)))))], [.inr (.inr (.inl (some (77))))], 0, 0, ix_mem 276 I1 J1 T1)) rfl trivial ?_
      refine ix_sp rfl ⟨rfl, ⟨ix_lt rfl, ix_eq rfl, ix_lt rfl⟩, ix_le rfl, Nat.le_refl _, Nat.le_refl _, tp_X9_count_77 h6 (fun v9 I9 J9 T9 h9 => ?_)⟩
      change ix_W _ _ _ (31, [some (.inr (.inr (.inl (some (51))))), some (.inl (a0)), some (.inr (.inr (.inl (some (77)))))], [.inl (v9)], 0, 0, ix_mem 276 I9 J9 T9)
      exact ix_sp rfl ⟨Nat.le_refl _, Nat.le_refl _, trivial, hQ _ _ _ _ h9⟩
    · have h6 := h5.2.2.2 e
      rw [show ix_row 52 (a0) = 86 from by unfold ix_row; rw [e]; rfl]
      refine ix_go 5 (x' := (28, [some (.inr (.inr (.inl (some (51))))), some (.inl (a0)), some (.inr (.inr (.inl (some (86)))))], [.inr (.inr (.inl (some (86))))], 0, 0, ix_mem 276 I1 J1 T1)) rfl trivial ?_
      refine ix_sp rfl ⟨rfl, ⟨ix_lt rfl, ix_eq rfl, ix_lt rfl⟩, ix_le rfl, Nat.le_refl _, Nat.le_refl _, tp_X9_count_86 h6 (fun v10 I10 J10 T10 h10 => ?_)⟩
      change ix_W _ _ _ (31, [some (.inr (.inr (.inl (some (51))))), some (.inl (a0)), some (.inr (.inr (.inl (some (86)))))], [.inl (v10)], 0, 0, ix_mem 276 I10 J10 T10)
      exact ix_sp rfl ⟨Nat.le_refl _, Nat.le_refl _, trivial, hQ _ _ _ _ h10⟩
def wb_X8_holding_7 (x1 : Int32) (x2 : Int32) (x3 : Int32) (x4 : Int32) (I : Nat → Nat → Int32) (J : Nat → Nat → Int64) (T : Option Nat) (V7 : Int32 → Int32 → Int32 → Int32 → (Nat → Nat → Int32) → (Nat → Nat → Int64) → Option Nat → Prop) (P : Int32 → (Nat → Nat → Int32) → (Nat → Nat → Int64) → Option Nat → Prop) : Prop := ((x4 < I 51 0 → ix_inb (x4) 4 = true ∧ ((I 53 (x4).toNatClampNeg ≤ x1 → ix_inb (x4) 4 = true ∧ ((I 53 (x4).toNatClampNeg < x3 → V7 (x1) (x2) (x3) (x4 + (1 : Int32)) I J T) ∧ (¬ (I 53 (x4).toNatClampNeg < x3) → ix_inb (x4) 4 = true ∧ V7 (x1) (x4) (I 53 (x4).toNatClampNeg) (x4 + (1 : Int32)) I J T))) ∧ (¬ (I 53 (x4).toNatClampNeg ≤ x1) → V7 (x1) (x2) (x3) (x4 + (1 : Int32)) I J T))) ∧ (¬ (x4 < I 51 0) → P (x2) I J T))
def wl_X8_holding_7 (x1 : Int32) (x2 : Int32) (x3 : Int32) (x4 : Int32) (I : Nat → Nat → Int32) (J : Nat → Nat → Int64) (T : Option Nat) (P : Int32 → (Nat → Nat → Int32) → (Nat → Nat → Int64) → Option Nat → Prop) : Prop := ∀ V : Int32 → Int32 → Int32 → Int32 → (Nat → Nat → Int32) → (Nat → Nat → Int64) → Option Nat → Prop, (∀ (x1 : Int32) (x2 : Int32) (x3 : Int32) (x4 : Int32) (I : Nat → Nat → Int32) (J : Nat → Nat → Int64) (T : Option Nat), wb_X8_holding_7 x1 x2 x3 x4 I J T V P → V x1 x2 x3 x4 I J T) → V x1 x2 x3 x4 I J T
set_option maxRecDepth 20000 in
theorem tl_X8_holding_7 {d : Nat} {x1 : Int32} {x2 : Int32} {x3 : Int32} {x4 : Int32} {I : Nat → Nat → Int32} {J : Nat → Nat → Int64} {T : Option Nat} {P : Int32 → (Nat → Nat → Int32) → (Nat → Nat → Int64) → Option Nat → Prop} {Q : ix_Q} (h : wl_X8_holding_7 x1 x2 x3 x4 I J T P) (hQ : ∀ v I J T, P v I J T → Q (some (.inl v)) (ix_mem 276 I J T)) : ix_W (ix_C d) (8, ix_lk ix_l135, (some .int), 0, 0, Nat.blt 0 0, none) Q (7, [some (.inr (.inr (.inl (some (51))))), some (.inl (x1)), some (.inl (x2)), some (.inl (x3)), some (.inl (x4))], [], 0, 0, ix_mem 276 I J T) := by
  refine h (fun x1 x2 x3 x4 I J T => ix_W (ix_C d) (8, ix_lk ix_l135, (some .int), 0, 0, Nat.blt 0 0, none) Q (7, [some (.inr (.inr (.inl (some (51))))), some (.inl (x1)), some (.inl (x2)), some (.inl (x3)), some (.inl (x4))], [], 0, 0, ix_mem 276 I J T)) ?_
  intro x1 x2 x3 x4 I J T hb
  unfold wb_X8_holding_7 at hb
  refine ix_go 4 (x' := (if x4 < I 51 0 then 16 else 55, [some (.inr (.inr (.inl (some (51))))), some (.inl (x1)), some (.inl (x2)), some (.inl (x3)), some (.inl (x4))], [], 0, 0, ix_mem 276 I J T)) rfl ⟨rfl, rfl⟩ ?_
  refine ix_br (fun c1 => ?_) (fun c1 => ?_)
  · have h2 := hb.1 c1
    obtain ⟨p3, h4⟩ := h2
    refine ix_go 6 (x' := (if I 53 (x4).toNatClampNeg ≤ x1 then 27 else 49, [some (.inr (.inr (.inl (some (51))))), some (.inl (x1)), some (.inl (x2)), some (.inl (x3)), some (.inl (x4))], [], 0, 0, ix_mem 276 I J T)) rfl ⟨rfl, rfl, rfl, rfl, p3⟩ ?_
    refine ix_br (fun c5 => ?_) (fun c5 => ?_)
    · have h6 := h4.1 c5
      obtain ⟨p7, h8⟩ := h6
      refine ix_go 6 (x' := (if I 53 (x4).toNatClampNeg < x3 then 49 else 38, [some (.inr (.inr (.inl (some (51))))), some (.inl (x1)), some (.inl (x2)), some (.inl (x3)), some (.inl (x4))], [], 0, 0, ix_mem 276 I J T)) rfl ⟨rfl, rfl, rfl, rfl, p7⟩ ?_
      refine ix_br (fun c9 => ?_) (fun c9 => ?_)
      · have h10 := h8.1 c9
        refine ix_go 2 (x' := (7, [some (.inr (.inr (.inl (some (51))))), some (.inl (x1)), some (.inl (x2)), some (.inl (x3)), some (.inl (x4 + (1 : Int32)))], [], 0, 0, ix_mem 276 I J T)) rfl trivial ?_
        refine ix_subW ([some (.inr (.inr (.inl (some (51))))), some (.inl (x1)), some (.inl (x2)), some (.inl (x3)), some (.inl (x4 + (1 : Int32)))]) (ix_subS (ix_subS (ix_subS (ix_subS (ix_subS (ix_sub0)))))) ?_
        exact h10
      · have h10 := h8.2 c9
        obtain ⟨p11, h12⟩ := h10
        refine ix_go 9 (x' := (7, [some (.inr (.inr (.inl (some (51))))), some (.inl (x1)), some (.inl (x4)), some (.inl (I 53 (x4).toNatClampNeg)), some (.inl (x4 + (1 : Int32)))], [], 0, 0, ix_mem 276 I J T)) rfl ⟨rfl, rfl, rfl, rfl, p11⟩ ?_
        refine ix_subW ([some (.inr (.inr (.inl (some (51))))), some (.inl (x1)), some (.inl (x4)), some (.inl (I 53 (x4).toNatClampNeg)), some (.inl (x4 + (1 : Int32)))]) (ix_subS (ix_subS (ix_subS (ix_subS (ix_subS (ix_sub0)))))) ?_
        exact h12
    · have h6 := h4.2 c5
      refine ix_go 2 (x' := (7, [some (.inr (.inr (.inl (some (51))))), some (.inl (x1)), some (.inl (x2)), some (.inl (x3)), some (.inl (x4 + (1 : Int32)))], [], 0, 0, ix_mem 276 I J T)) rfl trivial ?_
      refine ix_subW ([some (.inr (.inr (.inl (some (51))))), some (.inl (x1)), some (.inl (x2)), some (.inl (x3)), some (.inl (x4 + (1 : Int32)))]) (ix_subS (ix_subS (ix_subS (ix_subS (ix_subS (ix_sub0)))))) ?_
      exact h6
  · have h2 := hb.2 c1
    refine ix_go 1 (x' := (56, [some (.inr (.inr (.inl (some (51))))), some (.inl (x1)), some (.inl (x2)), some (.inl (x3)), some (.inl (x4))], [.inl (x2)], 0, 0, ix_mem 276 I J T)) rfl trivial ?_
    exact ix_sp rfl ⟨Nat.le_refl _, Nat.le_refl _, trivial, hQ _ _ _ _ h2⟩
def wp_X8_holding (a0 : Int32) (I : Nat → Nat → Int32) (J : Nat → Nat → Int64) (T : Option Nat) (P : Int32 → (Nat → Nat → Int32) → (Nat → Nat → Int64) → Option Nat → Prop) : Prop := wl_X8_holding_7 (a0) ((-1 : Int32)) ((-1 : Int32)) ((0 : Int32)) I J T P
set_option maxRecDepth 20000 in
theorem tp_X8_holding {d : Nat} {a0 : Int32} {I : Nat → Nat → Int32} {J : Nat → Nat → Int64} {T : Option Nat} {P : Int32 → (Nat → Nat → Int32) → (Nat → Nat → Int64) → Option Nat → Prop} {Q : ix_Q} (h : wp_X8_holding a0 I J T P) (hQ : ∀ v I J T, P v I J T → Q (some (.inl v)) (ix_mem 276 I J T)) : ix_C (d + 1) 135 [.inr (.inr (.inl (some (51)))), .inl (a0)] (ix_mem 276 I J T) Q := by
  unfold wp_X8_holding at h
  refine ix_enter (ls := [some (.inr (.inr (.inl (some (51))))), some (.inl (a0)), none, none, none]) rfl rfl rfl (Nat.le_of_ble_eq_true rfl) ?_
  refine ix_go 6 (x' := (7, [some (.inr (.inr (.inl (some (51))))), some (.inl (a0)), some (.inl ((-1 : Int32))), some (.inl ((-1 : Int32))), some (.inl ((0 : Int32)))], [], 0, 0, ix_mem 276 I J T)) rfl trivial ?_
  refine ix_subW ([some (.inr (.inr (.inl (some (51))))), some (.inl (a0)), some (.inl ((-1 : Int32))), some (.inl ((-1 : Int32))), some (.inl ((0 : Int32)))]) (ix_subS (ix_subS (ix_subS (ix_subS (ix_subS (ix_sub0)))))) ?_
  exact tl_X8_holding_7 h hQ
def wp_X8_isReservesFull (I : Nat → Nat → Int32) (J : Nat → Nat → Int64) (T : Option Nat) (P : Int32 → (Nat → Nat → Int32) → (Nat → Nat → Int64) → Option Nat → Prop) : Prop := ((I 51 3 < (40 : Int32) → P ((0 : Int32)) I J T) ∧ (¬ (I 51 3 < (40 : Int32)) → P ((1 : Int32)) I J T))
set_option maxRecDepth 20000 in
theorem tp_X8_isReservesFull {d : Nat} {I : Nat → Nat → Int32} {J : Nat → Nat → Int64} {T : Option Nat} {P : Int32 → (Nat → Nat → Int32) → (Nat → Nat → Int64) → Option Nat → Prop} {Q : ix_Q} (h : wp_X8_isReservesFull I J T P) (hQ : ∀ v I J T, P v I J T → Q (some (.inl v)) (ix_mem 276 I J T)) : ix_C (d + 1) 136 [.inr (.inr (.inl (some (51))))] (ix_mem 276 I J T) Q := by
  unfold wp_X8_isReservesFull at h
  refine ix_enter (ls := [some (.inr (.inr (.inl (some (51)))))]) rfl rfl rfl (Nat.le_of_ble_eq_true rfl) ?_
  refine ix_go 4 (x' := (if I 51 3 < (40 : Int32) then 13 else 9, [some (.inr (.inr (.inl (some (51)))))], [], 0, 0, ix_mem 276 I J T)) rfl ⟨rfl, rfl⟩ ?_
  refine ix_br (fun c1 => ?_) (fun c1 => ?_)
  · have h2 := h.1 c1
    refine ix_go 1 (x' := (14, [some (.inr (.inr (.inl (some (51)))))], [.inl ((0 : Int32))], 0, 0, ix_mem 276 I J T)) rfl trivial ?_
    exact ix_sp rfl ⟨Nat.le_refl _, Nat.le_refl _, ix_01_ok rfl, hQ _ _ _ _ h2⟩
  · have h2 := h.2 c1
    refine ix_go 2 (x' := (14, [some (.inr (.inr (.inl (some (51)))))], [.inl ((1 : Int32))], 0, 0, ix_mem 276 I J T)) rfl trivial ?_
    exact ix_sp rfl ⟨Nat.le_refl _, Nat.le_refl _, ix_01_ok rfl, hQ _ _ _ _ h2⟩
def wp_X8_addReserve (a0 : Int32) (a1 : Int32) (a2 : Int32) (a3 : Int32) (a4 : Int32) (I : Nat → Nat → Int32) (J : Nat → Nat → Int64) (T : Option Nat) (P : (Nat → Nat → Int32) → (Nat → Nat → Int64) → Option Nat → Prop) : Prop := ix_inb (I 51 3) 40 = true ∧ ix_inb (I 51 3) 40 = true ∧ ix_inb (I 51 3) 40 = true ∧ ix_inb (I 51 3) 40 = true ∧ (false || (true && ix_01 (a4))) = true ∧ ix_inb (I 51 3) 40 = true ∧ P (ix_u2 (ix_u2 (ix_u2 (ix_u2 (ix_u2 (ix_u2 I 54 (I 51 3).toNatClampNeg (a0)) 55 (I 51 3).toNatClampNeg (a1)) 56 (I 51 3).toNatClampNeg (a2)) 57 (I 51 3).toNatClampNeg (a3)) 58 (I 51 3).toNatClampNeg (a4)) 51 3 ((I 51 3) + ((1 : Int32)))) J T
set_option maxRecDepth 20000 in
theorem tp_X8_addReserve {d : Nat} {a0 : Int32} {a1 : Int32} {a2 : Int32} {a3 : Int32} {a4 : Int32} {I : Nat → Nat → Int32} {J : Nat → Nat → Int64} {T : Option Nat} {P : (Nat → Nat → Int32) → (Nat → Nat → Int64) → Option Nat → Prop} {Q : ix_Q} (h : wp_X8_addReserve a0 a1 a2 a3 a4 I J T P) (hQ : ∀ I J T, P I J T → Q none (ix_mem 276 I J T)) : ix_C (d + 1) 137 [.inr (.inr (.inl (some (51)))), .inl (a0), .inl (a1), .inl (a2), .inl (a3), .inl (a4)] (ix_mem 276 I J T) Q := by
  unfold wp_X8_addReserve at h
  refine ix_enter (ls := [some (.inr (.inr (.inl (some (51))))), some (.inl (a0)), some (.inl (a1)), some (.inl (a2)), some (.inl (a3)), some (.inl (a4))]) rfl rfl rfl (Nat.le_of_ble_eq_true rfl) ?_
  obtain ⟨p1, h2⟩ := h
  obtain ⟨p3, h4⟩ := h2
  obtain ⟨p5, h6⟩ := h4
  obtain ⟨p7, h8⟩ := h6
  obtain ⟨p9, h10⟩ := h8
  obtain ⟨p11, h12⟩ := h10
  refine ix_go 36 (x' := (62, [some (.inr (.inr (.inl (some (51))))), some (.inl (a0)), some (.inl (a1)), some (.inl (a2)), some (.inl (a3)), some (.inl (a4))], [], 0, 0, ix_mem 276 (ix_u2 (ix_u2 (ix_u2 (ix_u2 (ix_u2 (ix_u2 I 54 (I 51 3).toNatClampNeg (a0)) 55 (I 51 3).toNatClampNeg (a1)) 56 (I 51 3).toNatClampNeg (a2)) 57 (I 51 3).toNatClampNeg (a3)) 58 (I 51 3).toNatClampNeg (a4)) 51 3 ((I 51 3) + ((1 : Int32)))) J T)) rfl ⟨rfl, rfl, rfl, rfl, rfl, rfl, p1, rfl, rfl, rfl, rfl, rfl, rfl, p3, rfl, rfl, rfl, rfl, rfl, rfl, p5, rfl, rfl, rfl, rfl, rfl, rfl, p7, rfl, rfl, rfl, rfl, rfl, p9, p11, rfl, rfl, rfl, rfl⟩ ?_
  exact ix_sp rfl ⟨Nat.le_refl _, Nat.le_refl _, rfl, hQ _ _ _ h12⟩
def wb_X8_isOutOf_9 (x1 : Int32) (x2 : Int32) (x3 : Int32) (x4 : Int32) (x5 : Int32) (x6 : Int32) (x7 : Int32) (I : Nat → Nat → Int32) (J : Nat → Nat → Int64) (T : Option Nat) (V9 : Int32 → Int32 → Int32 → Int32 → Int32 → Int32 → Int32 → (Nat → Nat → Int32) → (Nat → Nat → Int64) → Option Nat → Prop) (P : Int32 → (Nat → Nat → Int32) → (Nat → Nat → Int64) → Option Nat → Prop) : Prop := ((x7 < I 51 3 → ix_inb (x7) 40 = true ∧ ((I 54 (x7).toNatClampNeg = x1 → ix_inb (x7) 40 = true ∧ ((I 55 (x7).toNatClampNeg = x2 → ix_inb (x7) 40 = true ∧ ((I 56 (x7).toNatClampNeg = x3 → ix_inb (x7) 40 = true ∧ ((I 57 (x7).toNatClampNeg ≤ x4 → ix_inb (x7) 40 = true ∧ ((I 57 (x7).toNatClampNeg < x6 → V9 (x1) (x2) (x3) (x4) (x5) (x6) (x7 + (1 : Int32)) I J T) ∧ (¬ (I 57 (x7).toNatClampNeg < x6) → ix_inb (x7) 40 = true ∧ ix_inb (x7) 40 = true ∧ V9 (x1) (x2) (x3) (x4) (I 58 (x7).toNatClampNeg) (I 57 (x7).toNatClampNeg) (x7 + (1 : Int32)) I J T))) ∧ (¬ (I 57 (x7).toNatClampNeg ≤ x4) → V9 (x1) (x2) (x3) (x4) (x5) (x6) (x7 + (1 : Int32)) I J T))) ∧ (¬ (I 56 (x7).toNatClampNeg = x3) → V9 (x1) (x2) (x3) (x4) (x5) (x6) (x7 + (1 : Int32)) I J T))) ∧ (¬ (I 55 (x7).toNatClampNeg = x2) → V9 (x1) (x2) (x3) (x4) (x5) (x6) (x7 + (1 : Int32)) I J T))) ∧ (¬ (I 54 (x7).toNatClampNeg = x1) → V9 (x1) (x2) (x3) (x4) (x5) (x6) (x7 + (1 : Int32)) I J T))) ∧ (¬ (x7 < I 51 3) → ix_01 (x5) = true ∧ P (x5) I J T))
def wl_X8_isOutOf_9 (x1 : Int32) (x2 : Int32) (x3 : Int32) (x4 : Int32) (x5 : Int32) (x6 : Int32) (x7 : Int32) (I : Nat → Nat → Int32) (J : Nat → Nat → Int64) (T : Option Nat) (P : Int32 → (Nat → Nat → Int32) → (Nat → Nat → Int64) → Option Nat → Prop) : Prop := ∀ V : Int32 → Int32 → Int32 → Int32 → Int32 → Int32 → Int32 → (Nat → Nat → Int32) → (Nat → Nat → Int64) → Option Nat → Prop, (∀ (x1 : Int32) (x2 : Int32) (x3 : Int32) (x4 : Int32) (x5 : Int32) (x6 : Int32) (x7 : Int32) (I : Nat → Nat → Int32) (J : Nat → Nat → Int64) (T : Option Nat), wb_X8_isOutOf_9 x1 x2 x3 x4 x5 x6 x7 I J T V P → V x1 x2 x3 x4 x5 x6 x7 I J T) → V x1 x2 x3 x4 x5 x6 x7 I J T
set_option maxRecDepth 20000 in
theorem tl_X8_isOutOf_9 {d : Nat} {x1 : Int32} {x2 : Int32} {x3 : Int32} {x4 : Int32} {x5 : Int32} {x6 : Int32} {x7 : Int32} {I : Nat → Nat → Int32} {J : Nat → Nat → Int64} {T : Option Nat} {P : Int32 → (Nat → Nat → Int32) → (Nat → Nat → Int64) → Option Nat → Prop} {Q : ix_Q} (h : wl_X8_isOutOf_9 x1 x2 x3 x4 x5 x6 x7 I J T P) (hQ : ∀ v I J T, P v I J T → Q (some (.inl v)) (ix_mem 276 I J T)) : ix_W (ix_C d) (8, ix_lk ix_l138, (some .boolean), 0, 0, Nat.blt 0 0, none) Q (9, [some (.inr (.inr (.inl (some (51))))), some (.inl (x1)), some (.inl (x2)), some (.inl (x3)), some (.inl (x4)), some (.inl (x5)), some (.inl (x6)), some (.inl (x7)), none], [], 0, 0, ix_mem 276 I J T) := by
  refine h (fun x1 x2 x3 x4 x5 x6 x7 I J T => ix_W (ix_C d) (8, ix_lk ix_l138, (some .boolean), 0, 0, Nat.blt 0 0, none) Q (9, [some (.inr (.inr (.inl (some (51))))), some (.inl (x1)), some (.inl (x2)), some (.inl (x3)), some (.inl (x4)), some (.inl (x5)), some (.inl (x6)), some (.inl (x7)), none], [], 0, 0, ix_mem 276 I J T)) ?_
  intro x1 x2 x3 x4 x5 x6 x7 I J T hb
  unfold wb_X8_isOutOf_9 at hb
  refine ix_go 4 (x' := (if x7 < I 51 3 then 18 else 111, [some (.inr (.inr (.inl (some (51))))), some (.inl (x1)), some (.inl (x2)), some (.inl (x3)), some (.inl (x4)), some (.inl (x5)), some (.inl (x6)), some (.inl (x7)), none], [], 0, 0, ix_mem 276 I J T)) rfl ⟨rfl, rfl⟩ ?_
  refine ix_br (fun c1 => ?_) (fun c1 => ?_)
  · have h2 := hb.1 c1
    obtain ⟨p3, h4⟩ := h2
    refine ix_go 6 (x' := (if I 54 (x7).toNatClampNeg = x1 then 29 else 55, [some (.inr (.inr (.inl (some (51))))), some (.inl (x1)), some (.inl (x2)), some (.inl (x3)), some (.inl (x4)), some (.inl (x5)), some (.inl (x6)), some (.inl (x7)), none], [], 0, 0, ix_mem 276 I J T)) rfl ⟨rfl, rfl, rfl, rfl, p3⟩ ?_
    refine ix_br (fun c5 => ?_) (fun c5 => ?_)
    · have h6 := h4.1 c5
      obtain ⟨p7, h8⟩ := h6
      refine ix_go 6 (x' := (if I 55 (x7).toNatClampNeg = x2 then 40 else 55, [some (.inr (.inr (.inl (some (51))))), some (.inl (x1)), some (.inl (x2)), some (.inl (x3)), some (.inl (x4)), some (.inl (x5)), some (.inl (x6)), some (.inl (x7)), none], [], 0, 0, ix_mem 276 I J T)) rfl ⟨rfl, rfl, rfl, rfl, p7⟩ ?_
      refine ix_br (fun c9 => ?_) (fun c9 => ?_)
      · have h10 := h8.1 c9
        obtain ⟨p11, h12⟩ := h10
        refine ix_go 6 (x' := (if I 56 (x7).toNatClampNeg = x3 then 51 else 55, [some (.inr (.inr (.inl (some (51))))), some (.inl (x1)), some (.inl (x2)), some (.inl (x3)), some (.inl (x4)), some (.inl (x5)), some (.inl (x6)), some (.inl (x7)), none], [], 0, 0, ix_mem 276 I J T)) rfl ⟨rfl, rfl, rfl, rfl, p11⟩ ?_
        refine ix_br (fun c13 => ?_) (fun c13 => ?_)
        · have h14 := h12.1 c13
          obtain ⟨p15, h16⟩ := h14
          refine ix_go 11 (x' := (if I 57 (x7).toNatClampNeg ≤ x4 then 75 else 105, [some (.inr (.inr (.inl (some (51))))), some (.inl (x1)), some (.inl (x2)), some (.inl (x3)), some (.inl (x4)), some (.inl (x5)), some (.inl (x6)), some (.inl (x7)), some (.inl ((1 : Int32)))], [], 0, 0, ix_mem 276 I J T)) rfl ⟨rfl, rfl, rfl, rfl, p15⟩ ?_
          refine ix_br (fun c17 => ?_) (fun c17 => ?_)
          · have h18 := h16.1 c17
            obtain ⟨p19, h20⟩ := h18
            refine ix_go 6 (x' := (if I 57 (x7).toNatClampNeg < x6 then 105 else 87, [some (.inr (.inr (.inl (some (51))))), some (.inl (x1)), some (.inl (x2)), some (.inl (x3)), some (.inl (x4)), some (.inl (x5)), some (.inl (x6)), some (.inl (x7)), some (.inl ((1 : Int32)))], [], 0, 0, ix_mem 276 I J T)) rfl ⟨rfl, rfl, rfl, rfl, p19⟩ ?_
            refine ix_br (fun c21 => ?_) (fun c21 => ?_)
            · have h22 := h20.1 c21
              refine ix_go 2 (x' := (9, [some (.inr (.inr (.inl (some (51))))), some (.inl (x1)), some (.inl (x2)), some (.inl (x3)), some (.inl (x4)), some (.inl (x5)), some (.inl (x6)), some (.inl (x7 + (1 : Int32))), some (.inl ((1 : Int32)))], [], 0, 0, ix_mem 276 I J T)) rfl trivial ?_
              refine ix_subW ([some (.inr (.inr (.inl (some (51))))), some (.inl (x1)), some (.inl (x2)), some (.inl (x3)), some (.inl (x4)), some (.inl (x5)), some (.inl (x6)), some (.inl (x7 + (1 : Int32))), none]) (ix_subS (ix_subS (ix_subS (ix_subS (ix_subS (ix_subS (ix_subS (ix_subS (ix_subN (ix_sub0)))))))))) ?_
              exact h22
            · have h22 := h20.2 c21
              obtain ⟨p23, h24⟩ := h22
              obtain ⟨p25, h26⟩ := h24
              refine ix_go 12 (x' := (9, [some (.inr (.inr (.inl (some (51))))), some (.inl (x1)), some (.inl (x2)), some (.inl (x3)), some (.inl (x4)), some (.inl (I 58 (x7).toNatClampNeg)), some (.inl (I 57 (x7).toNatClampNeg)), some (.inl (x7 + (1 : Int32))), some (.inl ((1 : Int32)))], [], 0, 0, ix_mem 276 I J T)) rfl ⟨rfl, rfl, rfl, rfl, p23, rfl, rfl, rfl, rfl, p25⟩ ?_
              refine ix_subW ([some (.inr (.inr (.inl (some (51))))), some (.inl (x1)), some (.inl (x2)), some (.inl (x3)), some (.inl (x4)), some (.inl (I 58 (x7).toNatClampNeg)), some (.inl (I 57 (x7).toNatClampNeg)), some (.inl (x7 + (1 : Int32))), none]) (ix_subS (ix_subS (ix_subS (ix_subS (ix_subS (ix_subS (ix_subS (ix_subS (ix_subN (ix_sub0)))))))))) ?_
              exact h26
          · have h18 := h16.2 c17
            refine ix_go 2 (x' := (9, [some (.inr (.inr (.inl (some (51))))), some (.inl (x1)), some (.inl (x2)), some (.inl (x3)), some (.inl (x4)), some (.inl (x5)), some (.inl (x6)), some (.inl (x7 + (1 : Int32))), some (.inl ((1 : Int32)))], [], 0, 0, ix_mem 276 I J T)) rfl trivial ?_
            refine ix_subW ([some (.inr (.inr (.inl (some (51))))), some (.inl (x1)), some (.inl (x2)), some (.inl (x3)), some (.inl (x4)), some (.inl (x5)), some (.inl (x6)), some (.inl (x7 + (1 : Int32))), none]) (ix_subS (ix_subS (ix_subS (ix_subS (ix_subS (ix_subS (ix_subS (ix_subS (ix_subN (ix_sub0)))))))))) ?_
            exact h18
        · have h14 := h12.2 c13
          refine ix_go 6 (x' := (9, [some (.inr (.inr (.inl (some (51))))), some (.inl (x1)), some (.inl (x2)), some (.inl (x3)), some (.inl (x4)), some (.inl (x5)), some (.inl (x6)), some (.inl (x7 + (1 : Int32))), some (.inl ((0 : Int32)))], [], 0, 0, ix_mem 276 I J T)) rfl trivial ?_
          refine ix_subW ([some (.inr (.inr (.inl (some (51))))), some (.inl (x1)), some (.inl (x2)), some (.inl (x3)), some (.inl (x4)), some (.inl (x5)), some (.inl (x6)), some (.inl (x7 + (1 : Int32))), none]) (ix_subS (ix_subS (ix_subS (ix_subS (ix_subS (ix_subS (ix_subS (ix_subS (ix_subN (ix_sub0)))))))))) ?_
          exact h14
      · have h10 := h8.2 c9
        refine ix_go 6 (x' := (9, [some (.inr (.inr (.inl (some (51))))), some (.inl (x1)), some (.inl (x2)), some (.inl (x3)), some (.inl (x4)), some (.inl (x5)), some (.inl (x6)), some (.inl (x7 + (1 : Int32))), some (.inl ((0 : Int32)))], [], 0, 0, ix_mem 276 I J T)) rfl trivial ?_
        refine ix_subW ([some (.inr (.inr (.inl (some (51))))), some (.inl (x1)), some (.inl (x2)), some (.inl (x3)), some (.inl (x4)), some (.inl (x5)), some (.inl (x6)), some (.inl (x7 + (1 : Int32))), none]) (ix_subS (ix_subS (ix_subS (ix_subS (ix_subS (ix_subS (ix_subS (ix_subS (ix_subN (ix_sub0)))))))))) ?_
        exact h10
    · have h6 := h4.2 c5
      refine ix_go 6 (x' := (9, [some (.inr (.inr (.inl (some (51))))), some (.inl (x1)), some (.inl (x2)), some (.inl (x3)), some (.inl (x4)), some (.inl (x5)), some (.inl (x6)), some (.inl (x7 + (1 : Int32))), some (.inl ((0 : Int32)))], [], 0, 0, ix_mem 276 I J T)) rfl trivial ?_
      refine ix_subW ([some (.inr (.inr (.inl (some (51))))), some (.inl (x1)), some (.inl (x2)), some (.inl (x3)), some (.inl (x4)), some (.inl (x5)), some (.inl (x6)), some (.inl (x7 + (1 : Int32))), none]) (ix_subS (ix_subS (ix_subS (ix_subS (ix_subS (ix_subS (ix_subS (ix_subS (ix_subN (ix_sub0)))))))))) ?_
      exact h6
  · have h2 := hb.2 c1
    refine ix_go 1 (x' := (113, [some (.inr (.inr (.inl (some (51))))), some (.inl (x1)), some (.inl (x2)), some (.inl (x3)), some (.inl (x4)), some (.inl (x5)), some (.inl (x6)), some (.inl (x7)), none], [.inl (x5)], 0, 0, ix_mem 276 I J T)) rfl trivial ?_
    exact ix_sp rfl ⟨Nat.le_refl _, Nat.le_refl _, ix_01_ok h2.1, hQ _ _ _ _ h2.2⟩
def wp_X8_isOutOf (a0 : Int32) (a1 : Int32) (a2 : Int32) (a3 : Int32) (I : Nat → Nat → Int32) (J : Nat → Nat → Int64) (T : Option Nat) (P : Int32 → (Nat → Nat → Int32) → (Nat → Nat → Int64) → Option Nat → Prop) : Prop := wl_X8_isOutOf_9 (a0) (a1) (a2) (a3) ((0 : Int32)) ((-1 : Int32)) ((0 : Int32)) I J T P
set_option maxRecDepth 20000 in
theorem tp_X8_isOutOf {d : Nat} {a0 : Int32} {a1 : Int32} {a2 : Int32} {a3 : Int32} {I : Nat → Nat → Int32} {J : Nat → Nat → Int64} {T : Option Nat} {P : Int32 → (Nat → Nat → Int32) → (Nat → Nat → Int64) → Option Nat → Prop} {Q : ix_Q} (h : wp_X8_isOutOf a0 a1 a2 a3 I J T P) (hQ : ∀ v I J T, P v I J T → Q (some (.inl v)) (ix_mem 276 I J T)) : ix_C (d + 1) 138 [.inr (.inr (.inl (some (51)))), .inl (a0), .inl (a1), .inl (a2), .inl (a3)] (ix_mem 276 I J T) Q := by
  unfold wp_X8_isOutOf at h
  refine ix_enter (ls := [some (.inr (.inr (.inl (some (51))))), some (.inl (a0)), some (.inl (a1)), some (.inl (a2)), some (.inl (a3)), none, none, none, none]) rfl rfl rfl (Nat.le_of_ble_eq_true rfl) ?_
  refine ix_go 6 (x' := (9, [some (.inr (.inr (.inl (some (51))))), some (.inl (a0)), some (.inl (a1)), some (.inl (a2)), some (.inl (a3)), some (.inl ((0 : Int32))), some (.inl ((-1 : Int32))), some (.inl ((0 : Int32))), none], [], 0, 0, ix_mem 276 I J T)) rfl trivial ?_
  refine ix_subW ([some (.inr (.inr (.inl (some (51))))), some (.inl (a0)), some (.inl (a1)), some (.inl (a2)), some (.inl (a3)), some (.inl ((0 : Int32))), some (.inl ((-1 : Int32))), some (.inl ((0 : Int32))), none]) (ix_subS (ix_subS (ix_subS (ix_subS (ix_subS (ix_subS (ix_subS (ix_subS (ix_subS (ix_sub0)))))))))) ?_
  exact tl_X8_isOutOf_9 h hQ
def wp_X9_serves_59 (a0 : Int32) (a1 : Int32) (a2 : Int32) (a3 : Int32) (I : Nat → Nat → Int32) (J : Nat → Nat → Int64) (T : Option Nat) (P : Int32 → (Nat → Nat → Int32) → (Nat → Nat → Int64) → Option Nat → Prop) : Prop := ix_inb (a0) 12 = true ∧ ((I 60 (a0).toNatClampNeg = a1 → ix_inb (a0) 12 = true ∧ ((I 61 (a0).toNatClampNeg = 0 → ix_inb (a0) 12 = true ∧ ((I 62 (a0).toNatClampNeg = 0 → P ((1 : Int32)) I J T) ∧ (¬ (I 62 (a0).toNatClampNeg = 0) → ix_inb (a0) 12 = true ∧ ((((I 62 (a0).toNatClampNeg) >>> ((a3) &&& 31)) &&& ((1 : Int32)) = 0 → P ((0 : Int32)) I J T) ∧ (¬ (((I 62 (a0).toNatClampNeg) >>> ((a3) &&& 31)) &&& ((1 : Int32)) = 0) → P ((1 : Int32)) I J T))))) ∧ (¬ (I 61 (a0).toNatClampNeg = 0) → ix_inb (a0) 12 = true ∧ ((((I 61 (a0).toNatClampNeg) >>> ((a2) &&& 31)) &&& ((1 : Int32)) = 0 → P ((0 : Int32)) I J T) ∧ (¬ (((I 61 (a0).toNatClampNeg) >>> ((a2) &&& 31)) &&& ((1 : Int32)) = 0) → ix_inb (a0) 12 = true ∧ ((I 62 (a0).toNatClampNeg = 0 → P ((1 : Int32)) I J T) ∧ (¬ (I 62 (a0).toNatClampNeg = 0) → ix_inb (a0) 12 = true ∧ ((((I 62 (a0).toNatClampNeg) >>> ((a3) &&& 31)) &&& ((1 : Int32)) = 0 → P ((0 : Int32)) I J T) ∧ (¬ (((I 62 (a0).toNatClampNeg) >>> ((a3) &&& 31)) &&& ((1 : Int32)) = 0) → P ((1 : Int32)) I J T))))))))) ∧ (¬ (I 60 (a0).toNatClampNeg = a1) → P ((0 : Int32)) I J T))
set_option maxRecDepth 20000 in
theorem tp_X9_serves_59 {d : Nat} {a0 : Int32} {a1 : Int32} {a2 : Int32} {a3 : Int32} {I : Nat → Nat → Int32} {J : Nat → Nat → Int64} {T : Option Nat} {P : Int32 → (Nat → Nat → Int32) → (Nat → Nat → Int64) → Option Nat → Prop} {Q : ix_Q} (h : wp_X9_serves_59 a0 a1 a2 a3 I J T P) (hQ : ∀ v I J T, P v I J T → Q (some (.inl v)) (ix_mem 276 I J T)) : ix_C (d + 1) 139 [.inr (.inr (.inl (some (59)))), .inl (a0), .inl (a1), .inl (a2), .inl (a3)] (ix_mem 276 I J T) Q := by
  unfold wp_X9_serves_59 at h
  refine ix_enter (ls := [some (.inr (.inr (.inl (some (59))))), some (.inl (a0)), some (.inl (a1)), some (.inl (a2)), some (.inl (a3))]) rfl rfl rfl (Nat.le_of_ble_eq_true rfl) ?_
  obtain ⟨p1, h2⟩ := h
  refine ix_go 6 (x' := (if I 60 (a0).toNatClampNeg = a1 then 10 else 59, [some (.inr (.inr (.inl (some (59))))), some (.inl (a0)), some (.inl (a1)), some (.inl (a2)), some (.inl (a3))], [], 0, 0, ix_mem 276 I J T)) rfl ⟨rfl, rfl, rfl, rfl, p1⟩ ?_
  refine ix_br (fun c3 => ?_) (fun c3 => ?_)
  · have h4 := h2.1 c3
    obtain ⟨p5, h6⟩ := h4
    refine ix_go 5 (x' := (if I 61 (a0).toNatClampNeg = 0 then 32 else 19, [some (.inr (.inr (.inl (some (59))))), some (.inl (a0)), some (.inl (a1)), some (.inl (a2)), some (.inl (a3))], [], 0, 0, ix_mem 276 I J T)) rfl ⟨rfl, rfl, rfl, rfl, p5⟩ ?_
    refine ix_br (fun c7 => ?_) (fun c7 => ?_)
    · have h8 := h6.1 c7
      obtain ⟨p9, h10⟩ := h8
      refine ix_go 5 (x' := (if I 62 (a0).toNatClampNeg = 0 then 55 else 41, [some (.inr (.inr (.inl (some (59))))), some (.inl (a0)), some (.inl (a1)), some (.inl (a2)), some (.inl (a3))], [], 0, 0, ix_mem 276 I J T)) rfl ⟨rfl, rfl, rfl, rfl, p9⟩ ?_
      refine ix_br (fun c11 => ?_) (fun c11 => ?_)
      · have h12 := h10.1 c11
        refine ix_go 2 (x' := (60, [some (.inr (.inr (.inl (some (59))))), some (.inl (a0)), some (.inl (a1)), some (.inl (a2)), some (.inl (a3))], [.inl ((1 : Int32))], 0, 0, ix_mem 276 I J T)) rfl trivial ?_
        exact ix_sp rfl ⟨Nat.le_refl _, Nat.le_refl _, ix_01_ok rfl, hQ _ _ _ _ h12⟩
      · have h12 := h10.2 c11
        obtain ⟨p13, h14⟩ := h12
        refine ix_go 9 (x' := (if ((I 62 (a0).toNatClampNeg) >>> ((a3) &&& 31)) &&& ((1 : Int32)) = 0 then 59 else 55, [some (.inr (.inr (.inl (some (59))))), some (.inl (a0)), some (.inl (a1)), some (.inl (a2)), some (.inl (a3))], [], 0, 0, ix_mem 276 I J T)) rfl ⟨rfl, rfl, rfl, rfl, p13⟩ ?_
        refine ix_br (fun c15 => ?_) (fun c15 => ?_)
        · have h16 := h14.1 c15
          refine ix_go 1 (x' := (60, [some (.inr (.inr (.inl (some (59))))), some (.inl (a0)), some (.inl (a1)), some (.inl (a2)), some (.inl (a3))], [.inl ((0 : Int32))], 0, 0, ix_mem 276 I J T)) rfl trivial ?_
          exact ix_sp rfl ⟨Nat.le_refl _, Nat.le_refl _, ix_01_ok rfl, hQ _ _ _ _ h16⟩
        · have h16 := h14.2 c15
          refine ix_go 2 (x' := (60, [some (.inr (.inr (.inl (some (59))))), some (.inl (a0)), some (.inl (a1)), some (.inl (a2)), some (.inl (a3))], [.inl ((1 : Int32))], 0, 0, ix_mem 276 I J T)) rfl trivial ?_
          exact ix_sp rfl ⟨Nat.le_refl _, Nat.le_refl _, ix_01_ok rfl, hQ _ _ _ _ h16⟩
    · have h8 := h6.2 c7
      obtain ⟨p17, h18⟩ := h8
      refine ix_go 9 (x' := (if ((I 61 (a0).toNatClampNeg) >>> ((a2) &&& 31)) &&& ((1 : Int32)) = 0 then 59 else 32, [some (.inr (.inr (.inl (some (59))))), some (.inl (a0)), some (.inl (a1)), some (.inl (a2)), some (.inl (a3))], [], 0, 0, ix_mem 276 I J T)) rfl ⟨rfl, rfl, rfl, rfl, p17⟩ ?_
      refine ix_br (fun c19 => ?_) (fun c19 => ?_)
      · have h20 := h18.1 c19
        refine ix_go 1 (x' := (60, [some (.inr (.inr (.inl (some (59))))), some (.inl (a0)), some (.inl (a1)), some (.inl (a2)), some (.inl (a3))], [.inl ((0 : Int32))], 0, 0, ix_mem 276 I J T)) rfl trivial ?_
        exact ix_sp rfl ⟨Nat.le_refl _, Nat.le_refl _, ix_01_ok rfl, hQ _ _ _ _ h20⟩
      · have h20 := h18.2 c19
        obtain ⟨p21, h22⟩ := h20
        refine ix_go 5 (x' := (if I 62 (a0).toNatClampNeg = 0 then 55 else 41, [some (.inr (.inr (.inl (some (59))))), some (.inl (a0)), some (.inl (a1)), some (.inl (a2)), some (.inl (a3))], [], 0, 0, ix_mem 276 I J T)) rfl ⟨rfl, rfl, rfl, rfl, p21⟩ ?_
        refine ix_br (fun c23 => ?_) (fun c23 => ?_)
        · have h24 := h22.1 c23
          refine ix_go 2 (x' := (60, [some (.inr (.inr (.inl (some (59))))), some (.inl (a0)), some (.inl (a1)), some (.inl (a2)), some (.inl (a3))], [.inl ((1 : Int32))], 0, 0, ix_mem 276 I J T)) rfl trivial ?_
          exact ix_sp rfl ⟨Nat.le_refl _, Nat.le_refl _, ix_01_ok rfl, hQ _ _ _ _ h24⟩
        · have h24 := h22.2 c23
          obtain ⟨p25, h26⟩ := h24
          refine ix_go 9 (x' := (if ((I 62 (a0).toNatClampNeg) >>> ((a3) &&& 31)) &&& ((1 : Int32)) = 0 then 59 else 55, [some (.inr (.inr (.inl (some (59))))), some (.inl (a0)), some (.inl (a1)), some (.inl (a2)), some (.inl (a3))], [], 0, 0, ix_mem 276 I J T)) rfl ⟨rfl, rfl, rfl, rfl, p25⟩ ?_
          refine ix_br (fun c27 => ?_) (fun c27 => ?_)
          · have h28 := h26.1 c27
            refine ix_go 1 (x' := (60, [some (.inr (.inr (.inl (some (59))))), some (.inl (a0)), some (.inl (a1)), some (.inl (a2)), some (.inl (a3))], [.inl ((0 : Int32))], 0, 0, ix_mem 276 I J T)) rfl trivial ?_
            exact ix_sp rfl ⟨Nat.le_refl _, Nat.le_refl _, ix_01_ok rfl, hQ _ _ _ _ h28⟩
          · have h28 := h26.2 c27
            refine ix_go 2 (x' := (60, [some (.inr (.inr (.inl (some (59))))), some (.inl (a0)), some (.inl (a1)), some (.inl (a2)), some (.inl (a3))], [.inl ((1 : Int32))], 0, 0, ix_mem 276 I J T)) rfl trivial ?_
            exact ix_sp rfl ⟨Nat.le_refl _, Nat.le_refl _, ix_01_ok rfl, hQ _ _ _ _ h28⟩
  · have h4 := h2.2 c3
    refine ix_go 1 (x' := (60, [some (.inr (.inr (.inl (some (59))))), some (.inl (a0)), some (.inl (a1)), some (.inl (a2)), some (.inl (a3))], [.inl ((0 : Int32))], 0, 0, ix_mem 276 I J T)) rfl trivial ?_
    exact ix_sp rfl ⟨Nat.le_refl _, Nat.le_refl _, ix_01_ok rfl, hQ _ _ _ _ h4⟩
def wp_X9_serves_68 (a0 : Int32) (a1 : Int32) (a2 : Int32) (a3 : Int32) (I : Nat → Nat → Int32) (J : Nat → Nat → Int64) (T : Option Nat) (P : Int32 → (Nat → Nat → Int32) → (Nat → Nat → Int64) → Option Nat → Prop) : Prop := ix_inb (a0) 12 = true ∧ ((I 69 (a0).toNatClampNeg = a1 → ix_inb (a0) 12 = true ∧ ((I 70 (a0).toNatClampNeg = 0 → ix_inb (a0) 12 = true ∧ ((I 71 (a0).toNatClampNeg = 0 → P ((1 : Int32)) I J T) ∧ (¬ (I 71 (a0).toNatClampNeg = 0) → ix_inb (a0) 12 = true ∧ ((((I 71 (a0).toNatClampNeg) >>> ((a3) &&& 31)) &&& ((1 : Int32)) = 0 → P ((0 : Int32)) I J T) ∧ (¬ (((I 71 (a0).toNatClampNeg) >>> ((a3) &&& 31)) &&& ((1 : Int32)) = 0) → P ((1 : Int32)) I J T))))) ∧ (¬ (I 70 (a0).toNatClampNeg = 0) → ix_inb (a0) 12 = true ∧ ((((I 70 (a0).toNatClampNeg) >>> ((a2) &&& 31)) &&& ((1 : Int32)) = 0 → P ((0 : Int32)) I J T) ∧ (¬ (((I 70 (a0).toNatClampNeg) >>> ((a2) &&& 31)) &&& ((1 : Int32)) = 0) → ix_inb (a0) 12 = true ∧ ((I 71 (a0).toNatClampNeg = 0 → P ((1 : Int32)) I J T) ∧ (¬ (I 71 (a0).toNatClampNeg = 0) → ix_inb (a0) 12 = true ∧ ((((I 71 (a0).toNatClampNeg) >>> ((a3) &&& 31)) &&& ((1 : Int32)) = 0 → P ((0 : Int32)) I J T) ∧ (¬ (((I 71 (a0).toNatClampNeg) >>> ((a3) &&& 31)) &&& ((1 : Int32)) = 0) → P ((1 : Int32)) I J T))))))))) ∧ (¬ (I 69 (a0).toNatClampNeg = a1) → P ((0 : Int32)) I J T))
set_option maxRecDepth 20000 in
theorem tp_X9_serves_68 {d : Nat} {a0 : Int32} {a1 : Int32} {a2 : Int32} {a3 : Int32} {I : Nat → Nat → Int32} {J : Nat → Nat → Int64} {T : Option Nat} {P : Int32 → (Nat → Nat → Int32) → (Nat → Nat → Int64) → Option Nat → Prop} {Q : ix_Q} (h : wp_X9_serves_68 a0 a1 a2 a3 I J T P) (hQ : ∀ v I J T, P v I J T → Q (some (.inl v)) (ix_mem 276 I J T)) : ix_C (d + 1) 139 [.inr (.inr (.inl (some (68)))), .inl (a0), .inl (a1), .inl (a2), .inl (a3)] (ix_mem 276 I J T) Q := by
  unfold wp_X9_serves_68 at h
  refine ix_enter (ls := [some (.inr (.inr (.inl (some (68))))), some (.inl (a0)), some (.inl (a1)), some (.inl (a2)), some (.inl (a3))]) rfl rfl rfl (Nat.le_of_ble_eq_true rfl) ?_
  obtain ⟨p1, h2⟩ := h
  refine ix_go 6 (x' := (if I 69 (a0).toNatClampNeg = a1 then 10 else 59, [some (.inr (.inr (.inl (some (68))))), some (.inl (a0)), some (.inl (a1)), some (.inl (a2)), some (.inl (a3))], [], 0, 0, ix_mem 276 I J T)) rfl ⟨rfl, rfl, rfl, rfl, p1⟩ ?_
  refine ix_br (fun c3 => ?_) (fun c3 => ?_)
  · have h4 := h2.1 c3
    obtain ⟨p5, h6⟩ := h4
    refine ix_go 5 (x' := (if I 70 (a0).toNatClampNeg = 0 then 32 else 19, [some (.inr (.inr (.inl (some (68))))), some (.inl (a0)), some (.inl (a1)), some (.inl (a2)), some (.inl (a3))], [], 0, 0, ix_mem 276 I J T)) rfl ⟨rfl, rfl, rfl, rfl, p5⟩ ?_
    refine ix_br (fun c7 => ?_) (fun c7 => ?_)
    · have h8 := h6.1 c7
      obtain ⟨p9, h10⟩ := h8
      refine ix_go 5 (x' := (if I 71 (a0).toNatClampNeg = 0 then 55 else 41, [some (.inr (.inr (.inl (some (68))))), some (.inl (a0)), some (.inl (a1)), some (.inl (a2)), some (.inl (a3))], [], 0, 0, ix_mem 276 I J T)) rfl ⟨rfl, rfl, rfl, rfl, p9⟩ ?_
      refine ix_br (fun c11 => ?_) (fun c11 => ?_)
      · have h12 := h10.1 c11
        refine ix_go 2 (x' := (60, [some (.inr (.inr (.inl (some (68))))), some (.inl (a0)), some (.inl (a1)), some (.inl (a2)), some (.inl (a3))], [.inl ((1 : Int32))], 0, 0, ix_mem 276 I J T)) rfl trivial ?_
        exact ix_sp rfl ⟨Nat.le_refl _, Nat.le_refl _, ix_01_ok rfl, hQ _ _ _ _ h12⟩
      · have h12 := h10.2 c11
        obtain ⟨p13, h14⟩ := h12
        refine ix_go 9 (x' := (if ((I 71 (a0).toNatClampNeg) >>> ((a3) &&& 31)) &&& ((1 : Int32)) = 0 then 59 else 55, [some (.inr (.inr (.inl (some (68))))), some (.inl (a0)), some (.inl (a1)), some (.inl (a2)), some (.inl (a3))], [], 0, 0, ix_mem 276 I J T)) rfl ⟨rfl, rfl, rfl, rfl, p13⟩ ?_
        refine ix_br (fun c15 => ?_) (fun c15 => ?_)
        · have h16 := h14.1 c15
          refine ix_go 1 (x' := (60, [some (.inr (.inr (.inl (some (68))))), some (.inl (a0)), some (.inl (a1)), some (.inl (a2)), some (.inl (a3))], [.inl ((0 : Int32))], 0, 0, ix_mem 276 I J T)) rfl trivial ?_
          exact ix_sp rfl ⟨Nat.le_refl _, Nat.le_refl _, ix_01_ok rfl, hQ _ _ _ _ h16⟩
        · have h16 := h14.2 c15
          refine ix_go 2 (x' := (60, [some (.inr (.inr (.inl (some (68))))), some (.inl (a0)), some (.inl (a1)), some (.inl (a2)), some (.inl (a3))], [.inl ((1 : Int32))], 0, 0, ix_mem 276 I J T)) rfl trivial ?_
          exact ix_sp rfl ⟨Nat.le_refl _, Nat.le_refl _, ix_01_ok rfl, hQ _ _ _ _ h16⟩
    · have h8 := h6.2 c7
      obtain ⟨p17, h18⟩ := h8
      refine ix_go 9 (x' := (if ((I 70 (a0).toNatClampNeg) >>> ((a2) &&& 31)) &&& ((1 : Int32)) = 0 then 59 else 32, [some (.inr (.inr (.inl (some (68))))), some (.inl (a0)), some (.inl (a1)), some (.inl (a2)), some (.inl (a3))], [], 0, 0, ix_mem 276 I J T)) rfl ⟨rfl, rfl, rfl, rfl, p17⟩ ?_
      refine ix_br (fun c19 => ?_) (fun c19 => ?_)
      · have h20 := h18.1 c19
        refine ix_go 1 (x' := (60, [some (.inr (.inr (.inl (some (68))))), some (.inl (a0)), some (.inl (a1)), some (.inl (a2)), some (.inl (a3))], [.inl ((0 : Int32))], 0, 0, ix_mem 276 I J T)) rfl trivial ?_
        exact ix_sp rfl ⟨Nat.le_refl _, Nat.le_refl _, ix_01_ok rfl, hQ _ _ _ _ h20⟩
      · have h20 := h18.2 c19
        obtain ⟨p21, h22⟩ := h20
        refine ix_go 5 (x' := (if I 71 (a0).toNatClampNeg = 0 then 55 else 41, [some (.inr (.inr (.inl (some (68))))), some (.inl (a0)), some (.inl (a1)), some (.inl (a2)), some (.inl (a3))], [], 0, 0, ix_mem 276 I J T)) rfl ⟨rfl, rfl, rfl, rfl, p21⟩ ?_
        refine ix_br (fun c23 => ?_) (fun c23 => ?_)
        · have h24 := h22.1 c23
          refine ix_go 2 (x' := (60, [some (.inr (.inr (.inl (some (68))))), some (.inl (a0)), some (.inl (a1)), some (.inl (a2)), some (.inl (a3))], [.inl ((1 : Int32))], 0, 0, ix_mem 276 I J T)) rfl trivial ?_
          exact ix_sp rfl ⟨Nat.le_refl _, Nat.le_refl _, ix_01_ok rfl, hQ _ _ _ _ h24⟩
        · have h24 := h22.2 c23
          obtain ⟨p25, h26⟩ := h24
          refine ix_go 9 (x' := (if ((I 71 (a0).toNatClampNeg) >>> ((a3) &&& 31)) &&& ((1 : Int32)) = 0 then 59 else 55, [some (.inr (.inr (.inl (some (68))))), some (.inl (a0)), some (.inl (a1)), some (.inl (a2)), some (.inl (a3))], [], 0, 0, ix_mem 276 I J T)) rfl ⟨rfl, rfl, rfl, rfl, p25⟩ ?_
          refine ix_br (fun c27 => ?_) (fun c27 => ?_)
          · have h28 := h26.1 c27
            refine ix_go 1 (x' := (60, [some (.inr (.inr (.inl (some (68))))), some (.inl (a0)), some (.inl (a1)), some (.inl (a2)), some (.inl (a3))], [.inl ((0 : Int32))], 0, 0, ix_mem 276 I J T)) rfl trivial ?_
            exact ix_sp rfl ⟨Nat.le_refl _, Nat.le_refl _, ix_01_ok rfl, hQ _ _ _ _ h28⟩
          · have h28 := h26.2 c27
            refine ix_go 2 (x' := (60, [some (.inr (.inr (.inl (some (68))))), some (.inl (a0)), some (.inl (a1)), some (.inl (a2)), some (.inl (a3))], [.inl ((1 : Int32))], 0, 0, ix_mem 276 I J T)) rfl trivial ?_
            exact ix_sp rfl ⟨Nat.le_refl _, Nat.le_refl _, ix_01_ok rfl, hQ _ _ _ _ h28⟩
  · have h4 := h2.2 c3
    refine ix_go 1 (x' := (60, [some (.inr (.inr (.inl (some (68))))), some (.inl (a0)), some (.inl (a1)), some (.inl (a2)), some (.inl (a3))], [.inl ((0 : Int32))], 0, 0, ix_mem 276 I J T)) rfl trivial ?_
    exact ix_sp rfl ⟨Nat.le_refl _, Nat.le_refl _, ix_01_ok rfl, hQ _ _ _ _ h4⟩
def wp_X9_serves_77 (a0 : Int32) (a1 : Int32) (a2 : Int32) (a3 : Int32) (I : Nat → Nat → Int32) (J : Nat → Nat → Int64) (T : Option Nat) (P : Int32 → (Nat → Nat → Int32) → (Nat → Nat → Int64) → Option Nat → Prop) : Prop := ix_inb (a0) 12 = true ∧ ((I 78 (a0).toNatClampNeg = a1 → ix_inb (a0) 12 = true ∧ ((I 79 (a0).toNatClampNeg = 0 → ix_inb (a0) 12 = true ∧ ((I 80 (a0).toNatClampNeg = 0 → P ((1 : Int32)) I J T) ∧ (¬ (I 80 (a0).toNatClampNeg = 0) → ix_inb (a0) 12 = true ∧ ((((I 80 (a0).toNatClampNeg) >>> ((a3) &&& 31)) &&& ((1 : Int32)) = 0 → P ((0 : Int32)) I J T) ∧ (¬ (((I 80 (a0).toNatClampNeg) >>> ((a3) &&& 31)) &&& ((1 : Int32)) = 0) → P ((1 : Int32)) I J T))))) ∧ (¬ (I 79 (a0).toNatClampNeg = 0) → ix_inb (a0) 12 = true ∧ ((((I 79 (a0).toNatClampNeg) >>> ((a2) &&& 31)) &&& ((1 : Int32)) = 0 → P ((0 : Int32)) I J T) ∧ (¬ (((I 79 (a0).toNatClampNeg) >>> ((a2) &&& 31)) &&& ((1 : Int32)) = 0) → ix_inb (a0) 12 = true ∧ ((I 80 (a0).toNatClampNeg = 0 → P ((1 : Int32)) I J T) ∧ (¬ (I 80 (a0).toNatClampNeg = 0) → ix_inb (a0) 12 = true ∧ ((((I 80 (a0).toNatClampNeg) >>> ((a3) &&& 31)) &&& ((1 : Int32)) = 0 → P ((0 : Int32)) I J T) ∧ (¬ (((I 80 (a0).toNatClampNeg) >>> ((a3) &&& 31)) &&& ((1 : Int32)) = 0) → P ((1 : Int32)) I J T))))))))) ∧ (¬ (I 78 (a0).toNatClampNeg = a1) → P ((0 : Int32)) I J T))
set_option maxRecDepth 20000 in
theorem tp_X9_serves_77 {d : Nat} {a0 : Int32} {a1 : Int32} {a2 : Int32} {a3 : Int32} {I : Nat → Nat → Int32} {J : Nat → Nat → Int64} {T : Option Nat} {P : Int32 → (Nat → Nat → Int32) → (Nat → Nat → Int64) → Option Nat → Prop} {Q : ix_Q} (h : wp_X9_serves_77 a0 a1 a2 a3 I J T P) (hQ : ∀ v I J T, P v I J T → Q (some (.inl v)) (ix_mem 276 I J T)) : ix_C (d + 1) 139 [.inr (.inr (.inl (some (77)))), .inl (a0), .inl (a1), .inl (a2), .inl (a3)] (ix_mem 276 I J T) Q := by
  unfold wp_X9_serves_77 at h
  refine ix_enter (ls := [some (.inr (.inr (.inl (some (77))))), some (.inl (a0)), some (.inl (a1)), some (.inl (a2)), some (.inl (a3))]) rfl rfl rfl (Nat.le_of_ble_eq_true rfl) ?_
  obtain ⟨p1, h2⟩ := h
  refine ix_go 6 (x' := (if I 78 (a0).toNatClampNeg = a1 then 10 else 59, [some (.inr (.inr (.inl (some (77))))), some (.inl (a0)), some (.inl (a1)), some (.inl (a2)), some (.inl (a3))], [], 0, 0, ix_mem 276 I J T)) rfl ⟨rfl, rfl, rfl, rfl, p1⟩ ?_
  refine ix_br (fun c3 => ?_) (fun c3 => ?_)
  · have h4 := h2.1 c3
    obtain ⟨p5, h6⟩ := h4
    refine ix_go 5 (x' := (if I 79 (a0).toNatClampNeg = 0 then 32 else 19, [some (.inr (.inr (.inl (some (77))))), some (.inl (a0)), some (.inl (a1)), some (.inl (a2)), some (.inl (a3))], [], 0, 0, ix_mem 276 I J T)) rfl ⟨rfl, rfl, rfl, rfl, p5⟩ ?_
    refine ix_br (fun c7 => ?_) (fun c7 => ?_)
    · have h8 := h6.1 c7
      obtain ⟨p9, h10⟩ := h8
      refine ix_go 5 (x' := (if I 80 (a0).toNatClampNeg = 0 then 55 else 41, [some (.inr (.inr (.inl (some (77))))), some (.inl (a0)), some (.inl (a1)), some (.inl (a2)), some (.inl (a3))], [], 0, 0, ix_mem 276 I J T)) rfl ⟨rfl, rfl, rfl, rfl, p9⟩ ?_
      refine ix_br (fun c11 => ?_) (fun c11 => ?_)
      · have h12 := h10.1 c11
        refine ix_go 2 (x' := (60, [some (.inr (.inr (.inl (some (77))))), some (.inl (a0)), some (.inl (a1)), some (.inl (a2)), some (.inl (a3))], [.inl ((1 : Int32))], 0, 0, ix_mem 276 I J T)) rfl trivial ?_
        exact ix_sp rfl ⟨Nat.le_refl _, Nat.le_refl _, ix_01_ok rfl, hQ _ _ _ _ h12⟩
      · have h12 := h10.2 c11
        obtain ⟨p13, h14⟩ := h12
        refine ix_go 9 (x' := (if ((I 80 (a0).toNatClampNeg) >>> ((a3) &&& 31)) &&& ((1 : Int32)) = 0 then 59 else 55, [some (.inr (.inr (.inl (some (77))))), some (.inl (a0)), some (.inl (a1)), some (.inl (a2)), some (.inl (a3))], [], 0, 0, ix_mem 276 I J T)) rfl ⟨rfl, rfl, rfl, rfl, p13⟩ ?_
        refine ix_br (fun c15 => ?_) (fun c15 => ?_)
        · have h16 := h14.1 c15
          refine ix_go 1 (x' := (60, [some (.inr (.inr (.inl (some (77))))), some (.inl (a0)), some (.inl (a1)), some (.inl (a2)), some (.inl (a3))], [.inl ((0 : Int32))], 0, 0, ix_mem 276 I J T)) rfl trivial ?_
          exact ix_sp rfl ⟨Nat.le_refl _, Nat.le_refl _, ix_01_ok rfl, hQ _ _ _ _ h16⟩
        · have h16 := h14.2 c15
          refine ix_go 2 (x' := (60, [some (.inr (.inr (.inl (some (77))))), some (.inl (a0)), some (.inl (a1)), some (.inl (a2)), some (.inl (a3))], [.inl ((1 : Int32))], 0, 0, ix_mem 276 I J T)) rfl trivial ?_
          exact ix_sp rfl ⟨Nat.le_refl _, Nat.le_refl _, ix_01_ok rfl, hQ _ _ _ _ h16⟩
    · have h8 := h6.2 c7
      obtain ⟨p17, h18⟩ := h8
      refine ix_go 9 (x' := (if ((I 79 (a0).toNatClampNeg) >>> ((a2) &&& 31)) &&& ((1 : Int32)) = 0 then 59 else 32, [some (.inr (.inr (.inl (some (77))))), some (.inl (a0)), some (.inl (a1)), some (.inl (a2)), some (.inl (a3))], [], 0, 0, ix_mem 276 I J T)) rfl ⟨rfl, rfl, rfl, rfl, p17⟩ ?_
      refine ix_br (fun c19 => ?_) (fun c19 => ?_)
      · have h20 := h18.1 c19
        refine ix_go 1 (x' := (60, [some (.inr (.inr (.inl (some (77))))), some (.inl (a0)), some (.inl (a1)), some (.inl (a2)), some (.inl (a3))], [.inl ((0 : Int32))], 0, 0, ix_mem 276 I J T)) rfl trivial ?_
        exact ix_sp rfl ⟨Nat.le_refl _, Nat.le_refl _, ix_01_ok rfl, hQ _ _ _ _ h20⟩
      · have h20 := h18.2 c19
        obtain ⟨p21, h22⟩ := h20
        refine ix_go 5 (x' := (if I 80 (a0).toNatClampNeg = 0 then 55 else 41, [some (.inr (.inr (.inl (some (77))))), some (.inl (a0)), some (.inl (a1)), some (.inl (a2)), some (.inl (a3))], [], 0, 0, ix_mem 276 I J T)) rfl ⟨rfl, rfl, rfl, rfl, p21⟩ ?_
        refine ix_br (fun c23 => ?_) (fun c23 => ?_)
        · have h24 := h22.1 c23
          refine ix_go 2 (x' := (60, [some (.inr (.inr (.inl (some (77))))), some (.inl (a0)), some (.inl (a1)), some (.inl (a2)), some (.inl (a3))], [.inl ((1 : Int32))], 0, 0, ix_mem 276 I J T)) rfl trivial ?_
          exact ix_sp rfl ⟨Nat.le_refl _, Nat.le_refl _, ix_01_ok rfl, hQ _ _ _ _ h24⟩
        · have h24 := h22.2 c23
          obtain ⟨p25, h26⟩ := h24
          refine ix_go 9 (x' := (if ((I 80 (a0).toNatClampNeg) >>> ((a3) &&& 31)) &&& ((1 : Int32)) = 0 then 59 else 55, [some (.inr (.inr (.inl (some (77))))), some (.inl (a0)), some (.inl (a1)), some (.inl (a2)), some (.inl (a3))], [], 0, 0, ix_mem 276 I J T)) rfl ⟨rfl, rfl, rfl, rfl, p25⟩ ?_
          refine ix_br (fun c27 => ?_) (fun c27 => ?_)
          · have h28 := h26.1 c27
            refine ix_go 1 (x' := (60, [some (.inr (.inr (.inl (some (77))))), some (.inl (a0)), some (.inl (a1)), some (.inl (a2)), some (.inl (a3))], [.inl ((0 : Int32))], 0, 0, ix_mem 276 I J T)) rfl trivial ?_
            exact ix_sp rfl ⟨Nat.le_refl _, Nat.le_refl _, ix_01_ok rfl, hQ _ _ _ _ h28⟩
          · have h28 := h26.2 c27
            refine ix_go 2 (x' := (60, [some (.inr (.inr (.inl (some (77))))), some (.inl (a0)), some (.inl (a1)), some (.inl (a2)), some (.inl (a3))], [.inl ((1 : Int32))], 0, 0, ix_mem 276 I J T)) rfl trivial ?_
            exact ix_sp rfl ⟨Nat.le_refl _, Nat.le_refl _, ix_01_ok rfl, hQ _ _ _ _ h28⟩
  · have h4 := h2.2 c3
    refine ix_go 1 (x' := (60, [some (.inr (.inr (.inl (some (77))))), some (.inl (a0)), some (.inl (a1)), some (.inl (a2)), some (.inl (a3))], [.inl ((0 : Int32))], 0, 0, ix_mem 276 I J T)) rfl trivial ?_
    exact ix_sp rfl ⟨Nat.le_refl _, Nat.le_refl _, ix_01_ok rfl, hQ _ _ _ _ h4⟩
def wp_X9_serves_86 (a0 : Int32) (a1 : Int32) (a2 : Int32) (a3 : Int32) (I : Nat → Nat → Int32) (J : Nat → Nat → Int64) (T : Option Nat) (P : Int32 → (Nat → Nat → Int32) → (Nat → Nat → Int64) → Option Nat → Prop) : Prop := ix_inb (a0) 12 = true ∧ ((I 87 (a0).toNatClampNeg = a1 → ix_inb (a0) 12 = true ∧ ((I 88 (a0).toNatClampNeg = 0 → ix_inb (a0) 12 = true ∧ ((I 89 (a0).toNatClampNeg = 0 → P ((1 : Int32)) I J T) ∧ (¬ (I 89 (a0).toNatClampNeg = 0) → ix_inb (a0) 12 = true ∧ ((((I 89 (a0).toNatClampNeg) >>> ((a3) &&& 31)) &&& ((1 : Int32)) = 0 → P ((0 : Int32)) I J T) ∧ (¬ (((I 89 (a0).toNatClampNeg) >>> ((a3) &&& 31)) &&& ((1 : Int32)) = 0) → P ((1 : Int32)) I J T))))) ∧ (¬ (I 88 (a0).toNatClampNeg = 0) → ix_inb (a0) 12 = true ∧ ((((I 88 (a0).toNatClampNeg) >>> ((a2) &&& 31)) &&& ((1 : Int32)) = 0 → P ((0 : Int32)) I J T) ∧ (¬ (((I 88 (a0).toNatClampNeg) >>> ((a2) &&& 31)) &&& ((1 : Int32)) = 0) → ix_inb (a0) 12 = true ∧ ((I 89 (a0).toNatClampNeg = 0 → P ((1 : Int32)) I J T) ∧ (¬ (I 89 (a0).toNatClampNeg = 0) → ix_inb (a0) 12 = true ∧ ((((I 89 (a0).toNatClampNeg) >>> ((a3) &&& 31)) &&& ((1 : Int32)) = 0 → P ((0 : Int32)) I J T) ∧ (¬ (((I 89 (a0).toNatClampNeg) >>> ((a3) &&& 31)) &&& ((1 : Int32)) = 0) → P ((1 : Int32)) I J T))))))))) ∧ (¬ (I 87 (a0).toNatClampNeg = a1) → P ((0 : Int32)) I J T))
set_option maxRecDepth 20000 in
theorem tp_X9_serves_86 {d : Nat} {a0 : Int32} {a1 : Int32} {a2 : Int32} {a3 : Int32} {I : Nat → Nat → Int32} {J : Nat → Nat → Int64} {T : Option Nat} {P : Int32 → (Nat → Nat → Int32) → (Nat → Nat → Int64) → Option Nat → Prop} {Q : ix_Q} (h : wp_X9_serves_86 a0 a1 a2 a3 I J T P) (hQ : ∀ v I J T, P v I J T → Q (some (.inl v)) (ix_mem 276 I J T)) : ix_C (d + 1) 139 [.inr (.inr (.inl (some (86)))), .inl (a0), .inl (a1), .inl (a2), .inl (a3)] (ix_mem 276 I J T) Q := by
  unfold wp_X9_serves_86 at h
  refine ix_enter (ls := [some (.inr (.inr (.inl (some (86))))), some (.inl (a0)), some (.inl (a1)), some (.inl (a2)), some (.inl (a3))]) rfl rfl rfl (Nat.le_of_ble_eq_true rfl) ?_
  obtain ⟨p1, h2⟩ := h
  refine ix_go 6 (x' := (if I 87 (a0).toNatClampNeg = a1 then 10 else 59, [some (.inr (.inr (.inl (some (86))))), some (.inl (a0)), some (.inl (a1)), some (.inl (a2)), some (.inl (a3))], [], 0, 0, ix_mem 276 I J T)) rfl ⟨rfl, rfl, rfl, rfl, p1⟩ ?_
  refine ix_br (fun c3 => ?_) (fun c3 => ?_)
  · have h4 := h2.1 c3
    obtain ⟨p5, h6⟩ := h4
    refine ix_go 5 (x' := (if I 88 (a0).toNatClampNeg = 0 then 32 else 19, [some (.inr (.inr (.inl (some (86))))), some (.inl (a0)), some (.inl (a1)), some (.inl (a2)), some (.inl (a3))], [], 0, 0, ix_mem 276 I J T)) rfl ⟨rfl, rfl, rfl, rfl, p5⟩ ?_
    refine ix_br (fun c7 => ?_) (fun c7 => ?_)
    · have h8 := h6.1 c7
      obtain ⟨p9, h10⟩ := h8
      refine ix_go 5 (x' := (if I 89 (a0).toNatClampNeg = 0 then 55 else 41, [some (.inr (.inr (.inl (some (86))))), some (.inl (a0)), some (.inl (a1)), some (.inl (a2)), some (.inl (a3))], [], 0, 0, ix_mem 276 I J T)) rfl ⟨rfl, rfl, rfl, rfl, p9⟩ ?_
      refine ix_br (fun c11 => ?_) (fun c11 => ?_)
      · have h12 := h10.1 c11
        refine ix_go 2 (x' := (60, [some (.inr (.inr (.inl (some (86))))), some (.inl (a0)), some (.inl (a1)), some (.inl (a2)), some (.inl (a3))], [.inl ((1 : Int32))], 0, 0, ix_mem 276 I J T)) rfl trivial ?_
        exact ix_sp rfl ⟨Nat.le_refl _, Nat.le_refl _, ix_01_ok rfl, hQ _ _ _ _ h12⟩
      · have h12 := h10.2 c11
        obtain ⟨p13, h14⟩ := h12
        refine ix_go 9 (x' := (if ((I 89 (a0).toNatClampNeg) >>> ((a3) &&& 31)) &&& ((1 : Int32)) = 0 then 59 else 55, [some (.inr (.inr (.inl (some (86))))), some (.inl (a0)), some (.inl (a1)), some (.inl (a2)), some (.inl (a3))], [], 0, 0, ix_mem 276 I J T)) rfl ⟨rfl, rfl, rfl, rfl, p13⟩ ?_
        refine ix_br (fun c15 => ?_) (fun c15 => ?_)
        · have h16 := h14.1 c15
          refine ix_go 1 (x' := (60, [some (.inr (.inr (.inl (some (86))))), some (.inl (a0)), some (.inl (a1)), some (.inl (a2)), some (.inl (a3))], [.inl ((0 : Int32))], 0, 0, ix_mem 276 I J T)) rfl trivial ?_
          exact ix_sp rfl ⟨Nat.le_refl _, Nat.le_refl _, ix_01_ok rfl, hQ _ _ _ _ h16⟩
        · have h16 := h14.2 c15
          refine ix_go 2 (x' := (60, [some (.inr (.inr (.inl (some (86))))), some (.inl (a0)), some (.inl (a1)), some (.inl (a2)), some (.inl (a3))], [.inl ((1 : Int32))], 0, 0, ix_mem 276 I J T)) rfl trivial ?_
          exact ix_sp rfl ⟨Nat.le_refl _, Nat.le_refl _, ix_01_ok rfl, hQ _ _ _ _ h16⟩
    · have h8 := h6.2 c7
      obtain ⟨p17, h18⟩ := h8
      refine ix_go 9 (x' := (if ((I 88 (a0).toNatClampNeg) >>> ((a2) &&& 31)) &&& ((1 : Int32)) = 0 then 59 else 32, [some (.inr (.inr (.inl (some (86))))), some (.inl (a0)), some (.inl (a1)), some (.inl (a2)), some (.inl (a3))], [], 0, 0, ix_mem 276 I J T)) rfl ⟨rfl, rfl, rfl, rfl, p17⟩ ?_
      refine ix_br (fun c19 => ?_) (fun c19 => ?_)
      · have h20 := h18.1 c19
        refine ix_go 1 (x' := (60, [some (.inr (.inr (.inl (some (86))))), some (.inl (a0)), some (.inl (a1)), some (.inl (a2)), some (.inl (a3))], [.inl ((0 : Int32))], 0, 0, ix_mem 276 I J T)) rfl trivial ?_
        exact ix_sp rfl ⟨Nat.le_refl _, Nat.le_refl _, ix_01_ok rfl, hQ _ _ _ _ h20⟩
      · have h20 := h18.2 c19
        obtain ⟨p21, h22⟩ := h20
        refine ix_go 5 (x' := (if I 89 (a0).toNatClampNeg = 0 then 55 else 41, [some (.inr (.inr (.inl (some (86))))), some (.inl (a0)), some (.inl (a1)), some (.inl (a2)), some (.inl (a3))], [], 0, 0, ix_mem 276 I J T)) rfl ⟨rfl, rfl, rfl, rfl, p21⟩ ?_
        refine ix_br (fun c23 => ?_) (fun c23 => ?_)
        · have h24 := h22.1 c23
          refine ix_go 2 (x' := (60, [some (.inr (.inr (.inl (some (86))))), some (.inl (a0)), some (.inl (a1)), some (.inl (a2)), some (.inl (a3))], [.inl ((1 : Int32))], 0, 0, ix_mem 276 I J T)) rfl trivial ?_
          exact ix_sp rfl ⟨Nat.le_refl _, Nat.le_refl _, ix_01_ok rfl, hQ _ _ _ _ h24⟩
        · have h24 := h22.2 c23
          obtain ⟨p25, h26⟩ := h24
          refine ix_go 9 (x' := (if ((I 89 (a0).toNatClampNeg) >>> ((a3) &&& 31)) &&& ((1 : Int32)) = 0 then 59 else 55, [some (.inr (.inr (.inl (some (86))))), some (.inl (a0)), some (.inl (a1)), some (.inl (a2)), some (.inl (a3))], [], 0, 0, ix_mem 276 I J T)) rfl ⟨rfl, rfl, rfl, rfl, p25⟩ ?_
          refine ix_br (fun c27 => ?_) (fun c27 => ?_)
          · have h28 := h26.1 c27
            refine ix_go 1 (x' := (60, [some (.inr (.inr (.inl (some (86))))), some (.inl (a0)), some (.inl (a1)), some (.inl (a2)), some (.inl (a3))], [.inl ((0 : Int32))], 0, 0, ix_mem 276 I J T)) rfl trivial ?_
            exact ix_sp rfl ⟨Nat.le_refl _, Nat.le_refl _, ix_01_ok rfl, hQ _ _ _ _ h28⟩
          · have h28 := h26.2 c27
            refine ix_go 2 (x' := (60, [some (.inr (.inr (.inl (some (86))))), some (.inl (a0)), some (.inl (a1)), some (.inl (a2)), some (.inl (a3))], [.inl ((1 : Int32))], 0, 0, ix_mem 276 I J T)) rfl trivial ?_
            exact ix_sp rfl ⟨Nat.le_refl _, Nat.le_refl _, ix_01_ok rfl, hQ _ _ _ _ h28⟩
  · have h4 := h2.2 c3
    refine ix_go 1 (x' := (60, [some (.inr (.inr (.inl (some (86))))), some (.inl (a0)), some (.inl (a1)), some (.inl (a2)), some (.inl (a3))], [.inl ((0 : Int32))], 0, 0, ix_mem 276 I J T)) rfl trivial ?_
    exact ix_sp rfl ⟨Nat.le_refl _, Nat.le_refl _, ix_01_ok rfl, hQ _ _ _ _ h4⟩
