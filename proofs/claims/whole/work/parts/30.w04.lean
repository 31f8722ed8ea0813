def wp_X4_toldWeight (a0 : Int32) (I : Nat → Nat → Int32) (J : Nat → Nat → Int64) (T : Option Nat) (P : Int32 → (Nat → Nat → Int32) → (Nat → Nat → Int64) → Option Nat → Prop) : Prop := wp_X4_toldBy_r121 (a0) (I 106 7) I J T (fun v1 I1 J1 T1 => P (v1) I1 J1 T1)
set_option maxRecDepth 20000 in
theorem tp_X4_toldWeight {d : Nat} {a0 : Int32} {I : Nat → Nat → Int32} {J : Nat → Nat → Int64} {T : Option Nat} {P : Int32 → (Nat → Nat → Int32) → (Nat → Nat → Int64) → Option Nat → Prop} {Q : ix_Q} (h : wp_X4_toldWeight a0 I J T P) (hQ : ∀ v I J T, P v I J T → Q (some (.inl v)) (ix_mem 276 I J T)) : ix_C (d + 2) 62 [.inr (.inr (.inl (some (106)))), .inl (a0)] (ix_mem 276 I J T) Q := by
  unfold wp_X4_toldWeight at h
  refine ix_enter (ls := [some (.inr (.inr (.inl (some (106))))), some (.inl (a0))]) rfl rfl rfl (Nat.le_of_ble_eq_true rfl) ?_
  refine ix_go 6 (x' := (10, [some (.inr (.inr (.inl (some (106))))), some (.inl (a0))], [.inl (I 106 7), .inr (.inr (.inl (some (121)))), .inl (a0), .inr (.inr (.inl (some (106))))], 0, 0, ix_mem 276 I J T)) rfl ⟨rfl, rfl, rfl, rfl⟩ ?_
  refine ix_sp rfl ⟨rfl, ⟨ix_lt rfl, ix_eq rfl, ix_lt rfl⟩, ix_le rfl, Nat.le_refl _, Nat.le_refl _, tp_X4_toldBy_r121 h (fun v1 I1 J1 T1 h1 => ?_)⟩
  change ix_W _ _ _ (13, [some (.inr (.inr (.inl (some (106))))), some (.inl (a0))], [.inl (v1)], 0, 0, ix_mem 276 I1 J1 T1)
  exact ix_sp rfl ⟨Nat.le_refl _, Nat.le_refl _, trivial, hQ _ _ _ _ h1⟩
def wp_X4_tellingWeek (a0 : Int32) (I : Nat → Nat → Int32) (J : Nat → Nat → Int64) (T : Option Nat) (P : Int32 → (Nat → Nat → Int32) → (Nat → Nat → Int64) → Option Nat → Prop) : Prop := ((a0 < 0 → P ((-1 : Int32)) I J T) ∧ (¬ (a0 < 0) → ((a0 < I 106 9 → ix_inb (a0) 3 = true ∧ P (I 122 (a0).toNatClampNeg) I J T) ∧ (¬ (a0 < I 106 9) → P ((-1 : Int32)) I J T))))
set_option maxRecDepth 20000 in
theorem tp_X4_tellingWeek {d : Nat} {a0 : Int32} {I : Nat → Nat → Int32} {J : Nat → Nat → Int64} {T : Option Nat} {P : Int32 → (Nat → Nat → Int32) → (Nat → Nat → Int64) → Option Nat → Prop} {Q : ix_Q} (h : wp_X4_tellingWeek a0 I J T P) (hQ : ∀ v I J T, P v I J T → Q (some (.inl v)) (ix_mem 276 I J T)) : ix_C (d + 1) 63 [.inr (.inr (.inl (some (106)))), .inl (a0)] (ix_mem 276 I J T) Q := by
  unfold wp_X4_tellingWeek at h
  refine ix_enter (ls := [some (.inr (.inr (.inl (some (106))))), some (.inl (a0))]) rfl rfl rfl (Nat.le_of_ble_eq_true rfl) ?_
  refine ix_go 2 (x' := (if a0 < 0 then 21 else 4, [some (.inr (.inr (.inl (some (106))))), some (.inl (a0))], [], 0, 0, ix_mem 276 I J T)) rfl trivial ?_
  refine ix_br (fun c1 => ?_) (fun c1 => ?_)
  · have h2 := h.1 c1
    refine ix_go 1 (x' := (22, [some (.inr (.inr (.inl (some (106))))), some (.inl (a0))], [.inl ((-1 : Int32))], 0, 0, ix_mem 276 I J T)) rfl trivial ?_
    exact ix_sp rfl ⟨Nat.le_refl _, Nat.le_refl _, trivial, hQ _ _ _ _ h2⟩
  · have h2 := h.2 c1
    refine ix_go 4 (x' := (if a0 < I 106 9 then 12 else 21, [some (.inr (.inr (.inl (some (106))))), some (.inl (a0))], [], 0, 0, ix_mem 276 I J T)) rfl ⟨rfl, rfl⟩ ?_
    refine ix_br (fun c3 => ?_) (fun c3 => ?_)
    · have h4 := h2.1 c3
      obtain ⟨p5, h6⟩ := h4
      refine ix_go 5 (x' := (22, [some (.inr (.inr (.inl (some (106))))), some (.inl (a0))], [.inl (I 122 (a0).toNatClampNeg)], 0, 0, ix_mem 276 I J T)) rfl ⟨rfl, rfl, rfl, rfl, p5⟩ ?_
      exact ix_sp rfl ⟨Nat.le_refl _, Nat.le_refl _, trivial, hQ _ _ _ _ h6⟩
    · have h4 := h2.2 c3
      refine ix_go 1 (x' := (22, [some (.inr (.inr (.inl (some (106))))), some (.inl (a0))], [.inl ((-1 : Int32))], 0, 0, ix_mem 276 I J T)) rfl trivial ?_
      exact ix_sp rfl ⟨Nat.le_refl _, Nat.le_refl _, trivial, hQ _ _ _ _ h4⟩
def wb_X4_toldBy_r123_6_c123 (x1 : Int32) (x3 : Int32) (x4 : Int32) (x5 : Int32) (I : Nat → Nat → Int32) (J : Nat → Nat → Int64) (T : Option Nat) (V6 : Int32 → Int32 → Int32 → Int32 → (Nat → Nat → Int32) → (Nat → Nat → Int64) → Option Nat → Prop) (P : Int32 → (Nat → Nat → Int32) → (Nat → Nat → Int64) → Option Nat → Prop) : Prop := ((x5 < x3 → ((x5 < (3 : Int32) → ix_inb (x1) 8 = true ∧ ix_inb (x5) 3 = true ∧ ix_inb (I 123 (x5).toNatClampNeg) 52 = true ∧ V6 (x1) (x3) ((x4) + (I (ix_row 112 (x1)) (I 123 (x5).toNatClampNeg).toNatClampNeg)) (x5 + (1 : Int32)) I J T) ∧ (¬ (x5 < (3 : Int32)) → ((x3 ≤ 0 → P ((0 : Int32)) I J T) ∧ (¬ (x3 ≤ 0) → ix_nz (x3) = true ∧ P ((((52 : Int32)) * (x4)) / (x3)) I J T))))) ∧ (¬ (x5 < x3) → ((x3 ≤ 0 → P ((0 : Int32)) I J T) ∧ (¬ (x3 ≤ 0) → ix_nz (x3) = true ∧ P ((((52 : Int32)) * (x4)) / (x3)) I J T))))
def wl_X4_toldBy_r123_6_c123 (x1 : Int32) (x3 : Int32) (x4 : Int32) (x5 : Int32) (I : Nat → Nat → Int32) (J : Nat → Nat → Int64) (T : Option Nat) (P : Int32 → (Nat → Nat → Int32) → (Nat → Nat → Int64) → Option Nat → Prop) : Prop := ∀ V : Int32 → Int32 → Int32 → Int32 → (Nat → Nat → Int32) → (Nat → Nat → Int64) → Option Nat → Prop, (∀ (x1 : Int32) (x3 : Int32) (x4 : Int32) (x5 : Int32) (I : Nat → Nat → Int32) (J : Nat → Nat → Int64) (T : Option Nat), wb_X4_toldBy_r123_6_c123 x1 x3 x4 x5 I J T V P → V x1 x3 x4 x5 I J T) → V x1 x3 x4 x5 I J T
set_option maxRecDepth 20000 in
theorem tl_X4_toldBy_r123_6_c123 {d : Nat} {x1 : Int32} {x3 : Int32} {x4 : Int32} {x5 : Int32} {I : Nat → Nat → Int32} {J : Nat → Nat → Int64} {T : Option Nat} {P : Int32 → (Nat → Nat → Int32) → (Nat → Nat → Int64) → Option Nat → Prop} {Q : ix_Q} (h : wl_X4_toldBy_r123_6_c123 x1 x3 x4 x5 I J T P) (hQ : ∀ v I J T, P v I J T → Q (some (.inl v)) (ix_mem 276 I J T)) : ix_W (ix_C d) (4, ix_lk ix_l61, (some .int), 0, 0, Nat.blt 0 0, none) Q (6, [some (.inr (.inr (.inl (some (106))))), some (.inl (x1)), some (.inr (.inr (.inl (some (123))))), some (.inl (x3)), some (.inl (x4)), some (.inl (x5))], [], 0, 0, ix_mem 276 I J T) := by
  refine h (fun x1 x3 x4 x5 I J T => ix_W (ix_C d) (4, ix_lk ix_l61, (some .int), 0, 0, Nat.blt 0 0, none) Q (6, [some (.inr (.inr (.inl (some (106))))), some (.inl (x1)), some (.inr (.inr (.inl (some (123))))), some (.inl (x3)), some (.inl (x4)), some (.inl (x5))], [], 0, 0, ix_mem 276 I J T)) ?_
  intro x1 x3 x4 x5 I J T hb
  unfold wb_X4_toldBy_r123_6_c123 at hb
  refine ix_go 3 (x' := (if x5 < x3 then 12 else 41, [some (.inr (.inr (.inl (some (106))))), some (.inl (x1)), some (.inr (.inr (.inl (some (123))))), some (.inl (x3)), some (.inl (x4)), some (.inl (x5))], [], 0, 0, ix_mem 276 I J T)) rfl trivial ?_
  refine ix_br (fun c1 => ?_) (fun c1 => ?_)
  · have h2 := hb.1 c1
    refine ix_go 4 (x' := (if x5 < (3 : Int32) then 19 else 41, [some (.inr (.inr (.inl (some (106))))), some (.inl (x1)), some (.inr (.inr (.inl (some (123))))), some (.inl (x3)), some (.inl (x4)), some (.inl (x5))], [], 0, 0, ix_mem 276 I J T)) rfl ⟨rfl, rfl, rfl⟩ ?_
    refine ix_br (fun c3 => ?_) (fun c3 => ?_)
    · have h4 := h2.1 c3
      obtain ⟨p5, h6⟩ := h4
      obtain ⟨p7, h8⟩ := h6
      obtain ⟨p9, h10⟩ := h8
      refine ix_go 13 (x' := (6, [some (.inr (.inr (.inl (some (106))))), some (.inl (x1)), some (.inr (.inr (.inl (some (123))))), some (.inl (x3)), some (.inl ((x4) + (I (ix_row 112 (x1)) (I 123 (x5).toNatClampNeg).toNatClampNeg))), some (.inl (x5 + (1 : Int32)))], [], 0, 0, ix_mem 276 I J T)) rfl ⟨rfl, rfl, rfl, rfl, rfl, p5, (rw_112 p5).1, rfl, rfl, p7, (rw_112 p5).2.1, (rw_112 p5).2.2.1, (ix_inbL (rw_112 p5).2.2.2.1 p9)⟩ ?_
      refine ix_subW ([some (.inr (.inr (.inl (some (106))))), some (.inl (x1)), some (.inr (.inr (.inl (some (123))))), some (.inl (x3)), some (.inl ((x4) + (I (ix_row 112 (x1)) (I 123 (x5).toNatClampNeg).toNatClampNeg))), some (.inl (x5 + (1 : Int32)))]) (ix_subS (ix_subS (ix_subS (ix_subS (ix_subS (ix_subS (ix_sub0))))))) ?_
      exact h10
    · have h4 := h2.2 c3
      refine ix_go 2 (x' := (if x3 ≤ 0 then 55 else 45, [some (.inr (.inr (.inl (some (106))))), some (.inl (x1)), some (.inr (.inr (.inl (some (123))))), some (.inl (x3)), some (.inl (x4)), some (.inl (x5))], [], 0, 0, ix_mem 276 I J T)) rfl trivial ?_
      refine ix_br (fun c11 => ?_) (fun c11 => ?_)
      · have h12 := h4.1 c11
        refine ix_go 1 (x' := (56, [some (.inr (.inr (.inl (some (106))))), some (.inl (x1)), some (.inr (.inr (.inl (some (123))))), some (.inl (x3)), some (.inl (x4)), some (.inl (x5))], [.inl ((0 : Int32))], 0, 0, ix_mem 276 I J T)) rfl trivial ?_
        exact ix_sp rfl ⟨Nat.le_refl _, Nat.le_refl _, trivial, hQ _ _ _ _ h12⟩
      · have h12 := h4.2 c11
        obtain ⟨p13, h14⟩ := h12
        refine ix_go 6 (x' := (56, [some (.inr (.inr (.inl (some (106))))), some (.inl (x1)), some (.inr (.inr (.inl (some (123))))), some (.inl (x3)), some (.inl (x4)), some (.inl (x5))], [.inl ((((52 : Int32)) * (x4)) / (x3))], 0, 0, ix_mem 276 I J T)) rfl p13 ?_
        exact ix_sp rfl ⟨Nat.le_refl _, Nat.le_refl _, trivial, hQ _ _ _ _ h14⟩
  · have h2 := hb.2 c1
    refine ix_go 2 (x' := (if x3 ≤ 0 then 55 else 45, [some (.inr (.inr (.inl (some (106))))), some (.inl (x1)), some (.inr (.inr (.inl (some (123))))), some (.inl (x3)), some (.inl (x4)), some (.inl (x5))], [], 0, 0, ix_mem 276 I J T)) rfl trivial ?_
    refine ix_br (fun c15 => ?_) (fun c15 => ?_)
    · have h16 := h2.1 c15
      refine ix_go 1 (x' := (56, [some (.inr (.inr (.inl (some (106))))), some (.inl (x1)), some (.inr (.inr (.inl (some (123))))), some (.inl (x3)), some (.inl (x4)), some (.inl (x5))], [.inl ((0 : Int32))], 0, 0, ix_mem 276 I J T)) rfl trivial ?_
      exact ix_sp rfl ⟨Nat.le_refl _, Nat.le_refl _, trivial, hQ _ _ _ _ h16⟩
    · have h16 := h2.2 c15
      obtain ⟨p17, h18⟩ := h16
      refine ix_go 6 (x' := (56, [some (.inr (.inr (.inl (some (106))))), some (.inl (x1)), some (.inr (.inr (.inl (some (123))))), some (.inl (x3)), some (.inl (x4)), some (.inl (x5))], [.inl ((((52 : Int32)) * (x4)) / (x3))], 0, 0, ix_mem 276 I J T)) rfl p17 ?_
      exact ix_sp rfl ⟨Nat.le_refl _, Nat.le_refl _, trivial, hQ _ _ _ _ h18⟩
def wp_X4_toldBy_r123 (a0 : Int32) (a2 : Int32) (I : Nat → Nat → Int32) (J : Nat → Nat → Int64) (T : Option Nat) (P : Int32 → (Nat → Nat → Int32) → (Nat → Nat → Int64) → Option Nat → Prop) : Prop := wl_X4_toldBy_r123_6_c123 (a0) (a2) ((0 : Int32)) ((0 : Int32)) I J T P
set_option maxRecDepth 20000 in
theorem tp_X4_toldBy_r123 {d : Nat} {a0 : Int32} {a2 : Int32} {I : Nat → Nat → Int32} {J : Nat → Nat → Int64} {T : Option Nat} {P : Int32 → (Nat → Nat → Int32) → (Nat → Nat → Int64) → Option Nat → Prop} {Q : ix_Q} (h : wp_X4_toldBy_r123 a0 a2 I J T P) (hQ : ∀ v I J T, P v I J T → Q (some (.inl v)) (ix_mem 276 I J T)) : ix_C (d + 1) 61 [.inr (.inr (.inl (some (106)))), .inl (a0), .inr (.inr (.inl (some (123)))), .inl (a2)] (ix_mem 276 I J T) Q := by
  unfold wp_X4_toldBy_r123 at h
  refine ix_enter (ls := [some (.inr (.inr (.inl (some (106))))), some (.inl (a0)), some (.inr (.inr (.inl (some (123))))), some (.inl (a2)), none, none]) rfl rfl rfl (Nat.le_of_ble_eq_true rfl) ?_
  refine ix_go 4 (x' := (6, [some (.inr (.inr (.inl (some (106))))), some (.inl (a0)), some (.inr (.inr (.inl (some (123))))), some (.inl (a2)), some (.inl ((0 : Int32))), some (.inl ((0 : Int32)))], [], 0, 0, ix_mem 276 I J T)) rfl trivial ?_
  refine ix_subW ([some (.inr (.inr (.inl (some (106))))), some (.inl (a0)), some (.inr (.inr (.inl (some (123))))), some (.inl (a2)), some (.inl ((0 : Int32))), some (.inl ((0 : Int32)))]) (ix_subS (ix_subS (ix_subS (ix_subS (ix_subS (ix_subS (ix_sub0))))))) ?_
  exact tl_X4_toldBy_r123_6_c123 h hQ
def wb_X4_farOff_5 (x1 : Int32) (x2 : Int32) (x3 : Int32) (x4 : Int32) (I : Nat → Nat → Int32) (J : Nat → Nat → Int64) (T : Option Nat) (V5 : Int32 → Int32 → Int32 → Int32 → (Nat → Nat → Int32) → (Nat → Nat → Int64) → Option Nat → Prop) (P : Int32 → (Nat → Nat → Int32) → (Nat → Nat → Int64) → Option Nat → Prop) : Prop := ((x4 < I 106 0 → ((x3 < x2 → wp_X4_toldBy_r123 (x4) (x1) I J T (fun v5 I5 J5 T5 => ix_inb (x4) 8 = true ∧ wp_J9_abs_0f7a4 ((v5) - (I5 111 (x4).toNatClampNeg)) I5 J5 T5 (fun v8 I8 J8 T8 => V5 (x1) (x2) ((x3) + (v8)) (x4 + (1 : Int32)) I8 J8 T8))) ∧ (¬ (x3 < x2) → P (x3) I J T))) ∧ (¬ (x4 < I 106 0) → P (x3) I J T))
def wl_X4_farOff_5 (x1 : Int32) (x2 : Int32) (x3 : Int32) (x4 : Int32) (I : Nat → Nat → Int32) (J : Nat → Nat → Int64) (T : Option Nat) (P : Int32 → (Nat → Nat → Int32) → (Nat → Nat → Int64) → Option Nat → Prop) : Prop := ∀ V : Int32 → Int32 → Int32 → Int32 → (Nat → Nat → Int32) → (Nat → Nat → Int64) → Option Nat → Prop, (∀ (x1 : Int32) (x2 : Int32) (x3 : Int32) (x4 : Int32) (I : Nat → Nat → Int32) (J : Nat → Nat → Int64) (T : Option Nat), wb_X4_farOff_5 x1 x2 x3 x4 I J T V P → V x1 x2 x3 x4 I J T) → V x1 x2 x3 x4 I J T
set_option maxRecDepth 20000 in
theorem tl_X4_farOff_5 {d : Nat} {x1 : Int32} {x2 : Int32} {x3 : Int32} {x4 : Int32} {I : Nat → Nat → Int32} {J : Nat → Nat → Int64} {T : Option Nat} {P : Int32 → (Nat → Nat → Int32) → (Nat → Nat → Int64) → Option Nat → Prop} {Q : ix_Q} (h : wl_X4_farOff_5 x1 x2 x3 x4 I J T P) (hQ : ∀ v I J T, P v I J T → Q (some (.inl v)) (ix_mem 276 I J T)) : ix_W (ix_C (d + 1)) (4, ix_lk ix_l64, (some .int), 0, 0, Nat.blt 0 0, none) Q (5, [some (.inr (.inr (.inl (some (106))))), some (.inl (x1)), some (.inl (x2)), some (.inl (x3)), some (.inl (x4))], [], 0, 0, ix_mem 276 I J T) := by
  refine h (fun x1 x2 x3 x4 I J T => ix_W (ix_C (d + 1)) (4, ix_lk ix_l64, (some .int), 0, 0, Nat.blt 0 0, none) Q (5, [some (.inr (.inr (.inl (some (106))))), some (.inl (x1)), some (.inl (x2)), some (.inl (x3)), some (.inl (x4))], [], 0, 0, ix_mem 276 I J T)) ?_
  intro x1 x2 x3 x4 I J T hb
  unfold wb_X4_farOff_5 at hb
  refine ix_go 4 (x' := (if x4 < I 106 0 then 14 else 50, [some (.inr (.inr (.inl (some (106))))), some (.inl (x1)), some (.inl (x2)), some (.inl (x3)), some (.inl (x4))], [], 0, 0, ix_mem 276 I J T)) rfl ⟨rfl, rfl⟩ ?_
  refine ix_br (fun c1 => ?_) (fun c1 => ?_)
  · have h2 := hb.1 c1
    refine ix_go 3 (x' := (if x3 < x2 then 19 else 50, [some (.inr (.inr (.inl (some (106))))), some (.inl (x1)), some (.inl (x2)), some (.inl (x3)), some (.inl (x4))], [], 0, 0, ix_mem 276 I J T)) rfl trivial ?_
    refine ix_br (fun c3 => ?_) (fun c3 => ?_)
    · have h4 := h2.1 c3
      refine ix_go 6 (x' := (28, [some (.inr (.inr (.inl (some (106))))), some (.inl (x1)), some (.inl (x2)), some (.inl (x3)), some (.inl (x4))], [.inl (x1), .inr (.inr (.inl (some (123)))), .inl (x4), .inr (.inr (.inl (some (106)))), .inl (x3)], 0, 0, ix_mem 276 I J T)) rfl ⟨rfl, rfl⟩ ?_
      refine ix_sp rfl ⟨rfl, ⟨ix_lt rfl, ix_eq rfl, ix_lt rfl⟩, ix_le rfl, Nat.le_refl _, Nat.le_refl _, tp_X4_toldBy_r123 h4 (fun v5 I5 J5 T5 h5 => ?_)⟩
      change ix_W _ _ _ (31, [some (.inr (.inr (.inl (some (106))))), some (.inl (x1)), some (.inl (x2)), some (.inl (x3)), some (.inl (x4))], [.inl (v5), .inl (x3)], 0, 0, ix_mem 276 I5 J5 T5)
      obtain ⟨p6, h7⟩ := h5
      refine ix_go 5 (x' := (39, [some (.inr (.inr (.inl (some (106))))), some (.inl (x1)), some (.inl (x2)), some (.inl (x3)), some (.inl (x4))], [.inl ((v5) - (I5 111 (x4).toNatClampNeg)), .inl (x3)], 0, 0, ix_mem 276 I5 J5 T5)) rfl ⟨rfl, rfl, rfl, rfl, p6⟩ ?_
      refine ix_sp rfl ⟨rfl, trivial, ix_le rfl, Nat.le_refl _, Nat.le_refl _, tp_J9_abs_0f7a4 h7 (fun v8 I8 J8 T8 h8 => ?_)⟩
      change ix_W _ _ _ (42, [some (.inr (.inr (.inl (some (106))))), some (.inl (x1)), some (.inl (x2)), some (.inl (x3)), some (.inl (x4))], [.inl (v8), .inl (x3)], 0, 0, ix_mem 276 I8 J8 T8)
      refine ix_go 4 (x' := (5, [some (.inr (.inr (.inl (some (106))))), some (.inl (x1)), some (.inl (x2)), some (.inl ((x3) + (v8))), some (.inl (x4 + (1 : Int32)))], [], 0, 0, ix_mem 276 I8 J8 T8)) rfl trivial ?_
      refine ix_subW ([some (.inr (.inr (.inl (some (106))))), some (.inl (x1)), some (.inl (x2)), some (.inl ((x3) + (v8))), some (.inl (x4 + (1 : Int32)))]) (ix_subS (ix_subS (ix_subS (ix_subS (ix_subS (ix_sub0)))))) ?_
      exact h8
    · have h4 := h2.2 c3
      refine ix_go 1 (x' := (51, [some (.inr (.inr (.inl (some (106))))), some (.inl (x1)), some (.inl (x2)), some (.inl (x3)), some (.inl (x4))], [.inl (x3)], 0, 0, ix_mem 276 I J T)) rfl trivial ?_
      exact ix_sp rfl ⟨Nat.le_refl _, Nat.le_refl _, trivial, hQ _ _ _ _ h4⟩
  · have h2 := hb.2 c1
    refine ix_go 1 (x' := (51, [some (.inr (.inr (.inl (some (106))))), some (.inl (x1)), some (.inl (x2)), some (.inl (x3)), some (.inl (x4))], [.inl (x3)], 0, 0, ix_mem 276 I J T)) rfl trivial ?_
    exact ix_sp rfl ⟨Nat.le_refl _, Nat.le_refl _, trivial, hQ _ _ _ _ h2⟩
def wp_X4_farOff (a0 : Int32) (a1 : Int32) (I : Nat → Nat → Int32) (J : Nat → Nat → Int64) (T : Option Nat) (P : Int32 → (Nat → Nat → Int32) → (Nat → Nat → Int64) → Option Nat → Prop) : Prop := wl_X4_farOff_5 (a0) (a1) ((0 : Int32)) ((0 : Int32)) I J T P
set_option maxRecDepth 20000 in
theorem tp_X4_farOff {d : Nat} {a0 : Int32} {a1 : Int32} {I : Nat → Nat → Int32} {J : Nat → Nat → Int64} {T : Option Nat} {P : Int32 → (Nat → Nat → Int32) → (Nat → Nat → Int64) → Option Nat → Prop} {Q : ix_Q} (h : wp_X4_farOff a0 a1 I J T P) (hQ : ∀ v I J T, P v I J T → Q (some (.inl v)) (ix_mem 276 I J T)) : ix_C (d + 2) 64 [.inr (.inr (.inl (some (106)))), .inl (a0), .inl (a1)] (ix_mem 276 I J T) Q := by
  unfold wp_X4_farOff at h
  refine ix_enter (ls := [some (.inr (.inr (.inl (some (106))))), some (.inl (a0)), some (.inl (a1)), none, none]) rfl rfl rfl (Nat.le_of_ble_eq_true rfl) ?_
  refine ix_go 4 (x' := (5, [some (.inr (.inr (.inl (some (106))))), some (.inl (a0)), some (.inl (a1)), some (.inl ((0 : Int32))), some (.inl ((0 : Int32)))], [], 0, 0, ix_mem 276 I J T)) rfl trivial ?_
  refine ix_subW ([some (.inr (.inr (.inl (some (106))))), some (.inl (a0)), some (.inl (a1)), some (.inl ((0 : Int32))), some (.inl ((0 : Int32)))]) (ix_subS (ix_subS (ix_subS (ix_subS (ix_subS (ix_sub0)))))) ?_
  exact tl_X4_farOff_5 h hQ
def wb_X4_tryNext_37_4 (x1 : Int32) (x3 : Int32) (I : Nat → Nat → Int32) (J : Nat → Nat → Int64) (T : Option Nat) (V37 : Int32 → Int32 → (Nat → Nat → Int32) → (Nat → Nat → Int64) → Option Nat → Prop) (V4 : Int32 → Int32 → (Nat → Nat → Int32) → (Nat → Nat → Int64) → Option Nat → Prop) (P : Int32 → (Nat → Nat → Int32) → (Nat → Nat → Int64) → Option Nat → Prop) : Prop := ((x3 < x1 → ix_inb ((x3) - ((1 : Int32))) 3 = true ∧ ix_inb (x3) 3 = true ∧ V37 (x1) (x3 + (1 : Int32)) (ix_u2 I 123 (x3).toNatClampNeg ((I 123 ((x3) - ((1 : Int32))).toNatClampNeg) + ((1 : Int32)))) J T) ∧ (¬ (x3 < x1) → P ((1 : Int32)) I J T))
def wl_X4_tryNext_37_4 (x1 : Int32) (x3 : Int32) (I : Nat → Nat → Int32) (J : Nat → Nat → Int64) (T : Option Nat) (V4 : Int32 → Int32 → (Nat → Nat → Int32) → (Nat → Nat → Int64) → Option Nat → Prop) (P : Int32 → (Nat → Nat → Int32) → (Nat → Nat → Int64) → Option Nat → Prop) : Prop := ∀ V : Int32 → Int32 → (Nat → Nat → Int32) → (Nat → Nat → Int64) → Option Nat → Prop, (∀ (x1 : Int32) (x3 : Int32) (I : Nat → Nat → Int32) (J : Nat → Nat → Int64) (T : Option Nat), wb_X4_tryNext_37_4 x1 x3 I J T V V4 P → V x1 x3 I J T) → V x1 x3 I J T
set_option maxRecDepth 20000 in
theorem tl_X4_tryNext_37_4 {d : Nat} {x1 : Int32} {x3 : Int32} {I : Nat → Nat → Int32} {J : Nat → Nat → Int64} {T : Option Nat} {V4 : Int32 → Int32 → (Nat → Nat → Int32) → (Nat → Nat → Int64) → Option Nat → Prop} {P : Int32 → (Nat → Nat → Int32) → (Nat → Nat → Int64) → Option Nat → Prop} {Q : ix_Q} (h : wl_X4_tryNext_37_4 x1 x3 I J T V4 P) (hV4 : ∀ (x1 : Int32) (x2 : Int32) I J T, V4 x1 x2 I J T → ix_W (ix_C d) (4, ix_lk ix_l65, (some .boolean), 0, 0, Nat.blt 0 0, none) Q (4, [some (.inr (.inr (.inl (some (106))))), some (.inl (x1)), some (.inl (x2)), none], [], 0, 0, ix_mem 276 I J T)) (hQ : ∀ v I J T, P v I J T → Q (some (.inl v)) (ix_mem 276 I J T)) : ix_W (ix_C d) (4, ix_lk ix_l65, (some .boolean), 0, 0, Nat.blt 0 0, none) Q (37, [some (.inr (.inr (.inl (some (106))))), some (.inl (x1)), none, some (.inl (x3))], [], 0, 0, ix_mem 276 I J T) := by
  refine h (fun x1 x3 I J T => ix_W (ix_C d) (4, ix_lk ix_l65, (some .boolean), 0, 0, Nat.blt 0 0, none) Q (37, [some (.inr (.inr (.inl (some (106))))), some (.inl (x1)), none, some (.inl (x3))], [], 0, 0, ix_mem 276 I J T)) ?_
  intro x1 x3 I J T hb
  unfold wb_X4_tryNext_37_4 at hb
  refine ix_go 3 (x' := (if x3 < x1 then 42 else 64, [some (.inr (.inr (.inl (some (106))))), some (.inl (x1)), none, some (.inl (x3))], [], 0, 0, ix_mem 276 I J T)) rfl trivial ?_
  refine ix_br (fun c11 => ?_) (fun c11 => ?_)
  · have h12 := hb.1 c11
    obtain ⟨p13, h14⟩ := h12
    obtain ⟨p15, h16⟩ := h14
    refine ix_go 14 (x' := (37, [some (.inr (.inr (.inl (some (106))))), some (.inl (x1)), none, some (.inl (x3 + (1 : Int32)))], [], 0, 0, ix_mem 276 (ix_u2 I 123 (x3).toNatClampNeg ((I 123 ((x3) - ((1 : Int32))).toNatClampNeg) + ((1 : Int32)))) J T)) rfl ⟨rfl, rfl, rfl, rfl, rfl, rfl, p13, rfl, rfl, p15⟩ ?_
    refine ix_subW ([some (.inr (.inr (.inl (some (106))))), some (.inl (x1)), none, some (.inl (x3 + (1 : Int32)))]) (ix_subS (ix_subS (ix_subS (ix_subS (ix_sub0))))) ?_
    exact h16
  · have h12 := hb.2 c11
    refine ix_go 1 (x' := (65, [some (.inr (.inr (.inl (some (106))))), some (.inl (x1)), none, some (.inl (x3))], [.inl ((1 : Int32))], 0, 0, ix_mem 276 I J T)) rfl trivial ?_
    exact ix_sp rfl ⟨Nat.le_refl _, Nat.le_refl _, ix_01_ok rfl, hQ _ _ _ _ h12⟩
def wb_X4_tryNext_4 (x1 : Int32) (x2 : Int32) (I : Nat → Nat → Int32) (J : Nat → Nat → Int64) (T : Option Nat) (V4 : Int32 → Int32 → (Nat → Nat → Int32) → (Nat → Nat → Int64) → Option Nat → Prop) (P : Int32 → (Nat → Nat → Int32) → (Nat → Nat → Int64) → Option Nat → Prop) : Prop := ((x2 < 0 → P ((0 : Int32)) I J T) ∧ (¬ (x2 < 0) → ix_inb (x2) 3 = true ∧ ((I 123 (x2).toNatClampNeg < (((52 : Int32)) - (x1)) + (x2) → ix_inb (x2) 3 = true ∧ ix_inb (x2) 3 = true ∧ wl_X4_tryNext_37_4 (x1) ((x2) + ((1 : Int32))) (ix_u2 I 123 (x2).toNatClampNeg ((I 123 (x2).toNatClampNeg) + ((1 : Int32)))) J T V4 P) ∧ (¬ (I 123 (x2).toNatClampNeg < (((52 : Int32)) - (x1)) + (x2)) → V4 (x1) (x2 + (-1 : Int32)) I J T))))
def wl_X4_tryNext_4 (x1 : Int32) (x2 : Int32) (I : Nat → Nat → Int32) (J : Nat → Nat → Int64) (T : Option Nat) (P : Int32 → (Nat → Nat → Int32) → (Nat → Nat → Int64) → Option Nat → Prop) : Prop := ∀ V : Int32 → Int32 → (Nat → Nat → Int32) → (Nat → Nat → Int64) → Option Nat → Prop, (∀ (x1 : Int32) (x2 : Int32) (I : Nat → Nat → Int32) (J : Nat → Nat → Int64) (T : Option Nat), wb_X4_tryNext_4 x1 x2 I J T V P → V x1 x2 I J T) → V x1 x2 I J T
set_option maxRecDepth 20000 in
theorem tl_X4_tryNext_4 {d : Nat} {x1 : Int32} {x2 : Int32} {I : Nat → Nat → Int32} {J : Nat → Nat → Int64} {T : Option Nat} {P : Int32 → (Nat → Nat → Int32) → (Nat → Nat → Int64) → Option Nat → Prop} {Q : ix_Q} (h : wl_X4_tryNext_4 x1 x2 I J T P) (hQ : ∀ v I J T, P v I J T → Q (some (.inl v)) (ix_mem 276 I J T)) : ix_W (ix_C d) (4, ix_lk ix_l65, (some .boolean), 0, 0, Nat.blt 0 0, none) Q (4, [some (.inr (.inr (.inl (some (106))))), some (.inl (x1)), some (.inl (x2)), none], [], 0, 0, ix_mem 276 I J T) := by
  refine h (fun x1 x2 I J T => ix_W (ix_C d) (4, ix_lk ix_l65, (some .boolean), 0, 0, Nat.blt 0 0, none) Q (4, [some (.inr (.inr (.inl (some (106))))), some (.inl (x1)), some (.inl (x2)), none], [], 0, 0, ix_mem 276 I J T)) ?_
  intro x1 x2 I J T hb
  unfold wb_X4_tryNext_4 at hb
  refine ix_go 2 (x' := (if x2 < 0 then 72 else 8, [some (.inr (.inr (.inl (some (106))))), some (.inl (x1)), some (.inl (x2)), none], [], 0, 0, ix_mem 276 I J T)) rfl trivial ?_
  refine ix_br (fun c1 => ?_) (fun c1 => ?_)
  · have h2 := hb.1 c1
    refine ix_go 1 (x' := (73, [some (.inr (.inr (.inl (some (106))))), some (.inl (x1)), some (.inl (x2)), none], [.inl ((0 : Int32))], 0, 0, ix_mem 276 I J T)) rfl trivial ?_
    exact ix_sp rfl ⟨Nat.le_refl _, Nat.le_refl _, ix_01_ok rfl, hQ _ _ _ _ h2⟩
  · have h2 := hb.2 c1
    obtain ⟨p3, h4⟩ := h2
    refine ix_go 10 (x' := (if I 123 (x2).toNatClampNeg < (((52 : Int32)) - (x1)) + (x2) then 23 else 66, [some (.inr (.inr (.inl (some (106))))), some (.inl (x1)), some (.inl (x2)), none], [], 0, 0, ix_mem 276 I J T)) rfl ⟨rfl, rfl, rfl, rfl, p3⟩ ?_
    refine ix_br (fun c5 => ?_) (fun c5 => ?_)
    · have h6 := h4.1 c5
      obtain ⟨p7, h8⟩ := h6
      obtain ⟨p9, h10⟩ := h8
      refine ix_go 12 (x' := (37, [some (.inr (.inr (.inl (some (106))))), some (.inl (x1)), some (.inl (x2)), some (.inl ((x2) + ((1 : Int32))))], [], 0, 0, ix_mem 276 (ix_u2 I 123 (x2).toNatClampNeg ((I 123 (x2).toNatClampNeg) + ((1 : Int32)))) J T)) rfl ⟨rfl, rfl, rfl, rfl, p7, rfl, rfl, p9⟩ ?_
      refine ix_subW ([some (.inr (.inr (.inl (some (106))))), some (.inl (x1)), none, some (.inl ((x2) + ((1 : Int32))))]) (ix_subS (ix_subS (ix_subN (ix_subS (ix_sub0))))) ?_
      exact tl_X4_tryNext_37_4 h10 (fun _ _ I J T hv => hv) hQ
    · have h6 := h4.2 c5
      refine ix_go 2 (x' := (4, [some (.inr (.inr (.inl (some (106))))), some (.inl (x1)), some (.inl (x2 + (-1 : Int32))), none], [], 0, 0, ix_mem 276 I J T)) rfl trivial ?_
      refine ix_subW ([some (.inr (.inr (.inl (some (106))))), some (.inl (x1)), some (.inl (x2 + (-1 : Int32))), none]) (ix_subS (ix_subS (ix_subS (ix_subS (ix_sub0))))) ?_
      exact h6
def wp_X4_tryNext (a0 : Int32) (I : Nat → Nat → Int32) (J : Nat → Nat → Int64) (T : Option Nat) (P : Int32 → (Nat → Nat → Int32) → (Nat → Nat → Int64) → Option Nat → Prop) : Prop := wl_X4_tryNext_4 (a0) ((a0) - ((1 : Int32))) I J T P
set_option maxRecDepth 20000 in
theorem tp_X4_tryNext {d : Nat} {a0 : Int32} {I : Nat → Nat → Int32} {J : Nat → Nat → Int64} {T : Option Nat} {P : Int32 → (Nat → Nat → Int32) → (Nat → Nat → Int64) → Option Nat → Prop} {Q : ix_Q} (h : wp_X4_tryNext a0 I J T P) (hQ : ∀ v I J T, P v I J T → Q (some (.inl v)) (ix_mem 276 I J T)) : ix_C (d + 1) 65 [.inr (.inr (.inl (some (106)))), .inl (a0)] (ix_mem 276 I J T) Q := by
  unfold wp_X4_tryNext at h
  refine ix_enter (ls := [some (.inr (.inr (.inl (some (106))))), some (.inl (a0)), none, none]) rfl rfl rfl (Nat.le_of_ble_eq_true rfl) ?_
  refine ix_go 4 (x' := (4, [some (.inr (.inr (.inl (some (106))))), some (.inl (a0)), some (.inl ((a0) - ((1 : Int32)))), none], [], 0, 0, ix_mem 276 I J T)) rfl trivial ?_
  refine ix_subW ([some (.inr (.inr (.inl (some (106))))), some (.inl (a0)), some (.inl ((a0) - ((1 : Int32)))), none]) (ix_subS (ix_subS (ix_subS (ix_subS (ix_sub0))))) ?_
  exact tl_X4_tryNext_4 h hQ
def wb_X4_findTelling_64_10_33 (x1 : Int32) (x2 : Int32) (x4 : Int32) (x6 : Int32) (I : Nat → Nat → Int32) (J : Nat → Nat → Int64) (T : Option Nat) (V64 : Int32 → Int32 → Int32 → Int32 → (Nat → Nat → Int32) → (Nat → Nat → Int64) → Option Nat → Prop) (V10 : Int32 → Int32 → Int32 → (Nat → Nat → Int32) → (Nat → Nat → Int64) → Option Nat → Prop) (V33 : Int32 → Int32 → Int32 → Int32 → (Nat → Nat → Int32) → (Nat → Nat → Int64) → Option Nat → Prop) (P : Int32 → (Nat → Nat → Int32) → (Nat → Nat → Int64) → Option Nat → Prop) : Prop := ((x6 < x1 → ix_inb (x6) 3 = true ∧ ix_inb (x6) 3 = true ∧ V64 (x1) (x2) (x4) (x6 + (1 : Int32)) (ix_u2 I 122 (x6).toNatClampNeg (I 123 (x6).toNatClampNeg)) J T) ∧ (¬ (x6 < x1) → wp_X4_tryNext (x1) I J T (fun v18 I18 J18 T18 => V33 (x1) (x2) (v18) (x4 + (1 : Int32)) I18 J18 T18)))
def wl_X4_findTelling_64_10_33 (x1 : Int32) (x2 : Int32) (x4 : Int32) (x6 : Int32) (I : Nat → Nat → Int32) (J : Nat → Nat → Int64) (T : Option Nat) (V10 : Int32 → Int32 → Int32 → (Nat → Nat → Int32) → (Nat → Nat → Int64) → Option Nat → Prop) (V33 : Int32 → Int32 → Int32 → Int32 → (Nat → Nat → Int32) → (Nat → Nat → Int64) → Option Nat → Prop) (P : Int32 → (Nat → Nat → Int32) → (Nat → Nat → Int64) → Option Nat → Prop) : Prop := ∀ V : Int32 → Int32 → Int32 → Int32 → (Nat → Nat → Int32) → (Nat → Nat → Int64) → Option Nat → Prop, (∀ (x1 : Int32) (x2 : Int32) (x4 : Int32) (x6 : Int32) (I : Nat → Nat → Int32) (J : Nat → Nat → Int64) (T : Option Nat), wb_X4_findTelling_64_10_33 x1 x2 x4 x6 I J T V V10 V33 P → V x1 x2 x4 x6 I J T) → V x1 x2 x4 x6 I J T
set_option maxRecDepth 20000 in
theorem tl_X4_findTelling_64_10_33 {d : Nat} {x1 : Int32} {x2 : Int32} {x4 : Int32} {x6 : Int32} {I : Nat → Nat → Int32} {J : Nat → Nat → Int64} {T : Option Nat} {V10 : Int32 → Int32 → Int32 → (Nat → Nat → Int32) → (Nat → Nat → Int64) → Option Nat → Prop} {V33 : Int32 → Int32 → Int32 → Int32 → (Nat → Nat → Int32) → (Nat → Nat → Int64) → Option Nat → Prop} {P : Int32 → (Nat → Nat → Int32) → (Nat → Nat → Int64) → Option Nat → Prop} {Q : ix_Q} (h : wl_X4_findTelling_64_10_33 x1 x2 x4 x6 I J T V10 V33 P) (hV10 : ∀ (x1 : Int32) (x2 : Int32) (x3 : Int32) I J T, V10 x1 x2 x3 I J T → ix_W (ix_C (d + 1)) (4, ix_lk ix_l66, (some .int), 0, 0, Nat.blt 0 0, none) Q (10, [some (.inr (.inr (.inl (some (106))))), some (.inl (x1)), some (.inl (x2)), some (.inl (x3)), none, none, none], [], 0, 0, ix_mem 276 I J T)) (hV33 : ∀ (x1 : Int32) (x2 : Int32) (x3 : Int32) (x4 : Int32) I J T, V33 x1 x2 x3 x4 I J T → ix_W (ix_C (d + 1)) (4, ix_lk ix_l66, (some .int), 0, 0, Nat.blt 0 0, none) Q (33, [some (.inr (.inr (.inl (some (106))))), some (.inl (x1)), some (.inl (x2)), some (.inl (x3)), some (.inl (x4)), none, none], [], 0, 0, ix_mem 276 I J T)) (hQ : ∀ v I J T, P v I J T → Q (some (.inl v)) (ix_mem 276 I J T)) : ix_W (ix_C (d + 1)) (4, ix_lk ix_l66, (some .int), 0, 0, Nat.blt 0 0, none) Q (64, [some (.inr (.inr (.inl (some (106))))), some (.inl (x1)), some (.inl (x2)), none, some (.inl (x4)), none, some (.inl (x6))], [], 0, 0, ix_mem 276 I J T) := by
  refine h (fun x1 x2 x4 x6 I J T => ix_W (ix_C (d + 1)) (4, ix_lk ix_l66, (some .int), 0, 0, Nat.blt 0 0, none) Q (64, [some (.inr (.inr (.inl (some (106))))), some (.inl (x1)), some (.inl (x2)), none, some (.inl (x4)), none, some (.inl (x6))], [], 0, 0, ix_mem 276 I J T)) ?_
  intro x1 x2 x4 x6 I J T hb
  unfold wb_X4_findTelling_64_10_33 at hb
  refine ix_go 3 (x' := (if x6 < x1 then 70 else 90, [some (.inr (.inr (.inl (some (106))))), some (.inl (x1)), some (.inl (x2)), none, some (.inl (x4)), none, some (.inl (x6))], [], 0, 0, ix_mem 276 I J T)) rfl trivial ?_
  refine ix_br (fun c12 => ?_) (fun c12 => ?_)
  · have h13 := hb.1 c12
    obtain ⟨p14, h15⟩ := h13
    obtain ⟨p16, h17⟩ := h15
    refine ix_go 10 (x' := (64, [some (.inr (.inr (.inl (some (106))))), some (.inl (x1)), some (.inl (x2)), none, some (.inl (x4)), none, some (.inl (x6 + (1 : Int32)))], [], 0, 0, ix_mem 276 (ix_u2 I 122 (x6).toNatClampNeg (I 123 (x6).toNatClampNeg)) J T)) rfl ⟨rfl, rfl, rfl, rfl, rfl, rfl, p14, rfl, rfl, p16⟩ ?_
    refine ix_subW ([some (.inr (.inr (.inl (some (106))))), some (.inl (x1)), some (.inl (x2)), none, some (.inl (x4)), none, some (.inl (x6 + (1 : Int32)))]) (ix_subS (ix_subS (ix_subS (ix_subS (ix_subS (ix_subS (ix_subS (ix_sub0)))))))) ?_
    exact h17
  · have h13 := hb.2 c12
    refine ix_go 2 (x' := (92, [some (.inr (.inr (.inl (some (106))))), some (.inl (x1)), some (.inl (x2)), none, some (.inl (x4)), none, some (.inl (x6))], [.inl (x1), .inr (.inr (.inl (some (106))))], 0, 0, ix_mem 276 I J T)) rfl trivial ?_
    refine ix_sp rfl ⟨rfl, ⟨ix_lt rfl, ix_eq rfl, ix_lt rfl⟩, ix_le rfl, Nat.le_refl _, Nat.le_refl _, tp_X4_tryNext h13 (fun v18 I18 J18 T18 h18 => ?_)⟩
    change ix_W _ _ _ (95, [some (.inr (.inr (.inl (some (106))))), some (.inl (x1)), some (.inl (x2)), none, some (.inl (x4)), none, some (.inl (x6))], [.inl (v18)], 0, 0, ix_mem 276 I18 J18 T18)
    refine ix_go 3 (x' := (33, [some (.inr (.inr (.inl (some (106))))), some (.inl (x1)), some (.inl (x2)), some (.inl (v18)), some (.inl (x4 + (1 : Int32))), none, some (.inl (x6))], [], 0, 0, ix_mem 276 I18 J18 T18)) rfl trivial ?_
    refine ix_subW ([some (.inr (.inr (.inl (some (106))))), some (.inl (x1)), some (.inl (x2)), some (.inl (v18)), some (.inl (x4 + (1 : Int32))), none, none]) (ix_subS (ix_subS (ix_subS (ix_subS (ix_subS (ix_subS (ix_subN (ix_sub0)))))))) ?_
    exact hV33 _ _ _ _ _ _ _ h18
def wb_X4_findTelling_33_10 (x1 : Int32) (x2 : Int32) (x3 : Int32) (x4 : Int32) (I : Nat → Nat → Int32) (J : Nat → Nat → Int64) (T : Option Nat) (V33 : Int32 → Int32 → Int32 → Int32 → (Nat → Nat → Int32) → (Nat → Nat → Int64) → Option Nat → Prop) (V10 : Int32 → Int32 → Int32 → (Nat → Nat → Int32) → (Nat → Nat → Int64) → Option Nat → Prop) (P : Int32 → (Nat → Nat → Int32) → (Nat → Nat → Int64) → Option Nat → Prop) : Prop := ((x4 < (140608 : Int32) → ((x3 = 0 → P (x2) I J T) ∧ (¬ (x3 = 0) → wp_X4_farOff (x1) (x2) I J T (fun v9 I9 J9 T9 => ((v9 < x2 → wl_X4_findTelling_64_10_33 (x1) (v9) (x4) ((0 : Int32)) I9 J9 T9 V10 V33 P) ∧ (¬ (v9 < x2) → wp_X4_tryNext (x1) I9 J9 T9 (fun v19 I19 J19 T19 => V33 (x1) (x2) (v19) (x4 + (1 : Int32)) I19 J19 T19))))))) ∧ (¬ (x4 < (140608 : Int32)) → P (x2) I J T))
def wl_X4_findTelling_33_10 (x1 : Int32) (x2 : Int32) (x3 : Int32) (x4 : Int32) (I : Nat → Nat → Int32) (J : Nat → Nat → Int64) (T : Option Nat) (V10 : Int32 → Int32 → Int32 → (Nat → Nat → Int32) → (Nat → Nat → Int64) → Option Nat → Prop) (P : Int32 → (Nat → Nat → Int32) → (Nat → Nat → Int64) → Option Nat → Prop) : Prop := ∀ V : Int32 → Int32 → Int32 → Int32 → (Nat → Nat → Int32) → (Nat → Nat → Int64) → Option Nat → Prop, (∀ (x1 : Int32) (x2 : Int32) (x3 : Int32) (x4 : Int32) (I : Nat → Nat → Int32) (J : Nat → Nat → Int64) (T : Option Nat), wb_X4_findTelling_33_10 x1 x2 x3 x4 I J T V V10 P → V x1 x2 x3 x4 I J T) → V x1 x2 x3 x4 I J T
set_option maxRecDepth 20000 in
theorem tl_X4_findTelling_33_10 {d : Nat} {x1 : Int32} {x2 : Int32} {x3 : Int32} {x4 : Int32} {I : Nat → Nat → Int32} {J : Nat → Nat → Int64} {T : Option Nat} {V10 : Int32 → Int32 → Int32 → (Nat → Nat → Int32) → (Nat → Nat → Int64) → Option Nat → Prop} {P : Int32 → (Nat → Nat → Int32) → (Nat → Nat → Int64) → Option Nat → Prop} {Q : ix_Q} (h : wl_X4_findTelling_33_10 x1 x2 x3 x4 I J T V10 P) (hV10 : ∀ (x1 : Int32) (x2 : Int32) (x3 : Int32) I J T, V10 x1 x2 x3 I J T → ix_W (ix_C (d + 2)) (4, ix_lk ix_l66, (some .int), 0, 0, Nat.blt 0 0, none) Q (10, [some (.inr (.inr (.inl (some (106))))), some (.inl (x1)), some (.inl (x2)), some (.inl (x3)), none, none, none], [], 0, 0, ix_mem 276 I J T)) (hQ : ∀ v I J T, P v I J T → Q (some (.inl v)) (ix_mem 276 I J T)) : ix_W (ix_C (d + 2)) (4, ix_lk ix_l66, (some .int), 0, 0, Nat.blt 0 0, none) Q (33, [some (.inr (.inr (.inl (some (106))))), some (.inl (x1)), some (.inl (x2)), some (.inl (x3)), some (.inl (x4)), none, none], [], 0, 0, ix_mem 276 I J T) := by
  refine h (fun x1 x2 x3 x4 I J T => ix_W (ix_C (d + 2)) (4, ix_lk ix_l66, (some .int), 0, 0, Nat.blt 0 0, none) Q (33, [some (.inr (.inr (.inl (some (106))))), some (.inl (x1)), some (.inl (x2)), some (.inl (x3)), some (.inl (x4)), none, none], [], 0, 0, ix_mem 276 I J T)) ?_
  intro x1 x2 x3 x4 I J T hb
  unfold wb_X4_findTelling_33_10 at hb
  refine ix_go 3 (x' := (if x4 < (140608 : Int32) then 40 else 102, [some (.inr (.inr (.inl (some (106))))), some (.inl (x1)), some (.inl (x2)), some (.inl (x3)), some (.inl (x4)), none, none], [], 0, 0, ix_mem 276 I J T)) rfl trivial ?_
  refine ix_br (fun c5 => ?_) (fun c5 => ?_)
  · have h6 := hb.1 c5
    refine ix_go 2 (x' := (if x3 = 0 then 102 else 44, [some (.inr (.inr (.inl (some (106))))), some (.inl (x1)), some (.inl (x2)), some (.inl (x3)), some (.inl (x4)), none, none], [], 0, 0, ix_mem 276 I J T)) rfl trivial ?_
    refine ix_br (fun c7 => ?_) (fun c7 => ?_)
    · have h8 := h6.1 c7
      refine ix_go 1 (x' := (103, [some (.inr (.inr (.inl (some (106))))), some (.inl (x1)), some (.inl (x2)), some (.inl (x3)), some (.inl (x4)), none, none], [.inl (x2)], 0, 0, ix_mem 276 I J T)) rfl trivial ?_
      exact ix_sp rfl ⟨Nat.le_refl _, Nat.le_refl _, trivial, hQ _ _ _ _ h8⟩
    · have h8 := h6.2 c7
      refine ix_go 3 (x' := (47, [some (.inr (.inr (.inl (some (106))))), some (.inl (x1)), some (.inl (x2)), some (.inl (x3)), some (.inl (x4)), none, none], [.inl (x2), .inl (x1), .inr (.inr (.inl (some (106))))], 0, 0, ix_mem 276 I J T)) rfl trivial ?_
      refine ix_sp rfl ⟨rfl, ⟨ix_lt rfl, ix_eq rfl, ix_lt rfl⟩, ix_le rfl, Nat.le_refl _, Nat.le_refl _, tp_X4_farOff h8 (fun v9 I9 J9 T9 h9 => ?_)⟩
      change ix_W _ _ _ (50, [some (.inr (.inr (.inl (some (106))))), some (.inl (x1)), some (.inl (x2)), some (.inl (x3)), some (.inl (x4)), none, none], [.inl (v9)], 0, 0, ix_mem 276 I9 J9 T9)
      refine ix_go 4 (x' := (if v9 < x2 then 58 else 90, [some (.inr (.inr (.inl (some (106))))), some (.inl (x1)), some (.inl (x2)), some (.inl (x3)), some (.inl (x4)), some (.inl (v9)), none], [], 0, 0, ix_mem 276 I9 J9 T9)) rfl trivial ?_
      refine ix_br (fun c10 => ?_) (fun c10 => ?_)
      · have h11 := h9.1 c10
        refine ix_go 4 (x' := (64, [some (.inr (.inr (.inl (some (106))))), some (.inl (x1)), some (.inl (v9)), some (.inl (x3)), some (.inl (x4)), some (.inl (v9)), some (.inl ((0 : Int32)))], [], 0, 0, ix_mem 276 I9 J9 T9)) rfl trivial ?_
        refine ix_subW ([some (.inr (.inr (.inl (some (106))))), some (.inl (x1)), some (.inl (v9)), none, some (.inl (x4)), none, some (.inl ((0 : Int32)))]) (ix_subS (ix_subS (ix_subS (ix_subN (ix_subS (ix_subN (ix_subS (ix_sub0)))))))) ?_
        exact tl_X4_findTelling_64_10_33 h11 hV10 (fun _ _ _ _ I J T hv => hv) hQ
      · have h11 := h9.2 c10
        refine ix_go 2 (x' := (92, [some (.inr (.inr (.inl (some (106))))), some (.inl (x1)), some (.inl (x2)), some (.inl (x3)), some (.inl (x4)), some (.inl (v9)), none], [.inl (x1), .inr (.inr (.inl (some (106))))], 0, 0, ix_mem 276 I9 J9 T9)) rfl trivial ?_
        refine ix_sp rfl ⟨rfl, ⟨ix_lt rfl, ix_eq rfl, ix_lt rfl⟩, ix_le rfl, Nat.le_refl _, Nat.le_refl _, tp_X4_tryNext h11 (fun v19 I19 J19 T19 h19 => ?_)⟩
        change ix_W _ _ _ (95, [some (.inr (.inr (.inl (some (106))))), some (.inl (x1)), some (.inl (x2)), some (.inl (x3)), some (.inl (x4)), some (.inl (v9)), none], [.inl (v19)], 0, 0, ix_mem 276 I19 J19 T19)
        refine ix_go 3 (x' := (33, [some (.inr (.inr (.inl (some (106))))), some (.inl (x1)), some (.inl (x2)), some (.inl (v19)), some (.inl (x4 + (1 : Int32))), some (.inl (v9)), none], [], 0, 0, ix_mem 276 I19 J19 T19)) rfl trivial ?_
        refine ix_subW ([some (.inr (.inr (.inl (some (106))))), some (.inl (x1)), some (.inl (x2)), some (.inl (v19)), some (.inl (x4 + (1 : Int32))), none, none]) (ix_subS (ix_subS (ix_subS (ix_subS (ix_subS (ix_subN (ix_subS (ix_sub0)))))))) ?_
        exact h19
  · have h6 := hb.2 c5
    refine ix_go 1 (x' := (103, [some (.inr (.inr (.inl (some (106))))), some (.inl (x1)), some (.inl (x2)), some (.inl (x3)), some (.inl (x4)), none, none], [.inl (x2)], 0, 0, ix_mem 276 I J T)) rfl trivial ?_
    exact ix_sp rfl ⟨Nat.le_refl _, Nat.le_refl _, trivial, hQ _ _ _ _ h6⟩
def wb_X4_findTelling_10 (x1 : Int32) (x2 : Int32) (x3 : Int32) (I : Nat → Nat → Int32) (J : Nat → Nat → Int64) (T : Option Nat) (V10 : Int32 → Int32 → Int32 → (Nat → Nat → Int32) → (Nat → Nat → Int64) → Option Nat → Prop) (P : Int32 → (Nat → Nat → Int32) → (Nat → Nat → Int64) → Option Nat → Prop) : Prop := ((x3 < x1 → ix_inb (x3) 3 = true ∧ V10 (x1) (x2) (x3 + (1 : Int32)) (ix_u2 I 123 (x3).toNatClampNeg (x3)) J T) ∧ (¬ (x3 < x1) → wl_X4_findTelling_33_10 (x1) (x2) ((1 : Int32)) ((0 : Int32)) I J T V10 P))
def wl_X4_findTelling_10 (x1 : Int32) (x2 : Int32) (x3 : Int32) (I : Nat → Nat → Int32) (J : Nat → Nat → Int64) (T : Option Nat) (P : Int32 → (Nat → Nat → Int32) → (Nat → Nat → Int64) → Option Nat → Prop) : Prop := ∀ V : Int32 → Int32 → Int32 → (Nat → Nat → Int32) → (Nat → Nat → Int64) → Option Nat → Prop, (∀ (x1 : Int32) (x2 : Int32) (x3 : Int32) (I : Nat → Nat → Int32) (J : Nat → Nat → Int64) (T : Option Nat), wb_X4_findTelling_10 x1 x2 x3 I J T V P → V x1 x2 x3 I J T) → V x1 x2 x3 I J T
set_option maxRecDepth 20000 in
theorem tl_X4_findTelling_10 {d : Nat} {x1 : Int32} {x2 : Int32} {x3 : Int32} {I : Nat → Nat → Int32} {J : Nat → Nat → Int64} {T : Option Nat} {P : Int32 → (Nat → Nat → Int32) → (Nat → Nat → Int64) → Option Nat → Prop} {Q : ix_Q} (h : wl_X4_findTelling_10 x1 x2 x3 I J T P) (hQ : ∀ v I J T, P v I J T → Q (some (.inl v)) (ix_mem 276 I J T)) : ix_W (ix_C (d + 2)) (4, ix_lk ix_l66, (some .int), 0, 0, Nat.blt 0 0, none) Q (10, [some (.inr (.inr (.inl (some (106))))), some (.inl (x1)), some (.inl (x2)), some (.inl (x3)), none, none, none], [], 0, 0, ix_mem 276 I J T) := by
  refine h (fun x1 x2 x3 I J T => ix_W (ix_C (d + 2)) (4, ix_lk ix_l66, (some .int), 0, 0, Nat.blt 0 0, none) Q (10, [some (.inr (.inr (.inl (some (106))))), some (.inl (x1)), some (.inl (x2)), some (.inl (x3)), none, none, none], [], 0, 0, ix_mem 276 I J T)) ?_
  intro x1 x2 x3 I J T hb
  unfold wb_X4_findTelling_10 at hb
  refine ix_go 3 (x' := (if x3 < x1 then 15 else 28, [some (.inr (.inr (.inl (some (106))))), some (.inl (x1)), some (.inl (x2)), some (.inl (x3)), none, none, none], [], 0, 0, ix_mem 276 I J T)) rfl trivial ?_
  refine ix_br (fun c1 => ?_) (fun c1 => ?_)
  · have h2 := hb.1 c1
    obtain ⟨p3, h4⟩ := h2
    refine ix_go 7 (x' := (10, [some (.inr (.inr (.inl (some (106))))), some (.inl (x1)), some (.inl (x2)), some (.inl (x3 + (1 : Int32))), none, none, none], [], 0, 0, ix_mem 276 (ix_u2 I 123 (x3).toNatClampNeg (x3)) J T)) rfl ⟨rfl, rfl, rfl, rfl, p3⟩ ?_
    refine ix_subW ([some (.inr (.inr (.inl (some (106))))), some (.inl (x1)), some (.inl (x2)), some (.inl (x3 + (1 : Int32))), none, none, none]) (ix_subS (ix_subS (ix_subS (ix_subS (ix_subS (ix_subS (ix_subS (ix_sub0)))))))) ?_
    exact h4
  · have h2 := hb.2 c1
    refine ix_go 4 (x' := (33, [some (.inr (.inr (.inl (some (106))))), some (.inl (x1)), some (.inl (x2)), some (.inl ((1 : Int32))), some (.inl ((0 : Int32))), none, none], [], 0, 0, ix_mem 276 I J T)) rfl trivial ?_
    refine ix_subW ([some (.inr (.inr (.inl (some (106))))), some (.inl (x1)), some (.inl (x2)), some (.inl ((1 : Int32))), some (.inl ((0 : Int32))), none, none]) (ix_subS (ix_subS (ix_subS (ix_subS (ix_subS (ix_subS (ix_subS (ix_sub0)))))))) ?_
    exact tl_X4_findTelling_33_10 h2 (fun _ _ _ I J T hv => hv) hQ
def wp_X4_findTelling (a0 : Int32) (I : Nat → Nat → Int32) (J : Nat → Nat → Int64) (T : Option Nat) (P : Int32 → (Nat → Nat → Int32) → (Nat → Nat → Int64) → Option Nat → Prop) : Prop := wl_X4_findTelling_10 (a0) ((2147483647 : Int32)) ((0 : Int32)) (ix_u2 I 106 9 (a0)) J T P
set_option maxRecDepth 20000 in
theorem tp_X4_findTelling {d : Nat} {a0 : Int32} {I : Nat → Nat → Int32} {J : Nat → Nat → Int64} {T : Option Nat} {P : Int32 → (Nat → Nat → Int32) → (Nat → Nat → Int64) → Option Nat → Prop} {Q : ix_Q} (h : wp_X4_findTelling a0 I J T P) (hQ : ∀ v I J T, P v I J T → Q (some (.inl v)) (ix_mem 276 I J T)) : ix_C (d + 3) 66 [.inr (.inr (.inl (some (106)))), .inl (a0)] (ix_mem 276 I J T) Q := by
  unfold wp_X4_findTelling at h
  refine ix_enter (ls := [some (.inr (.inr (.inl (some (106))))), some (.inl (a0)), none, none, none, none, none]) rfl rfl rfl (Nat.le_of_ble_eq_true rfl) ?_
  refine ix_go 7 (x' := (10, [some (.inr (.inr (.inl (some (106))))), some (.inl (a0)), some (.inl ((2147483647 : Int32))), some (.inl ((0 : Int32))), none, none, none], [], 0, 0, ix_mem 276 (ix_u2 I 106 9 (a0)) J T)) rfl ⟨rfl, rfl⟩ ?_
  refine ix_subW ([some (.inr (.inr (.inl (some (106))))), some (.inl (a0)), some (.inl ((2147483647 : Int32))), some (.inl ((0 : Int32))), none, none, none]) (ix_subS (ix_subS (ix_subS (ix_subS (ix_subS (ix_subS (ix_subS (ix_sub0)))))))) ?_
  exact tl_X4_findTelling_10 h hQ
def wb_X5_findCarriages_10_2 (x1 : Int32) (x2 : Int32) (I : Nat → Nat → Int32) (J : Nat → Nat → Int64) (T : Option Nat) (V10 : Int32 → Int32 → (Nat → Nat → Int32) → (Nat → Nat → Int64) → Option Nat → Prop) (V2 : Int32 → (Nat → Nat → Int32) → (Nat → Nat → Int64) → Option Nat → Prop) (P : (Nat → Nat → Int32) → (Nat → Nat → Int64) → Option Nat → Prop) : Prop := ((x2 < (7 : Int32) → ix_inb (x1) 7 = true ∧ ix_inb (x2) 7 = true ∧ ((I (ix_row 12 (x1)) (x2).toNatClampNeg ≤ 0 → ix_inb (x1) 7 = true ∧ ((x1 = x2 → ix_inb (x2) 7 = true ∧ V10 (x1) (x2 + (1 : Int32)) (ix_u2 I (ix_row 28 (x1)) (x2).toNatClampNeg ((0 : Int32))) J T) ∧ (¬ (x1 = x2) → ix_inb (x2) 7 = true ∧ V10 (x1) (x2 + (1 : Int32)) (ix_u2 I (ix_row 28 (x1)) (x2).toNatClampNeg ((1000000 : Int32))) J T))) ∧ (¬ (I (ix_row 12 (x1)) (x2).toNatClampNeg ≤ 0) → ix_inb (x1) 7 = true ∧ ix_inb (x2) 7 = true ∧ ix_inb (x1) 7 = true ∧ ((x1 = x2 → ix_inb (x2) 7 = true ∧ V10 (x1) (x2 + (1 : Int32)) (ix_u2 I (ix_row 28 (x1)) (x2).toNatClampNeg ((0 : Int32))) J T) ∧ (¬ (x1 = x2) → ix_inb (x2) 7 = true ∧ V10 (x1) (x2 + (1 : Int32)) (ix_u2 I (ix_row 28 (x1)) (x2).toNatClampNeg (I (ix_row 20 (x1)) (x2).toNatClampNeg)) J T))))) ∧ (¬ (x2 < (7 : Int32)) → V2 (x1 + (1 : Int32)) I J T))
def wl_X5_findCarriages_10_2 (x1 : Int32) (x2 : Int32) (I : Nat → Nat → Int32) (J : Nat → Nat → Int64) (T : Option Nat) (V2 : Int32 → (Nat → Nat → Int32) → (Nat → Nat → Int64) → Option Nat → Prop) (P : (Nat → Nat → Int32) → (Nat → Nat → Int64) → Option Nat → Prop) : Prop := ∀ V : Int32 → Int32 → (Nat → Nat → Int32) → (Nat → Nat → Int64) → Option Nat → Prop, (∀ (x1 : Int32) (x2 : Int32) (I : Nat → Nat → Int32) (J : Nat → Nat → Int64) (T : Option Nat), wb_X5_findCarriages_10_2 x1 x2 I J T V V2 P → V x1 x2 I J T) → V x1 x2 I J T
set_option maxRecDepth 20000 in
theorem tl_X5_findCarriages_10_2 {d : Nat} {x1 : Int32} {x2 : Int32} {I : Nat → Nat → Int32} {J : Nat → Nat → Int64} {T : Option Nat} {V2 : Int32 → (Nat → Nat → Int32) → (Nat → Nat → Int64) → Option Nat → Prop} {P : (Nat → Nat → Int32) → (Nat → Nat → Int64) → Option Nat → Prop} {Q : ix_Q} (h : wl_X5_findCarriages_10_2 x1 x2 I J T V2 P) (hV2 : ∀ (x1 : Int32) I J T, V2 x1 I J T → ix_W (ix_C d) (5, ix_lk ix_l67, none, 0, 0, Nat.blt 0 0, none) Q (2, [some (.inr (.inr (.inl (some (8))))), some (.inl (x1)), none, none, none], [], 0, 0, ix_mem 276 I J T)) (hQ : ∀ I J T, P I J T → Q none (ix_mem 276 I J T)) : ix_W (ix_C d) (5, ix_lk ix_l67, none, 0, 0, Nat.blt 0 0, none) Q (10, [some (.inr (.inr (.inl (some (8))))), some (.inl (x1)), some (.inl (x2)), none, none], [], 0, 0, ix_mem 276 I J T) := by
  refine h (fun x1 x2 I J T => ix_W (ix_C d) (5, ix_lk ix_l67, none, 0, 0, Nat.blt 0 0, none) Q (10, [some (.inr (.inr (.inl (some (8))))), some (.inl (x1)), some (.inl (x2)), none, none], [], 0, 0, ix_mem 276 I J T)) ?_
  intro x1 x2 I J T hb
  unfold wb_X5_findCarriages_10_2 at hb
  refine ix_go 3 (x' := (if x2 < (7 : Int32) then 16 else 65, [some (.inr (.inr (.inl (some (8))))), some (.inl (x1)), some (.inl (x2)), none, none], [], 0, 0, ix_mem 276 I J T)) rfl trivial ?_
  refine ix_br (fun c3 => ?_) (fun c3 => ?_)
  · have h4 := hb.1 c3
    obtain ⟨p5, h6⟩ := h4
    obtain ⟨p7, h8⟩ := h6
    refine ix_go 7 (x' := (if I (ix_row 12 (x1)) (x2).toNatClampNeg ≤ 0 then 38 else 27, [some (.inr (.inr (.inl (some (8))))), some (.inl (x1)), some (.inl (x2)), none, none], [], 0, 0, ix_mem 276 I J T)) rfl ⟨rfl, rfl, rfl, rfl, rfl, p5, (rw_12 p5).1, (rw_12 p5).2.1, (rw_12 p5).2.2.1, (ix_inbL (rw_12 p5).2.2.2.1 p7)⟩ ?_
    refine ix_br (fun c9 => ?_) (fun c9 => ?_)
    · have h10 := h8.1 c9
      obtain ⟨p11, h12⟩ := h10
      refine ix_go 10 (x' := (if x1 = x2 then 53 else 57, [some (.inr (.inr (.inl (some (8))))), some (.inl (x1)), some (.inl (x2)), some (.inl ((1000000 : Int32))), none], [.inl (x2), .inr (.inr (.inl (some (ix_row 28 (x1)))))], 0, 0, ix_mem 276 I J T)) rfl ⟨rfl, rfl, rfl, rfl, rfl, p11, (rw_28 p11).1⟩ ?_
      refine ix_br (fun c13 => ?_) (fun c13 => ?_)
      · have h14 := h12.1 c13
        obtain ⟨p15, h16⟩ := h14
        refine ix_go 5 (x' := (10, [some (.inr (.inr (.inl (some (8))))), some (.inl (x1)), some (.inl (x2 + (1 : Int32))), some (.inl ((1000000 : Int32))), none], [], 0, 0, ix_mem 276 (ix_u2 I (ix_row 28 (x1)) (x2).toNatClampNeg ((0 : Int32))) J T)) rfl ⟨(rw_28 p11).2.1, (rw_28 p11).2.2.1, (ix_inbL (rw_28 p11).2.2.2.1 p15)⟩ ?_
        refine ix_subW ([some (.inr (.inr (.inl (some (8))))), some (.inl (x1)), some (.inl (x2 + (1 : Int32))), none, none]) (ix_subS (ix_subS (ix_subS (ix_subN (ix_subS (ix_sub0)))))) ?_
        exact h16
      · have h14 := h12.2 c13
        obtain ⟨p17, h18⟩ := h14
        refine ix_go 4 (x' := (10, [some (.inr (.inr (.inl (some (8))))), some (.inl (x1)), some (.inl (x2 + (1 : Int32))), some (.inl ((1000000 : Int32))), none], [], 0, 0, ix_mem 276 (ix_u2 I (ix_row 28 (x1)) (x2).toNatClampNeg ((1000000 : Int32))) J T)) rfl ⟨(rw_28 p11).2.1, (rw_28 p11).2.2.1, (ix_inbL (rw_28 p11).2.2.2.1 p17)⟩ ?_
        refine ix_subW ([some (.inr (.inr (.inl (some (8))))), some (.inl (x1)), some (.inl (x2 + (1 : Int32))), none, none]) (ix_subS (ix_subS (ix_subS (ix_subN (ix_subS (ix_sub0)))))) ?_
        exact h18
    · have h10 := h8.2 c9
      obtain ⟨p19, h20⟩ := h10
      obtain ⟨p21, h22⟩ := h20
      obtain ⟨p23, h24⟩ := h22
      refine ix_go 16 (x' := (if x1 = x2 then 53 else 57, [some (.inr (.inr (.inl (some (8))))), some (.inl (x1)), some (.inl (x2)), some (.inl (I (ix_row 20 (x1)) (x2).toNatClampNeg)), none], [.inl (x2), .inr (.inr (.inl (some (ix_row 28 (x1)))))], 0, 0, ix_mem 276 I J T)) rfl ⟨rfl, rfl, rfl, rfl, rfl, p19, (rw_20 p19).1, (rw_20 p19).2.1, (rw_20 p19).2.2.1, (ix_inbL (rw_20 p19).2.2.2.1 p21), rfl, rfl, rfl, rfl, rfl, p23, (rw_28 p23).1⟩ ?_
      refine ix_br (fun c25 => ?_) (fun c25 => ?_)
      · have h26 := h24.1 c25
        obtain ⟨p27, h28⟩ := h26
        refine ix_go 5 (x' := (10, [some (.inr (.inr (.inl (some (8))))), some (.inl (x1)), some (.inl (x2 + (1 : Int32))), some (.inl (I (ix_row 20 (x1)) (x2).toNatClampNeg)), none], [], 0, 0, ix_mem 276 (ix_u2 I (ix_row 28 (x1)) (x2).toNatClampNeg ((0 : Int32))) J T)) rfl ⟨(rw_28 p23).2.1, (rw_28 p23).2.2.1, (ix_inbL (rw_28 p23).2.2.2.1 p27)⟩ ?_
        refine ix_subW ([some (.inr (.inr (.inl (some (8))))), some (.inl (x1)), some (.inl (x2 + (1 : Int32))), none, none]) (ix_subS (ix_subS (ix_subS (ix_subN (ix_subS (ix_sub0)))))) ?_
        exact h28
      · have h26 := h24.2 c25
        obtain ⟨p29, h30⟩ := h26
        refine ix_go 4 (x' := (10, [some (.inr (.inr (.inl (some (8))))), some (.inl (x1)), some (.inl (x2 + (1 : Int32))), some (.inl (I (ix_row 20 (x1)) (x2).toNatClampNeg)), none], [], 0, 0, ix_mem 276 (ix_u2 I (ix_row 28 (x1)) (x2).toNatClampNeg (I (ix_row 20 (x1)) (x2).toNatClampNeg)) J T)) rfl ⟨(rw_28 p23).2.1, (rw_28 p23).2.2.1, (ix_inbL (rw_28 p23).2.2.2.1 p29)⟩ ?_
        refine ix_subW ([some (.inr (.inr (.inl (some (8))))), some (.inl (x1)), some (.inl (x2 + (1 : Int32))), none, none]) (ix_subS (ix_subS (ix_subS (ix_subN (ix_subS (ix_sub0)))))) ?_
        exact h30
  · have h4 := hb.2 c3
    refine ix_go 2 (x' := (2, [some (.inr (.inr (.inl (some (8))))), some (.inl (x1 + (1 : Int32))), some (.inl (x2)), none, none], [], 0, 0, ix_mem 276 I J T)) rfl trivial ?_
    refine ix_subW ([some (.inr (.inr (.inl (some (8))))), some (.inl (x1 + (1 : Int32))), none, none, none]) (ix_subS (ix_subS (ix_subN (ix_subS (ix_subS (ix_sub0)))))) ?_
    exact hV2 _ _ _ _ h4
def wb_X5_findCarriages_89_2_73_81 (x1 : Int32) (x2 : Int32) (x3 : Int32) (I : Nat → Nat → Int32) (J : Nat → Nat → Int64) (T : Option Nat) (V89 : Int32 → Int32 → Int32 → (Nat → Nat → Int32) → (Nat → Nat → Int64) → Option Nat → Prop) (V2 : Int32 → (Nat → Nat → Int32) → (Nat → Nat → Int64) → Option Nat → Prop) (V73 : Int32 → (Nat → Nat → Int32) → (Nat → Nat → Int64) → Option Nat → Prop) (V81 : Int32 → Int32 → (Nat → Nat → Int32) → (Nat → Nat → Int64) → Option Nat → Prop) (P : (Nat → Nat → Int32) → (Nat → Nat → Int64) → Option Nat → Prop) : Prop := ((x3 < (7 : Int32) → ix_inb (x2) 7 = true ∧ ix_inb (x1) 7 = true ∧ ix_inb (x1) 7 = true ∧ ix_inb (x3) 7 = true ∧ ix_inb (x2) 7 = true ∧ ix_inb (x2) 7 = true ∧ ix_inb (x3) 7 = true ∧ wp_J9_min_7cf53 (I (ix_row 28 (x2)) (x3).toNatClampNeg) ((I (ix_row 28 (x2)) (x1).toNatClampNeg) + (I (ix_row 28 (x1)) (x3).toNatClampNeg)) I J T (fun v51 I51 J51 T51 => ix_inb (x3) 7 = true ∧ V89 (x1) (x2) (x3 + (1 : Int32)) (ix_u2 I51 (ix_row 28 (x2)) (x3).toNatClampNeg (v51)) J51 T51)) ∧ (¬ (x3 < (7 : Int32)) → V81 (x1) (x2 + (1 : Int32)) I J T))
def wl_X5_findCarriages_89_2_73_81 (x1 : Int32) (x2 : Int32) (x3 : Int32) (I : Nat → Nat → Int32) (J : Nat → Nat → Int64) (T : Option Nat) (V2 : Int32 → (Nat → Nat → Int32) → (Nat → Nat → Int64) → Option Nat → Prop) (V73 : Int32 → (Nat → Nat → Int32) → (Nat → Nat → Int64) → Option Nat → Prop) (V81 : Int32 → Int32 → (Nat → Nat → Int32) → (Nat → Nat → Int64) → Option Nat → Prop) (P : (Nat → Nat → Int32) → (Nat → Nat → Int64) → Option Nat → Prop) : Prop := ∀ V : Int32 → Int32 → Int32 → (Nat → Nat → Int32) → (Nat → Nat → Int64) → Option Nat → Prop, (∀ (x1 : Int32) (x2 : Int32) (x3 : Int32) (I : Nat → Nat → Int32) (J : Nat → Nat → Int64) (T : Option Nat), wb_X5_findCarriages_89_2_73_81 x1 x2 x3 I J T V V2 V73 V81 P → V x1 x2 x3 I J T) → V x1 x2 x3 I J T
set_option maxRecDepth 20000 in
theorem tl_X5_findCarriages_89_2_73_81 {d : Nat} {x1 : Int32} {x2 : Int32} {x3 : Int32} {I : Nat → Nat → Int32} {J : Nat → Nat → Int64} {T : Option Nat} {V2 : Int32 → (Nat → Nat → Int32) → (Nat → Nat → Int64) → Option Nat → Prop} {V73 : Int32 → (Nat → Nat → Int32) → (Nat → Nat → Int64) → Option Nat → Prop} {V81 : Int32 → Int32 → (Nat → Nat → Int32) → (Nat → Nat → Int64) → Option Nat → Prop} {P : (Nat → Nat → Int32) → (Nat → Nat → Int64) → Option Nat → Prop} {Q : ix_Q} (h : wl_X5_findCarriages_89_2_73_81 x1 x2 x3 I J T V2 V73 V81 P) (hV2 : ∀ (x1 : Int32) I J T, V2 x1 I J T → ix_W (ix_C (d + 1)) (5, ix_lk ix_l67, none, 0, 0, Nat.blt 0 0, none) Q (2, [some (.inr (.inr (.inl (some (8))))), some (.inl (x1)), none, none, none], [], 0, 0, ix_mem 276 I J T)) (hV73 : ∀ (x1 : Int32) I J T, V73 x1 I J T → ix_W (ix_C (d + 1)) (5, ix_lk ix_l67, none, 0, 0, Nat.blt 0 0, none) Q (73, [some (.inr (.inr (.inl (some (8))))), some (.inl (x1)), none, none, none], [], 0, 0, ix_mem 276 I J T)) (hV81 : ∀ (x1 : Int32) (x2 : Int32) I J T, V81 x1 x2 I J T → ix_W (ix_C (d + 1)) (5, ix_lk ix_l67, none, 0, 0, Nat.blt 0 0, none) Q (81, [some (.inr (.inr (.inl (some (8))))), some (.inl (x1)), some (.inl (x2)), none, none], [], 0, 0, ix_mem 276 I J T)) (hQ : ∀ I J T, P I J T → Q none (ix_mem 276 I J T)) : ix_W (ix_C (d + 1)) (5, ix_lk ix_l67, none, 0, 0, Nat.blt 0 0, none) Q (89, [some (.inr (.inr (.inl (some (8))))), some (.inl (x1)), some (.inl (x2)), some (.inl (x3)), none], [], 0, 0, ix_mem 276 I J T) := by
  refine h (fun x1 x2 x3 I J T => ix_W (ix_C (d + 1)) (5, ix_lk ix_l67, none, 0, 0, Nat.blt 0 0, none) Q (89, [some (.inr (.inr (.inl (some (8))))), some (.inl (x1)), some (.inl (x2)), some (.inl (x3)), none], [], 0, 0, ix_mem 276 I J T)) ?_
  intro x1 x2 x3 I J T hb
  unfold wb_X5_findCarriages_89_2_73_81 at hb
  refine ix_go 3 (x' := (if x3 < (7 : Int32) then 95 else 141, [some (.inr (.inr (.inl (some (8))))), some (.inl (x1)), some (.inl (x2)), some (.inl (x3)), none], [], 0, 0, ix_mem 276 I J T)) rfl trivial ?_
  refine ix_br (fun c35 => ?_) (fun c35 => ?_)
  · have h36 := hb.1 c35
    obtain ⟨p37, h38⟩ := h36
    obtain ⟨p39, h40⟩ := h38
    obtain ⟨p41, h42⟩ := h40
    obtain ⟨p43, h44⟩ := h42
    obtain ⟨p45, h46⟩ := h44
    obtain ⟨p47, h48⟩ := h46
    obtain ⟨p49, h50⟩ := h48
    refine ix_go 26 (x' := (131, [some (.inr (.inr (.inl (some (8))))), some (.inl (x1)), some (.inl (x2)), some (.inl (x3)), some (.inl ((I (ix_row 28 (x2)) (x1).toNatClampNeg) + (I (ix_row 28 (x1)) (x3).toNatClampNeg)))], [.inl ((I (ix_row 28 (x2)) (x1).toNatClampNeg) + (I (ix_row 28 (x1)) (x3).toNatClampNeg)), .inl (I (ix_row 28 (x2)) (x3).toNatClampNeg), .inl (x3), .inr (.inr (.inl (some (ix_row 28 (x2)))))], 0, 0, ix_mem 276 I J T)) rfl ⟨rfl, rfl, rfl, rfl, rfl, p37, (rw_28 p37).1, (rw_28 p37).2.1, (rw_28 p37).2.2.1, (ix_inbL (rw_28 p37).2.2.2.1 p39), rfl, rfl, rfl, rfl, rfl, p41, (rw_28 p41).1, (rw_28 p41).2.1, (rw_28 p41).2.2.1, (ix_inbL (rw_28 p41).2.2.2.1 p43), rfl, rfl, rfl, rfl, rfl, p45, (rw_28 p45).1, rfl, rfl, rfl, rfl, rfl, p47, (rw_28 p47).1, (rw_28 p47).2.1, (rw_28 p47).2.2.1, (ix_inbL (rw_28 p47).2.2.2.1 p49)⟩ ?_
    refine ix_sp rfl ⟨rfl, trivial, ix_le rfl, Nat.le_refl _, Nat.le_refl _, tp_J9_min_7cf53 h50 (fun v51 I51 J51 T51 h51 => ?_)⟩
    change ix_W _ _ _ (134, [some (.inr (.inr (.inl (some (8))))), some (.inl (x1)), some (.inl (x2)), some (.inl (x3)), some (.inl ((I (ix_row 28 (x2)) (x1).toNatClampNeg) + (I (ix_row 28 (x1)) (x3).toNatClampNeg)))], [.inl (v51), .inl (x3), .inr (.inr (.inl (some (ix_row 28 (x2)))))], 0, 0, ix_mem 276 I51 J51 T51)
    obtain ⟨p52, h53⟩ := h51
    refine ix_go 3 (x' := (89, [some (.inr (.inr (.inl (some (8))))), some (.inl (x1)), some (.inl (x2)), some (.inl (x3 + (1 : Int32))), some (.inl ((I (ix_row 28 (x2)) (x1).toNatClampNeg) + (I (ix_row 28 (x1)) (x3).toNatClampNeg)))], [], 0, 0, ix_mem 276 (ix_u2 I51 (ix_row 28 (x2)) (x3).toNatClampNeg (v51)) J51 T51)) rfl ⟨(rw_28 p47).2.1, (rw_28 p47).2.2.1, (ix_inbL (rw_28 p47).2.2.2.1 p52)⟩ ?_
    refine ix_subW ([some (.inr (.inr (.inl (some (8))))), some (.inl (x1)), some (.inl (x2)), some (.inl (x3 + (1 : Int32))), none]) (ix_subS (ix_subS (ix_subS (ix_subS (ix_subN (ix_sub0)))))) ?_
    exact h53
  · have h36 := hb.2 c35
    refine ix_go 2 (x' := (81, [some (.inr (.inr (.inl (some (8))))), some (.inl (x1)), some (.inl (x2 + (1 : Int32))), some (.inl (x3)), none], [], 0, 0, ix_mem 276 I J T)) rfl trivial ?_
    refine ix_subW ([some (.inr (.inr (.inl (some (8))))), some (.inl (x1)), some (.inl (x2 + (1 : Int32))), none, none]) (ix_subS (ix_subS (ix_subS (ix_subN (ix_subS (ix_sub0)))))) ?_
    exact hV81 _ _ _ _ _ h36
def wb_X5_findCarriages_81_2_73 (x1 : Int32) (x2 : Int32) (I : Nat → Nat → Int32) (J : Nat → Nat → Int64) (T : Option Nat) (V81 : Int32 → Int32 → (Nat → Nat → Int32) → (Nat → Nat → Int64) → Option Nat → Prop) (V2 : Int32 → (Nat → Nat → Int32) → (Nat → Nat → Int64) → Option Nat → Prop) (V73 : Int32 → (Nat → Nat → Int32) → (Nat → Nat → Int64) → Option Nat → Prop) (P : (Nat → Nat → Int32) → (Nat → Nat → Int64) → Option Nat → Prop) : Prop := ((x2 < (7 : Int32) → wl_X5_findCarriages_89_2_73_81 (x1) (x2) ((0 : Int32)) I J T V2 V73 V81 P) ∧ (¬ (x2 < (7 : Int32)) → V73 (x1 + (1 : Int32)) I J T))
def wl_X5_findCarriages_81_2_73 (x1 : Int32) (x2 : Int32) (I : Nat → Nat → Int32) (J : Nat → Nat → Int64) (T : Option Nat) (V2 : Int32 → (Nat → Nat → Int32) → (Nat → Nat → Int64) → Option Nat → Prop) (V73 : Int32 → (Nat → Nat → Int32) → (Nat → Nat → Int64) → Option Nat → Prop) (P : (Nat → Nat → Int32) → (Nat → Nat → Int64) → Option Nat → Prop) : Prop := ∀ V : Int32 → Int32 → (Nat → Nat → Int32) → (Nat → Nat → Int64) → Option Nat → Prop, (∀ (x1 : Int32) (x2 : Int32) (I : Nat → Nat → Int32) (J : Nat → Nat → Int64) (T : Option Nat), wb_X5_findCarriages_81_2_73 x1 x2 I J T V V2 V73 P → V x1 x2 I J T) → V x1 x2 I J T
set_option maxRecDepth 20000 in
theorem tl_X5_findCarriages_81_2_73 {d : Nat} {x1 : Int32} {x2 : Int32} {I : Nat → Nat → Int32} {J : Nat → Nat → Int64} {T : Option Nat} {V2 : Int32 → (Nat → Nat → Int32) → (Nat → Nat → Int64) → Option Nat → Prop} {V73 : Int32 → (Nat → Nat → Int32) → (Nat → Nat → Int64) → Option Nat → Prop} {P : (Nat → Nat → Int32) → (Nat → Nat → Int64) → Option Nat → Prop} {Q : ix_Q} (h : wl_X5_findCarriages_81_2_73 x1 x2 I J T V2 V73 P) (hV2 : ∀ (x1 : Int32) I J T, V2 x1 I J T → ix_W (ix_C (d + 1)) (5, ix_lk ix_l67, none, 0, 0, Nat.blt 0 0, none) Q (2, [some (.inr (.inr (.inl (some (8))))), some (.inl (x1)), none, none, none], [], 0, 0, ix_mem 276 I J T)) (hV73 : ∀ (x1 : Int32) I J T, V73 x1 I J T → ix_W (ix_C (d + 1)) (5, ix_lk ix_l67, none, 0, 0, Nat.blt 0 0, none) Q (73, [some (.inr (.inr (.inl (some (8))))), some (.inl (x1)), none, none, none], [], 0, 0, ix_mem 276 I J T)) (hQ : ∀ I J T, P I J T → Q none (ix_mem 276 I J T)) : ix_W (ix_C (d + 1)) (5, ix_lk ix_l67, none, 0, 0, Nat.blt 0 0, none) Q (81, [some (.inr (.inr (.inl (some (8))))), some (.inl (x1)), some (.inl (x2)), none, none], [], 0, 0, ix_mem 276 I J T) := by
  refine h (fun x1 x2 I J T => ix_W (ix_C (d + 1)) (5, ix_lk ix_l67, none, 0, 0, Nat.blt 0 0, none) Q (81, [some (.inr (.inr (.inl (some (8))))), some (.inl (x1)), some (.inl (x2)), none, none], [], 0, 0, ix_mem 276 I J T)) ?_
  intro x1 x2 I J T hb
  unfold wb_X5_findCarriages_81_2_73 at hb
  refine ix_go 3 (x' := (if x2 < (7 : Int32) then 87 else 147, [some (.inr (.inr (.inl (some (8))))), some (.inl (x1)), some (.inl (x2)), none, none], [], 0, 0, ix_mem 276 I J T)) rfl trivial ?_
  refine ix_br (fun c33 => ?_) (fun c33 => ?_)
  · have h34 := hb.1 c33
    refine ix_go 2 (x' := (89, [some (.inr (.inr (.inl (some (8))))), some (.inl (x1)), some (.inl (x2)), some (.inl ((0 : Int32))), none], [], 0, 0, ix_mem 276 I J T)) rfl trivial ?_
    refine ix_subW ([some (.inr (.inr (.inl (some (8))))), some (.inl (x1)), some (.inl (x2)), some (.inl ((0 : Int32))), none]) (ix_subS (ix_subS (ix_subS (ix_subS (ix_subS (ix_sub0)))))) ?_
    exact tl_X5_findCarriages_89_2_73_81 h34 hV2 hV73 (fun _ _ I J T hv => hv) hQ
  · have h34 := hb.2 c33
    refine ix_go 2 (x' := (73, [some (.inr (.inr (.inl (some (8))))), some (.inl (x1 + (1 : Int32))), some (.inl (x2)), none, none], [], 0, 0, ix_mem 276 I J T)) rfl trivial ?_
    refine ix_subW ([some (.inr (.inr (.inl (some (8))))), some (.inl (x1 + (1 : Int32))), none, none, none]) (ix_subS (ix_subS (ix_subN (ix_subS (ix_subS (ix_sub0)))))) ?_
    exact hV73 _ _ _ _ h34
def wb_X5_findCarriages_73_2 (x1 : Int32) (I : Nat → Nat → Int32) (J : Nat → Nat → Int64) (T : Option Nat) (V73 : Int32 → (Nat → Nat → Int32) → (Nat → Nat → Int64) → Option Nat → Prop) (V2 : Int32 → (Nat → Nat → Int32) → (Nat → Nat → Int64) → Option Nat → Prop) (P : (Nat → Nat → Int32) → (Nat → Nat → Int64) → Option Nat → Prop) : Prop := ((x1 < (7 : Int32) → wl_X5_findCarriages_81_2_73 (x1) ((0 : Int32)) I J T V2 V73 P) ∧ (¬ (x1 < (7 : Int32)) → P I J T))
def wl_X5_findCarriages_73_2 (x1 : Int32) (I : Nat → Nat → Int32) (J : Nat → Nat → Int64) (T : Option Nat) (V2 : Int32 → (Nat → Nat → Int32) → (Nat → Nat → Int64) → Option Nat → Prop) (P : (Nat → Nat → Int32) → (Nat → Nat → Int64) → Option Nat → Prop) : Prop := ∀ V : Int32 → (Nat → Nat → Int32) → (Nat → Nat → Int64) → Option Nat → Prop, (∀ (x1 : Int32) (I : Nat → Nat → Int32) (J : Nat → Nat → Int64) (T : Option Nat), wb_X5_findCarriages_73_2 x1 I J T V V2 P → V x1 I J T) → V x1 I J T
set_option maxRecDepth 20000 in
theorem tl_X5_findCarriages_73_2 {d : Nat} {x1 : Int32} {I : Nat → Nat → Int32} {J : Nat → Nat → Int64} {T : Option Nat} {V2 : Int32 → (Nat → Nat → Int32) → (Nat → Nat → Int64) → Option Nat → Prop} {P : (Nat → Nat → Int32) → (Nat → Nat → Int64) → Option Nat → Prop} {Q : ix_Q} (h : wl_X5_findCarriages_73_2 x1 I J T V2 P) (hV2 : ∀ (x1 : Int32) I J T, V2 x1 I J T → ix_W (ix_C (d + 1)) (5, ix_lk ix_l67, none, 0, 0, Nat.blt 0 0, none) Q (2, [some (.inr (.inr (.inl (some (8))))), some (.inl (x1)), none, none, none], [], 0, 0, ix_mem 276 I J T)) (hQ : ∀ I J T, P I J T → Q none (ix_mem 276 I J T)) : ix_W (ix_C (d + 1)) (5, ix_lk ix_l67, none, 0, 0, Nat.blt 0 0, none) Q (73, [some (.inr (.inr (.inl (some (8))))), some (.inl (x1)), none, none, none], [], 0, 0, ix_mem 276 I J T) := by
  refine h (fun x1 I J T => ix_W (ix_C (d + 1)) (5, ix_lk ix_l67, none, 0, 0, Nat.blt 0 0, none) Q (73, [some (.inr (.inr (.inl (some (8))))), some (.inl (x1)), none, none, none], [], 0, 0, ix_mem 276 I J T)) ?_
  intro x1 I J T hb
  unfold wb_X5_findCarriages_73_2 at hb
  refine ix_go 3 (x' := (if x1 < (7 : Int32) then 79 else 153, [some (.inr (.inr (.inl (some (8))))), some (.inl (x1)), none, none, none], [], 0, 0, ix_mem 276 I J T)) rfl trivial ?_
  refine ix_br (fun c31 => ?_) (fun c31 => ?_)
  · have h32 := hb.1 c31
    refine ix_go 2 (x' := (81, [some (.inr (.inr (.inl (some (8))))), some (.inl (x1)), some (.inl ((0 : Int32))), none, none], [], 0, 0, ix_mem 276 I J T)) rfl trivial ?_
    refine ix_subW ([some (.inr (.inr (.inl (some (8))))), some (.inl (x1)), some (.inl ((0 : Int32))), none, none]) (ix_subS (ix_subS (ix_subS (ix_subS (ix_subS (ix_sub0)))))) ?_
    exact tl_X5_findCarriages_81_2_73 h32 hV2 (fun _ I J T hv => hv) hQ
  · have h32 := hb.2 c31
    exact ix_sp rfl ⟨Nat.le_refl _, Nat.le_refl _, rfl, hQ _ _ _ h32⟩
def wb_X5_findCarriages_2 (x1 : Int32) (I : Nat → Nat → Int32) (J : Nat → Nat → Int64) (T : Option Nat) (V2 : Int32 → (Nat → Nat → Int32) → (Nat → Nat → Int64) → Option Nat → Prop) (P : (Nat → Nat → Int32) → (Nat → Nat → Int64) → Option Nat → Prop) : Prop := ((x1 < (7 : Int32) → wl_X5_findCarriages_10_2 (x1) ((0 : Int32)) I J T V2 P) ∧ (¬ (x1 < (7 : Int32)) → wl_X5_findCarriages_73_2 ((0 : Int32)) I J T V2 P))
def wl_X5_findCarriages_2 (x1 : Int32) (I : Nat → Nat → Int32) (J : Nat → Nat → Int64) (T : Option Nat) (P : (Nat → Nat → Int32) → (Nat → Nat → Int64) → Option Nat → Prop) : Prop := ∀ V : Int32 → (Nat → Nat → Int32) → (Nat → Nat → Int64) → Option Nat → Prop, (∀ (x1 : Int32) (I : Nat → Nat → Int32) (J : Nat → Nat → Int64) (T : Option Nat), wb_X5_findCarriages_2 x1 I J T V P → V x1 I J T) → V x1 I J T
set_option maxRecDepth 20000 in
theorem tl_X5_findCarriages_2 {d : Nat} {x1 : Int32} {I : Nat → Nat → Int32} {J : Nat → Nat → Int64} {T : Option Nat} {P : (Nat → Nat → Int32) → (Nat → Nat → Int64) → Option Nat → Prop} {Q : ix_Q} (h : wl_X5_findCarriages_2 x1 I J T P) (hQ : ∀ I J T, P I J T → Q none (ix_mem 276 I J T)) : ix_W (ix_C (d + 1)) (5, ix_lk ix_l67, none, 0, 0, Nat.blt 0 0, none) Q (2, [some (.inr (.inr (.inl (some (8))))), some (.inl (x1)), none, none, none], [], 0, 0, ix_mem 276 I J T) := by
  refine h (fun x1 I J T => ix_W (ix_C (d + 1)) (5, ix_lk ix_l67, none, 0, 0, Nat.blt 0 0, none) Q (2, [some (.inr (.inr (.inl (some (8))))), some (.inl (x1)), none, none, none], [], 0, 0, ix_mem 276 I J T)) ?_
  intro x1 I J T hb
  unfold wb_X5_findCarriages_2 at hb
  refine ix_go 3 (x' := (if x1 < (7 : Int32) then 8 else 71, [some (.inr (.inr (.inl (some (8))))), some (.inl (x1)), none, none, none], [], 0, 0, ix_mem 276 I J T)) rfl trivial ?_
  refine ix_br (fun c1 => ?_) (fun c1 => ?_)
  · have h2 := hb.1 c1
    refine ix_go 2 (x' := (10, [some (.inr (.inr (.inl (some (8))))), some (.inl (x1)), some (.inl ((0 : Int32))), none, none], [], 0, 0, ix_mem 276 I J T)) rfl trivial ?_
    refine ix_subW ([some (.inr (.inr (.inl (some (8))))), some (.inl (x1)), some (.inl ((0 : Int32))), none, none]) (ix_subS (ix_subS (ix_subS (ix_subS (ix_subS (ix_sub0)))))) ?_
    exact tl_X5_findCarriages_10_2 h2 (fun _ I J T hv => hv) hQ
  · have h2 := hb.2 c1
    refine ix_go 2 (x' := (73, [some (.inr (.inr (.inl (some (8))))), some (.inl ((0 : Int32))), none, none, none], [], 0, 0, ix_mem 276 I J T)) rfl trivial ?_
    refine ix_subW ([some (.inr (.inr (.inl (some (8))))), some (.inl ((0 : Int32))), none, none, none]) (ix_subS (ix_subS (ix_subS (ix_subS (ix_subS (ix_sub0)))))) ?_
    exact tl_X5_findCarriages_73_2 h2 (fun _ I J T hv => hv) hQ
def wp_X5_findCarriages (I : Nat → Nat → Int32) (J : Nat → Nat → Int64) (T : Option Nat) (P : (Nat → Nat → Int32) → (Nat → Nat → Int64) → Option Nat → Prop) : Prop := wl_X5_findCarriages_2 ((0 : Int32)) I J T P
set_option maxRecDepth 20000 in
theorem tp_X5_findCarriages {d : Nat} {I : Nat → Nat → Int32} {J : Nat → Nat → Int64} {T : Option Nat} {P : (Nat → Nat → Int32) → (Nat → Nat → Int64) → Option Nat → Prop} {Q : ix_Q} (h : wp_X5_findCarriages I J T P) (hQ : ∀ I J T, P I J T → Q none (ix_mem 276 I J T)) : ix_C (d + 2) 67 [.inr (.inr (.inl (some (8))))] (ix_mem 276 I J T) Q := by
  unfold wp_X5_findCarriages at h
  refine ix_enter (ls := [some (.inr (.inr (.inl (some (8))))), none, none, none, none]) rfl rfl rfl (Nat.le_of_ble_eq_true rfl) ?_
  refine ix_go 2 (x' := (2, [some (.inr (.inr (.inl (some (8))))), some (.inl ((0 : Int32))), none, none, none], [], 0, 0, ix_mem 276 I J T)) rfl trivial ?_
  refine ix_subW ([some (.inr (.inr (.inl (some (8))))), some (.inl ((0 : Int32))), none, none, none]) (ix_subS (ix_subS (ix_subS (ix_subS (ix_subS (ix_sub0)))))) ?_
  exact tl_X5_findCarriages_2 h hQ
