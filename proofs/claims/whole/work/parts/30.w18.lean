def wp_X11_trayStatus (a0 : Int32) (a1 : Int32) (a2 : Int32) (I : Nat → Nat → Int32) (J : Nat → Nat → Int64) (T : Option Nat) (P : Int32 → (Nat → Nat → Int32) → (Nat → Nat → Int64) → Option Nat → Prop) : Prop := wp_X11_outside ((a0).toInt64) ((0 : Int64)) ((3 : Int64)) I J T (fun v1 I1 J1 T1 => ((v1 = 0 → ix_inb (a0) 4 = true ∧ ((I1 6 (a0).toNatClampNeg = (-1 : Int32) → P ((2 : Int32)) I1 J1 T1) ∧ (¬ (I1 6 (a0).toNatClampNeg = (-1 : Int32)) → ix_inb (a0) 4 = true ∧ wp_X11_outside ((a1).toInt64) ((0 : Int64)) (((I1 7 (a0).toNatClampNeg) - (a2)).toInt64) I1 J1 T1 (fun v10 I10 J10 T10 => ((v10 = 0 → P ((0 : Int32)) I10 J10 T10) ∧ (¬ (v10 = 0) → P ((3 : Int32)) I10 J10 T10)))))) ∧ (¬ (v1 = 0) → P ((1 : Int32)) I1 J1 T1)))
set_option maxRecDepth 20000 in
theorem tp_X11_trayStatus {d : Nat} {a0 : Int32} {a1 : Int32} {a2 : Int32} {I : Nat → Nat → Int32} {J : Nat → Nat → Int64} {T : Option Nat} {P : Int32 → (Nat → Nat → Int32) → (Nat → Nat → Int64) → Option Nat → Prop} {Q : ix_Q} (h : wp_X11_trayStatus a0 a1 a2 I J T P) (hQ : ∀ v I J T, P v I J T → Q (some (.inl v)) (ix_mem 276 I J T)) : ix_C (d + 2) 161 [.inr (.inr (.inl (some (0)))), .inl (a0), .inl (a1), .inl (a2)] (ix_mem 276 I J T) Q := by
  unfold wp_X11_trayStatus at h
  refine ix_enter (ls := [some (.inr (.inr (.inl (some (0))))), some (.inl (a0)), some (.inl (a1)), some (.inl (a2))]) rfl rfl rfl (Nat.le_of_ble_eq_true rfl) ?_
  refine ix_go 4 (x' := (6, [some (.inr (.inr (.inl (some (0))))), some (.inl (a0)), some (.inl (a1)), some (.inl (a2))], [.inr (.inl ((3 : Int64))), .inr (.inl ((0 : Int64))), .inr (.inl ((a0).toInt64))], 0, 0, ix_mem 276 I J T)) rfl trivial ?_
  refine ix_sp rfl ⟨rfl, trivial, ix_le rfl, Nat.le_refl _, Nat.le_refl _, tp_X11_outside h (fun v1 I1 J1 T1 h1 => ?_)⟩
  change ix_W _ _ _ (9, [some (.inr (.inr (.inl (some (0))))), some (.inl (a0)), some (.inl (a1)), some (.inl (a2))], [.inl (v1)], 0, 0, ix_mem 276 I1 J1 T1)
  refine ix_go 1 (x' := (if v1 = 0 then 14 else 12, [some (.inr (.inr (.inl (some (0))))), some (.inl (a0)), some (.inl (a1)), some (.inl (a2))], [], 0, 0, ix_mem 276 I1 J1 T1)) rfl trivial ?_
  refine ix_br (fun c2 => ?_) (fun c2 => ?_)
  · have h3 := h1.1 c2
    obtain ⟨p4, h5⟩ := h3
    refine ix_go 6 (x' := (if I1 6 (a0).toNatClampNeg = (-1 : Int32) then 24 else 26, [some (.inr (.inr (.inl (some (0))))), some (.inl (a0)), some (.inl (a1)), some (.inl (a2))], [], 0, 0, ix_mem 276 I1 J1 T1)) rfl ⟨rfl, rfl, rfl, rfl, p4⟩ ?_
    refine ix_br (fun c6 => ?_) (fun c6 => ?_)
    · have h7 := h5.1 c6
      refine ix_go 1 (x' := (25, [some (.inr (.inr (.inl (some (0))))), some (.inl (a0)), some (.inl (a1)), some (.inl (a2))], [.inl ((2 : Int32))], 0, 0, ix_mem 276 I1 J1 T1)) rfl trivial ?_
      exact ix_sp rfl ⟨Nat.le_refl _, Nat.le_refl _, trivial, hQ _ _ _ _ h7⟩
    · have h7 := h5.2 c6
      obtain ⟨p8, h9⟩ := h7
      refine ix_go 10 (x' := (38, [some (.inr (.inr (.inl (some (0))))), some (.inl (a0)), some (.inl (a1)), some (.inl (a2))], [.inr (.inl (((I1 7 (a0).toNatClampNeg) - (a2)).toInt64)), .inr (.inl ((0 : Int64))), .inr (.inl ((a1).toInt64))], 0, 0, ix_mem 276 I1 J1 T1)) rfl ⟨rfl, rfl, rfl, rfl, p8⟩ ?_
      refine ix_sp rfl ⟨rfl, trivial, ix_le rfl, Nat.le_refl _, Nat.le_refl _, tp_X11_outside h9 (fun v10 I10 J10 T10 h10 => ?_)⟩
      change ix_W _ _ _ (41, [some (.inr (.inr (.inl (some (0))))), some (.inl (a0)), some (.inl (a1)), some (.inl (a2))], [.inl (v10)], 0, 0, ix_mem 276 I10 J10 T10)
      refine ix_go 1 (x' := (if v10 = 0 then 48 else 44, [some (.inr (.inr (.inl (some (0))))), some (.inl (a0)), some (.inl (a1)), some (.inl (a2))], [], 0, 0, ix_mem 276 I10 J10 T10)) rfl trivial ?_
      refine ix_br (fun c11 => ?_) (fun c11 => ?_)
      · have h12 := h10.1 c11
        refine ix_go 1 (x' := (49, [some (.inr (.inr (.inl (some (0))))), some (.inl (a0)), some (.inl (a1)), some (.inl (a2))], [.inl ((0 : Int32))], 0, 0, ix_mem 276 I10 J10 T10)) rfl trivial ?_
        exact ix_sp rfl ⟨Nat.le_refl _, Nat.le_refl _, trivial, hQ _ _ _ _ h12⟩
      · have h12 := h10.2 c11
        refine ix_go 2 (x' := (49, [some (.inr (.inr (.inl (some (0))))), some (.inl (a0)), some (.inl (a1)), some (.inl (a2))], [.inl ((3 : Int32))], 0, 0, ix_mem 276 I10 J10 T10)) rfl trivial ?_
        exact ix_sp rfl ⟨Nat.le_refl _, Nat.le_refl _, trivial, hQ _ _ _ _ h12⟩
  · have h3 := h1.2 c2
    refine ix_go 1 (x' := (13, [some (.inr (.inr (.inl (some (0))))), some (.inl (a0)), some (.inl (a1)), some (.inl (a2))], [.inl ((1 : Int32))], 0, 0, ix_mem 276 I1 J1 T1)) rfl trivial ?_
    exact ix_sp rfl ⟨Nat.le_refl _, Nat.le_refl _, trivial, hQ _ _ _ _ h3⟩
def wp_X11_cutTo (a0 : Int32) (a1 : Int64) (I : Nat → Nat → Int32) (J : Nat → Nat → Int64) (T : Option Nat) (P : Int64 → (Nat → Nat → Int32) → (Nat → Nat → Int64) → Option Nat → Prop) : Prop := ((a0 = 0 → P ((((a1).toInt32).toInt8.toInt32).toInt64) I J T) ∧ (¬ (a0 = 0) → ((a0 = 1 → P ((((a1).toInt32).toInt16.toInt32).toInt64) I J T) ∧ (¬ (a0 = 1) → ((a0 = 2 → P (((a1).toInt32).toInt64) I J T) ∧ (¬ (a0 = 2) → P (a1) I J T))))))
set_option maxRecDepth 20000 in
theorem tp_X11_cutTo {d : Nat} {a0 : Int32} {a1 : Int64} {I : Nat → Nat → Int32} {J : Nat → Nat → Int64} {T : Option Nat} {P : Int64 → (Nat → Nat → Int32) → (Nat → Nat → Int64) → Option Nat → Prop} {Q : ix_Q} (h : wp_X11_cutTo a0 a1 I J T P) (hQ : ∀ v I J T, P v I J T → Q (some (.inr (.inl v))) (ix_mem 276 I J T)) : ix_C (d + 1) 162 [.inl (a0), .inr (.inl (a1))] (ix_mem 276 I J T) Q := by
  unfold wp_X11_cutTo at h
  refine ix_enter (ls := [some (.inl (a0)), some (.inr (.inl (a1))), none]) rfl rfl rfl (Nat.le_of_ble_eq_true rfl) ?_
  refine ix_go 1 (x' := (1, [some (.inl (a0)), some (.inr (.inl (a1))), none], [.inl (a0)], 0, 0, ix_mem 276 I J T)) rfl trivial ?_
  by_cases e1 : a0 = 0
  · have h2 := h.1 e1
    refine ix_sp rfl ⟨28, Or.inr ⟨by rw [e1]; decide, 27, by rw [e1]; rfl, rfl⟩, ?_⟩
    refine ix_go 4 (x' := (32, [some (.inl (a0)), some (.inr (.inl (a1))), none], [.inr (.inl ((((a1).toInt32).toInt8.toInt32).toInt64))], 0, 0, ix_mem 276 I J T)) rfl trivial ?_
    exact ix_sp rfl ⟨Nat.le_refl _, Nat.le_refl _, rfl, hQ _ _ _ _ h2⟩
  · have h3 := h.2 e1
    by_cases e4 : a0 = 1
    · have h5 := h3.1 e4
      refine ix_sp rfl ⟨33, Or.inr ⟨by rw [e4]; decide, 32, by rw [e4]; rfl, rfl⟩, ?_⟩
      refine ix_go 4 (x' := (37, [some (.inl (a0)), some (.inr (.inl (a1))), none], [.inr (.inl ((((a1).toInt32).toInt16.toInt32).toInt64))], 0, 0, ix_mem 276 I J T)) rfl trivial ?_
      exact ix_sp rfl ⟨Nat.le_refl _, Nat.le_refl _, rfl, hQ _ _ _ _ h5⟩
    · have h6 := h3.2 e4
      by_cases e7 : a0 = 2
      · have h8 := h6.1 e7
        refine ix_sp rfl ⟨38, Or.inr ⟨by rw [e7]; decide, 37, by rw [e7]; rfl, rfl⟩, ?_⟩
        refine ix_go 3 (x' := (41, [some (.inl (a0)), some (.inr (.inl (a1))), none], [.inr (.inl (((a1).toInt32).toInt64))], 0, 0, ix_mem 276 I J T)) rfl trivial ?_
        exact ix_sp rfl ⟨Nat.le_refl _, Nat.le_refl _, rfl, hQ _ _ _ _ h8⟩
      · have h9 := h6.2 e7
        refine ix_sp rfl ⟨42, Or.inl ⟨ix_tb3 e1 e4 e7, rfl⟩, ?_⟩
        refine ix_go 1 (x' := (43, [some (.inl (a0)), some (.inr (.inl (a1))), none], [.inr (.inl (a1))], 0, 0, ix_mem 276 I J T)) rfl trivial ?_
        exact ix_sp rfl ⟨Nat.le_refl _, Nat.le_refl _, rfl, hQ _ _ _ _ h9⟩
def wp_X11_write (a0 : Int32) (a1 : Int32) (a2 : Int64) (I : Nat → Nat → Int32) (J : Nat → Nat → Int64) (T : Option Nat) (P : Int32 → (Nat → Nat → Int32) → (Nat → Nat → Int64) → Option Nat → Prop) : Prop := wp_X11_trayStatus (a0) (a1) ((1 : Int32)) I J T (fun v1 I1 J1 T1 => ((v1 = 0 → ix_inb (a0) 4 = true ∧ ix_inb (a0) 4 = true ∧ wp_X11_cutTo (I1 6 (a0).toNatClampNeg) (a2) I1 J1 T1 (fun v8 I8 J8 T8 => ix_inb (a1) 60 = true ∧ wp_X11_accepted I8 (ix_u2 J8 (ix_row 1 (a0)) (a1).toNatClampNeg (v8)) T8 (fun v11 I11 J11 T11 => ix_01 (v11) = true ∧ P (v11) I11 J11 T11))) ∧ (¬ (v1 = 0) → wp_X11_refused (v1) I1 J1 T1 (fun v12 I12 J12 T12 => ix_01 (v12) = true ∧ P (v12) I12 J12 T12))))
set_option maxRecDepth 20000 in
theorem tp_X11_write {d : Nat} {a0 : Int32} {a1 : Int32} {a2 : Int64} {I : Nat → Nat → Int32} {J : Nat → Nat → Int64} {T : Option Nat} {P : Int32 → (Nat → Nat → Int32) → (Nat → Nat → Int64) → Option Nat → Prop} {Q : ix_Q} (h : wp_X11_write a0 a1 a2 I J T P) (hQ : ∀ v I J T, P v I J T → Q (some (.inl v)) (ix_mem 276 I J T)) : ix_C (d + 3) 163 [.inr (.inr (.inl (some (0)))), .inl (a0), .inl (a1), .inr (.inl (a2))] (ix_mem 276 I J T) Q := by
  unfold wp_X11_write at h
  refine ix_enter (ls := [some (.inr (.inr (.inl (some (0))))), some (.inl (a0)), some (.inl (a1)), some (.inr (.inl (a2))), none, none]) rfl rfl rfl (Nat.le_of_ble_eq_true rfl) ?_
  refine ix_go 4 (x' := (4, [some (.inr (.inr (.inl (some (0))))), some (.inl (a0)), some (.inl (a1)), some (.inr (.inl (a2))), none, none], [.inl ((1 : Int32)), .inl (a1), .inl (a0), .inr (.inr (.inl (some (0))))], 0, 0, ix_mem 276 I J T)) rfl trivial ?_
  refine ix_sp rfl ⟨rfl, ⟨ix_lt rfl, ix_eq rfl, ix_lt rfl⟩, ix_le rfl, Nat.le_refl _, Nat.le_refl _, tp_X11_trayStatus h (fun v1 I1 J1 T1 h1 => ?_)⟩
  change ix_W _ _ _ (7, [some (.inr (.inr (.inl (some (0))))), some (.inl (a0)), some (.inl (a1)), some (.inr (.inl (a2))), none, none], [.inl (v1)], 0, 0, ix_mem 276 I1 J1 T1)
  refine ix_go 3 (x' := (if v1 = 0 then 21 else 14, [some (.inr (.inr (.inl (some (0))))), some (.inl (a0)), some (.inl (a1)), some (.inr (.inl (a2))), none, some (.inl (v1))], [], 0, 0, ix_mem 276 I1 J1 T1)) rfl trivial ?_
  refine ix_br (fun c2 => ?_) (fun c2 => ?_)
  · have h3 := h1.1 c2
    obtain ⟨p4, h5⟩ := h3
    obtain ⟨p6, h7⟩ := h5
    refine ix_go 10 (x' := (35, [some (.inr (.inr (.inl (some (0))))), some (.inl (a0)), some (.inl (a1)), some (.inr (.inl (a2))), none, some (.inl (v1))], [.inr (.inl (a2)), .inl (I1 6 (a0).toNatClampNeg), .inl (a1), .inr (.inr (.inl (some (ix_row 1 (a0)))))], 0, 0, ix_mem 276 I1 J1 T1)) rfl ⟨rfl, rfl, rfl, rfl, rfl, p4, (rw_1 p4).1, rfl, rfl, rfl, rfl, p6⟩ ?_
    refine ix_sp rfl ⟨rfl, trivial, ix_le rfl, Nat.le_refl _, Nat.le_refl _, tp_X11_cutTo h7 (fun v8 I8 J8 T8 h8 => ?_)⟩
    change ix_W _ _ _ (38, [some (.inr (.inr (.inl (some (0))))), some (.inl (a0)), some (.inl (a1)), some (.inr (.inl (a2))), none, some (.inl (v1))], [.inr (.inl (v8)), .inl (a1), .inr (.inr (.inl (some (ix_row 1 (a0)))))], 0, 0, ix_mem 276 I8 J8 T8)
    obtain ⟨p9, h10⟩ := h8
    refine ix_go 2 (x' := (40, [some (.inr (.inr (.inl (some (0))))), some (.inl (a0)), some (.inl (a1)), some (.inr (.inl (a2))), none, some (.inl (v1))], [.inr (.inr (.inl (some (0))))], 0, 0, ix_mem 276 I8 (ix_u2 J8 (ix_row 1 (a0)) (a1).toNatClampNeg (v8)) T8)) rfl ⟨(rw_1 p6).2.1, (rw_1 p6).2.2.1, (ix_inbL (rw_1 p6).2.2.2.1 p9)⟩ ?_
    refine ix_sp rfl ⟨rfl, ⟨ix_lt rfl, ix_eq rfl, ix_lt rfl⟩, ix_le rfl, Nat.le_refl _, Nat.le_refl _, tp_X11_accepted h10 (fun v11 I11 J11 T11 h11 => ?_)⟩
    change ix_W _ _ _ (43, [some (.inr (.inr (.inl (some (0))))), some (.inl (a0)), some (.inl (a1)), some (.inr (.inl (a2))), none, some (.inl (v1))], [.inl (v11)], 0, 0, ix_mem 276 I11 J11 T11)
    exact ix_sp rfl ⟨Nat.le_refl _, Nat.le_refl _, ix_01_ok h11.1, hQ _ _ _ _ h11.2⟩
  · have h3 := h1.2 c2
    refine ix_go 2 (x' := (17, [some (.inr (.inr (.inl (some (0))))), some (.inl (a0)), some (.inl (a1)), some (.inr (.inl (a2))), none, some (.inl (v1))], [.inl (v1), .inr (.inr (.inl (some (0))))], 0, 0, ix_mem 276 I1 J1 T1)) rfl trivial ?_
    refine ix_sp rfl ⟨rfl, ⟨ix_lt rfl, ix_eq rfl, ix_lt rfl⟩, ix_le rfl, Nat.le_refl _, Nat.le_refl _, tp_X11_refused h3 (fun v12 I12 J12 T12 h12 => ?_)⟩
    change ix_W _ _ _ (20, [some (.inr (.inr (.inl (some (0))))), some (.inl (a0)), some (.inl (a1)), some (.inr (.inl (a2))), none, some (.inl (v1))], [.inl (v12)], 0, 0, ix_mem 276 I12 J12 T12)
    exact ix_sp rfl ⟨Nat.le_refl _, Nat.le_refl _, ix_01_ok h12.1, hQ _ _ _ _ h12.2⟩
def wb_X11_fill_40 (x1 : Int32) (x2 : Int32) (x3 : Int32) (x4 : Int64) (x6 : Int64) (x9 : Int32) (I : Nat → Nat → Int32) (J : Nat → Nat → Int64) (T : Option Nat) (V40 : Int32 → Int32 → Int32 → Int64 → Int64 → Int32 → (Nat → Nat → Int32) → (Nat → Nat → Int64) → Option Nat → Prop) (P : Int32 → (Nat → Nat → Int32) → (Nat → Nat → Int64) → Option Nat → Prop) : Prop := ((x9 < x3 → ix_inb (x1) 4 = true ∧ ix_inb (x1) 4 = true ∧ wp_X11_cutTo (I 6 (x1).toNatClampNeg) ((x4) + (((x9).toInt64) * (x6))) I J T (fun v13 I13 J13 T13 => ix_inb ((x2) + (x9)) 60 = true ∧ V40 (x1) (x2) (x3) (x4) (x6) (x9 + (1 : Int32)) I13 (ix_u2 J13 (ix_row 1 (x1)) ((x2) + (x9)).toNatClampNeg (v13)) T13)) ∧ (¬ (x9 < x3) → wp_X11_accepted I J T (fun v16 I16 J16 T16 => ix_01 (v16) = true ∧ P (v16) I16 J16 T16)))
def wl_X11_fill_40 (x1 : Int32) (x2 : Int32) (x3 : Int32) (x4 : Int64) (x6 : Int64) (x9 : Int32) (I : Nat → Nat → Int32) (J : Nat → Nat → Int64) (T : Option Nat) (P : Int32 → (Nat → Nat → Int32) → (Nat → Nat → Int64) → Option Nat → Prop) : Prop := ∀ V : Int32 → Int32 → Int32 → Int64 → Int64 → Int32 → (Nat → Nat → Int32) → (Nat → Nat → Int64) → Option Nat → Prop, (∀ (x1 : Int32) (x2 : Int32) (x3 : Int32) (x4 : Int64) (x6 : Int64) (x9 : Int32) (I : Nat → Nat → Int32) (J : Nat → Nat → Int64) (T : Option Nat), wb_X11_fill_40 x1 x2 x3 x4 x6 x9 I J T V P → V x1 x2 x3 x4 x6 x9 I J T) → V x1 x2 x3 x4 x6 x9 I J T
set_option maxRecDepth 20000 in
theorem tl_X11_fill_40 {d : Nat} {x1 : Int32} {x2 : Int32} {x3 : Int32} {x4 : Int64} {x6 : Int64} {x9 : Int32} {I : Nat → Nat → Int32} {J : Nat → Nat → Int64} {T : Option Nat} {P : Int32 → (Nat → Nat → Int32) → (Nat → Nat → Int64) → Option Nat → Prop} {Q : ix_Q} (h : wl_X11_fill_40 x1 x2 x3 x4 x6 x9 I J T P) (hQ : ∀ v I J T, P v I J T → Q (some (.inl v)) (ix_mem 276 I J T)) : ix_W (ix_C (d + 1)) (11, ix_lk ix_l164, (some .boolean), 0, 0, Nat.blt 0 0, none) Q (40, [some (.inr (.inr (.inl (some (0))))), some (.inl (x1)), some (.inl (x2)), some (.inl (x3)), some (.inr (.inl (x4))), none, some (.inr (.inl (x6))), none, none, some (.inl (x9))], [], 0, 0, ix_mem 276 I J T) := by
  refine h (fun x1 x2 x3 x4 x6 x9 I J T => ix_W (ix_C (d + 1)) (11, ix_lk ix_l164, (some .boolean), 0, 0, Nat.blt 0 0, none) Q (40, [some (.inr (.inr (.inl (some (0))))), some (.inl (x1)), some (.inl (x2)), some (.inl (x3)), some (.inr (.inl (x4))), none, some (.inr (.inl (x6))), none, none, some (.inl (x9))], [], 0, 0, ix_mem 276 I J T)) ?_
  intro x1 x2 x3 x4 x6 x9 I J T hb
  unfold wb_X11_fill_40 at hb
  refine ix_go 3 (x' := (if x9 < x3 then 46 else 81, [some (.inr (.inr (.inl (some (0))))), some (.inl (x1)), some (.inl (x2)), some (.inl (x3)), some (.inr (.inl (x4))), none, some (.inr (.inl (x6))), none, none, some (.inl (x9))], [], 0, 0, ix_mem 276 I J T)) rfl trivial ?_
  refine ix_br (fun c7 => ?_) (fun c7 => ?_)
  · have h8 := hb.1 c7
    obtain ⟨p9, h10⟩ := h8
    obtain ⟨p11, h12⟩ := h10
    refine ix_go 17 (x' := (71, [some (.inr (.inr (.inl (some (0))))), some (.inl (x1)), some (.inl (x2)), some (.inl (x3)), some (.inr (.inl (x4))), none, some (.inr (.inl (x6))), none, none, some (.inl (x9))], [.inr (.inl ((x4) + (((x9).toInt64) * (x6)))), .inl (I 6 (x1).toNatClampNeg), .inl ((x2) + (x9)), .inr (.inr (.inl (some (ix_row 1 (x1)))))], 0, 0, ix_mem 276 I J T)) rfl ⟨rfl, rfl, rfl, rfl, rfl, p9, (rw_1 p9).1, rfl, rfl, rfl, rfl, p11⟩ ?_
    refine ix_sp rfl ⟨rfl, trivial, ix_le rfl, Nat.le_refl _, Nat.le_refl _, tp_X11_cutTo h12 (fun v13 I13 J13 T13 h13 => ?_)⟩
    change ix_W _ _ _ (74, [some (.inr (.inr (.inl (some (0))))), some (.inl (x1)), some (.inl (x2)), some (.inl (x3)), some (.inr (.inl (x4))), none, some (.inr (.inl (x6))), none, none, some (.inl (x9))], [.inr (.inl (v13)), .inl ((x2) + (x9)), .inr (.inr (.inl (some (ix_row 1 (x1)))))], 0, 0, ix_mem 276 I13 J13 T13)
    obtain ⟨p14, h15⟩ := h13
    refine ix_go 3 (x' := (40, [some (.inr (.inr (.inl (some (0))))), some (.inl (x1)), some (.inl (x2)), some (.inl (x3)), some (.inr (.inl (x4))), none, some (.inr (.inl (x6))), none, none, some (.inl (x9 + (1 : Int32)))], [], 0, 0, ix_mem 276 I13 (ix_u2 J13 (ix_row 1 (x1)) ((x2) + (x9)).toNatClampNeg (v13)) T13)) rfl ⟨(rw_1 p11).2.1, (rw_1 p11).2.2.1, (ix_inbL (rw_1 p11).2.2.2.1 p14)⟩ ?_
    refine ix_subW ([some (.inr (.inr (.inl (some (0))))), some (.inl (x1)), some (.inl (x2)), some (.inl (x3)), some (.inr (.inl (x4))), none, some (.inr (.inl (x6))), none, none, some (.inl (x9 + (1 : Int32)))]) (ix_subS (ix_subS (ix_subS (ix_subS (ix_subS (ix_subS (ix_subS (ix_subS (ix_subS (ix_subS (ix_sub0))))))))))) ?_
    exact h15
  · have h8 := hb.2 c7
    refine ix_go 1 (x' := (82, [some (.inr (.inr (.inl (some (0))))), some (.inl (x1)), some (.inl (x2)), some (.inl (x3)), some (.inr (.inl (x4))), none, some (.inr (.inl (x6))), none, none, some (.inl (x9))], [.inr (.inr (.inl (some (0))))], 0, 0, ix_mem 276 I J T)) rfl trivial ?_
    refine ix_sp rfl ⟨rfl, ⟨ix_lt rfl, ix_eq rfl, ix_lt rfl⟩, ix_le rfl, Nat.le_refl _, Nat.le_refl _, tp_X11_accepted h8 (fun v16 I16 J16 T16 h16 => ?_)⟩
    change ix_W _ _ _ (85, [some (.inr (.inr (.inl (some (0))))), some (.inl (x1)), some (.inl (x2)), some (.inl (x3)), some (.inr (.inl (x4))), none, some (.inr (.inl (x6))), none, none, some (.inl (x9))], [.inl (v16)], 0, 0, ix_mem 276 I16 J16 T16)
    exact ix_sp rfl ⟨Nat.le_refl _, Nat.le_refl _, ix_01_ok h16.1, hQ _ _ _ _ h16.2⟩
def wp_X11_fill (a0 : Int32) (a1 : Int32) (a2 : Int32) (a3 : Int64) (a4 : Int64) (I : Nat → Nat → Int32) (J : Nat → Nat → Int64) (T : Option Nat) (P : Int32 → (Nat → Nat → Int32) → (Nat → Nat → Int64) → Option Nat → Prop) : Prop := wp_X11_outside ((a2).toInt64) ((1 : Int64)) ((60 : Int64)) I J T (fun v1 I1 J1 T1 => ((v1 = 0 → wp_X11_trayStatus (a0) (a1) (a2) I1 J1 T1 (fun v4 I4 J4 T4 => ((v4 = 0 → wl_X11_fill_40 (a0) (a1) (a2) (a3) (a4) ((0 : Int32)) I4 J4 T4 P) ∧ (¬ (v4 = 0) → wp_X11_refused (v4) I4 J4 T4 (fun v17 I17 J17 T17 => ix_01 (v17) = true ∧ P (v17) I17 J17 T17))))) ∧ (¬ (v1 = 0) → wp_X11_refused ((1 : Int32)) I1 J1 T1 (fun v18 I18 J18 T18 => ix_01 (v18) = true ∧ P (v18) I18 J18 T18))))
set_option maxRecDepth 20000 in
theorem tp_X11_fill {d : Nat} {a0 : Int32} {a1 : Int32} {a2 : Int32} {a3 : Int64} {a4 : Int64} {I : Nat → Nat → Int32} {J : Nat → Nat → Int64} {T : Option Nat} {P : Int32 → (Nat → Nat → Int32) → (Nat → Nat → Int64) → Option Nat → Prop} {Q : ix_Q} (h : wp_X11_fill a0 a1 a2 a3 a4 I J T P) (hQ : ∀ v I J T, P v I J T → Q (some (.inl v)) (ix_mem 276 I J T)) : ix_C (d + 3) 164 [.inr (.inr (.inl (some (0)))), .inl (a0), .inl (a1), .inl (a2), .inr (.inl (a3)), .inr (.inl (a4))] (ix_mem 276 I J T) Q := by
  unfold wp_X11_fill at h
  refine ix_enter (ls := [some (.inr (.inr (.inl (some (0))))), some (.inl (a0)), some (.inl (a1)), some (.inl (a2)), some (.inr (.inl (a3))), none, some (.inr (.inl (a4))), none, none, none]) rfl rfl rfl (Nat.le_of_ble_eq_true rfl) ?_
  refine ix_go 4 (x' := (6, [some (.inr (.inr (.inl (some (0))))), some (.inl (a0)), some (.inl (a1)), some (.inl (a2)), some (.inr (.inl (a3))), none, some (.inr (.inl (a4))), none, none, none], [.inr (.inl ((60 : Int64))), .inr (.inl ((1 : Int64))), .inr (.inl ((a2).toInt64))], 0, 0, ix_mem 276 I J T)) rfl trivial ?_
  refine ix_sp rfl ⟨rfl, trivial, ix_le rfl, Nat.le_refl _, Nat.le_refl _, tp_X11_outside h (fun v1 I1 J1 T1 h1 => ?_)⟩
  change ix_W _ _ _ (9, [some (.inr (.inr (.inl (some (0))))), some (.inl (a0)), some (.inl (a1)), some (.inl (a2)), some (.inr (.inl (a3))), none, some (.inr (.inl (a4))), none, none, none], [.inl (v1)], 0, 0, ix_mem 276 I1 J1 T1)
  refine ix_go 1 (x' := (if v1 = 0 then 16 else 12, [some (.inr (.inr (.inl (some (0))))), some (.inl (a0)), some (.inl (a1)), some (.inl (a2)), some (.inr (.inl (a3))), none, some (.inr (.inl (a4))), none, none, none], [], 0, 0, ix_mem 276 I1 J1 T1)) rfl trivial ?_
  refine ix_br (fun c2 => ?_) (fun c2 => ?_)
  · have h3 := h1.1 c2
    refine ix_go 4 (x' := (20, [some (.inr (.inr (.inl (some (0))))), some (.inl (a0)), some (.inl (a1)), some (.inl (a2)), some (.inr (.inl (a3))), none, some (.inr (.inl (a4))), none, none, none], [.inl (a2), .inl (a1), .inl (a0), .inr (.inr (.inl (some (0))))], 0, 0, ix_mem 276 I1 J1 T1)) rfl trivial ?_
    refine ix_sp rfl ⟨rfl, ⟨ix_lt rfl, ix_eq rfl, ix_lt rfl⟩, ix_le rfl, Nat.le_refl _, Nat.le_refl _, tp_X11_trayStatus h3 (fun v4 I4 J4 T4 h4 => ?_)⟩
    change ix_W _ _ _ (23, [some (.inr (.inr (.inl (some (0))))), some (.inl (a0)), some (.inl (a1)), some (.inl (a2)), some (.inr (.inl (a3))), none, some (.inr (.inl (a4))), none, none, none], [.inl (v4)], 0, 0, ix_mem 276 I4 J4 T4)
    refine ix_go 3 (x' := (if v4 = 0 then 37 else 30, [some (.inr (.inr (.inl (some (0))))), some (.inl (a0)), some (.inl (a1)), some (.inl (a2)), some (.inr (.inl (a3))), none, some (.inr (.inl (a4))), none, some (.inl (v4)), none], [], 0, 0, ix_mem 276 I4 J4 T4)) rfl trivial ?_
    refine ix_br (fun c5 => ?_) (fun c5 => ?_)
    · have h6 := h4.1 c5
      refine ix_go 2 (x' := (40, [some (.inr (.inr (.inl (some (0))))), some (.inl (a0)), some (.inl (a1)), some (.inl (a2)), some (.inr (.inl (a3))), none, some (.inr (.inl (a4))), none, some (.inl (v4)), some (.inl ((0 : Int32)))], [], 0, 0, ix_mem 276 I4 J4 T4)) rfl trivial ?_
      refine ix_subW ([some (.inr (.inr (.inl (some (0))))), some (.inl (a0)), some (.inl (a1)), some (.inl (a2)), some (.inr (.inl (a3))), none, some (.inr (.inl (a4))), none, none, some (.inl ((0 : Int32)))]) (ix_subS (ix_subS (ix_subS (ix_subS (ix_subS (ix_subS (ix_subS (ix_subS (ix_subN (ix_subS (ix_sub0))))))))))) ?_
      exact tl_X11_fill_40 h6 hQ
    · have h6 := h4.2 c5
      refine ix_go 2 (x' := (33, [some (.inr (.inr (.inl (some (0))))), some (.inl (a0)), some (.inl (a1)), some (.inl (a2)), some (.inr (.inl (a3))), none, some (.inr (.inl (a4))), none, some (.inl (v4)), none], [.inl (v4), .inr (.inr (.inl (some (0))))], 0, 0, ix_mem 276 I4 J4 T4)) rfl trivial ?_
      refine ix_sp rfl ⟨rfl, ⟨ix_lt rfl, ix_eq rfl, ix_lt rfl⟩, ix_le rfl, Nat.le_refl _, Nat.le_refl _, tp_X11_refused h6 (fun v17 I17 J17 T17 h17 => ?_)⟩
      change ix_W _ _ _ (36, [some (.inr (.inr (.inl (some (0))))), some (.inl (a0)), some (.inl (a1)), some (.inl (a2)), some (.inr (.inl (a3))), none, some (.inr (.inl (a4))), none, some (.inl (v4)), none], [.inl (v17)], 0, 0, ix_mem 276 I17 J17 T17)
      exact ix_sp rfl ⟨Nat.le_refl _, Nat.le_refl _, ix_01_ok h17.1, hQ _ _ _ _ h17.2⟩
  · have h3 := h1.2 c2
    refine ix_go 7 (x' := (33, [some (.inr (.inr (.inl (some (0))))), some (.inl (a0)), some (.inl (a1)), some (.inl (a2)), some (.inr (.inl (a3))), none, some (.inr (.inl (a4))), none, some (.inl ((1 : Int32))), none], [.inl ((1 : Int32)), .inr (.inr (.inl (some (0))))], 0, 0, ix_mem 276 I1 J1 T1)) rfl trivial ?_
    refine ix_sp rfl ⟨rfl, ⟨ix_lt rfl, ix_eq rfl, ix_lt rfl⟩, ix_le rfl, Nat.le_refl _, Nat.le_refl _, tp_X11_refused h3 (fun v18 I18 J18 T18 h18 => ?_)⟩
    change ix_W _ _ _ (36, [some (.inr (.inr (.inl (some (0))))), some (.inl (a0)), some (.inl (a1)), some (.inl (a2)), some (.inr (.inl (a3))), none, some (.inr (.inl (a4))), none, some (.inl ((1 : Int32))), none], [.inl (v18)], 0, 0, ix_mem 276 I18 J18 T18)
    exact ix_sp rfl ⟨Nat.le_refl _, Nat.le_refl _, ix_01_ok h18.1, hQ _ _ _ _ h18.2⟩
def wp_X11_refuse (a0 : Int32) (I : Nat → Nat → Int32) (J : Nat → Nat → Int64) (T : Option Nat) (P : Int32 → (Nat → Nat → Int32) → (Nat → Nat → Int64) → Option Nat → Prop) : Prop := P ((-1 : Int32)) (ix_u2 I 0 0 (a0)) J T
set_option maxRecDepth 20000 in
theorem tp_X11_refuse {d : Nat} {a0 : Int32} {I : Nat → Nat → Int32} {J : Nat → Nat → Int64} {T : Option Nat} {P : Int32 → (Nat → Nat → Int32) → (Nat → Nat → Int64) → Option Nat → Prop} {Q : ix_Q} (h : wp_X11_refuse a0 I J T P) (hQ : ∀ v I J T, P v I J T → Q (some (.inl v)) (ix_mem 276 I J T)) : ix_C (d + 1) 165 [.inr (.inr (.inl (some (0)))), .inl (a0)] (ix_mem 276 I J T) Q := by
  unfold wp_X11_refuse at h
  refine ix_enter (ls := [some (.inr (.inr (.inl (some (0))))), some (.inl (a0))]) rfl rfl rfl (Nat.le_of_ble_eq_true rfl) ?_
  refine ix_go 4 (x' := (6, [some (.inr (.inr (.inl (some (0))))), some (.inl (a0))], [.inl ((-1 : Int32))], 0, 0, ix_mem 276 (ix_u2 I 0 0 (a0)) J T)) rfl ⟨rfl, rfl⟩ ?_
  exact ix_sp rfl ⟨Nat.le_refl _, Nat.le_refl _, trivial, hQ _ _ _ _ h⟩
def wp_X11_read (a0 : Int32) (a1 : Int32) (I : Nat → Nat → Int32) (J : Nat → Nat → Int64) (T : Option Nat) (P : Int64 → (Nat → Nat → Int32) → (Nat → Nat → Int64) → Option Nat → Prop) : Prop := wp_X11_trayStatus (a0) (a1) ((1 : Int32)) I J T (fun v1 I1 J1 T1 => ((v1 = 0 → ix_inb (a0) 4 = true ∧ ix_inb (a1) 60 = true ∧ P (J1 (ix_row 1 (a0)) (a1).toNatClampNeg) (ix_u2 I1 0 0 ((0 : Int32))) J1 T1) ∧ (¬ (v1 = 0) → wp_X11_refuse (v1) I1 J1 T1 (fun v8 I8 J8 T8 => P ((v8).toInt64) I8 J8 T8))))
set_option maxRecDepth 20000 in
theorem tp_X11_read {d : Nat} {a0 : Int32} {a1 : Int32} {I : Nat → Nat → Int32} {J : Nat → Nat → Int64} {T : Option Nat} {P : Int64 → (Nat → Nat → Int32) → (Nat → Nat → Int64) → Option Nat → Prop} {Q : ix_Q} (h : wp_X11_read a0 a1 I J T P) (hQ : ∀ v I J T, P v I J T → Q (some (.inr (.inl v))) (ix_mem 276 I J T)) : ix_C (d + 3) 166 [.inr (.inr (.inl (some (0)))), .inl (a0), .inl (a1)] (ix_mem 276 I J T) Q := by
  unfold wp_X11_read at h
  refine ix_enter (ls := [some (.inr (.inr (.inl (some (0))))), some (.inl (a0)), some (.inl (a1)), none]) rfl rfl rfl (Nat.le_of_ble_eq_true rfl) ?_
  refine ix_go 4 (x' := (4, [some (.inr (.inr (.inl (some (0))))), some (.inl (a0)), some (.inl (a1)), none], [.inl ((1 : Int32)), .inl (a1), .inl (a0), .inr (.inr (.inl (some (0))))], 0, 0, ix_mem 276 I J T)) rfl trivial ?_
  refine ix_sp rfl ⟨rfl, ⟨ix_lt rfl, ix_eq rfl, ix_lt rfl⟩, ix_le rfl, Nat.le_refl _, Nat.le_refl _, tp_X11_trayStatus h (fun v1 I1 J1 T1 h1 => ?_)⟩
  change ix_W _ _ _ (7, [some (.inr (.inr (.inl (some (0))))), some (.inl (a0)), some (.inl (a1)), none], [.inl (v1)], 0, 0, ix_mem 276 I1 J1 T1)
  refine ix_go 3 (x' := (if v1 = 0 then 19 else 12, [some (.inr (.inr (.inl (some (0))))), some (.inl (a0)), some (.inl (a1)), some (.inl (v1))], [], 0, 0, ix_mem 276 I1 J1 T1)) rfl trivial ?_
  refine ix_br (fun c2 => ?_) (fun c2 => ?_)
  · have h3 := h1.1 c2
    obtain ⟨p4, h5⟩ := h3
    obtain ⟨p6, h7⟩ := h5
    refine ix_go 9 (x' := (32, [some (.inr (.inr (.inl (some (0))))), some (.inl (a0)), some (.inl (a1)), some (.inl (v1))], [.inr (.inl (J1 (ix_row 1 (a0)) (a1).toNatClampNeg))], 0, 0, ix_mem 276 (ix_u2 I1 0 0 ((0 : Int32))) J1 T1)) rfl ⟨rfl, rfl, rfl, rfl, rfl, rfl, rfl, p4, (rw_1 p4).1, (rw_1 p4).2.1, (rw_1 p4).2.2.1, (ix_inbL (rw_1 p4).2.2.2.1 p6)⟩ ?_
    exact ix_sp rfl ⟨Nat.le_refl _, Nat.le_refl _, rfl, hQ _ _ _ _ h7⟩
  · have h3 := h1.2 c2
    refine ix_go 2 (x' := (14, [some (.inr (.inr (.inl (some (0))))), some (.inl (a0)), some (.inl (a1)), some (.inl (v1))], [.inl (v1), .inr (.inr (.inl (some (0))))], 0, 0, ix_mem 276 I1 J1 T1)) rfl trivial ?_
    refine ix_sp rfl ⟨rfl, ⟨ix_lt rfl, ix_eq rfl, ix_lt rfl⟩, ix_le rfl, Nat.le_refl _, Nat.le_refl _, tp_X11_refuse h3 (fun v8 I8 J8 T8 h8 => ?_)⟩
    change ix_W _ _ _ (17, [some (.inr (.inr (.inl (some (0))))), some (.inl (a0)), some (.inl (a1)), some (.inl (v1))], [.inl (v8)], 0, 0, ix_mem 276 I8 J8 T8)
    refine ix_go 1 (x' := (18, [some (.inr (.inr (.inl (some (0))))), some (.inl (a0)), some (.inl (a1)), some (.inl (v1))], [.inr (.inl ((v8).toInt64))], 0, 0, ix_mem 276 I8 J8 T8)) rfl trivial ?_
    exact ix_sp rfl ⟨Nat.le_refl _, Nat.le_refl _, rfl, hQ _ _ _ _ h8⟩
def wp_X11_pourStatus (a0 : Int32) (a1 : Int32) (a2 : Int32) (a3 : Int32) (a4 : Int32) (I : Nat → Nat → Int32) (J : Nat → Nat → Int64) (T : Option Nat) (P : Int32 → (Nat → Nat → Int32) → (Nat → Nat → Int64) → Option Nat → Prop) : Prop := wp_X11_outside ((a0).toInt64) ((0 : Int64)) ((3 : Int64)) I J T (fun v1 I1 J1 T1 => ((v1 = 0 → wp_X11_outside ((a2).toInt64) ((0 : Int64)) ((3 : Int64)) I1 J1 T1 (fun v4 I4 J4 T4 => ((v4 = 0 → ((a1 < 0 → P ((1 : Int32)) I4 J4 T4) ∧ (¬ (a1 < 0) → ((a3 < 0 → P ((1 : Int32)) I4 J4 T4) ∧ (¬ (a3 < 0) → ((a4 < 0 → P ((1 : Int32)) I4 J4 T4) ∧ (¬ (a4 < 0) → ix_inb (a0) 4 = true ∧ ((I4 6 (a0).toNatClampNeg = (-1 : Int32) → P ((2 : Int32)) I4 J4 T4) ∧ (¬ (I4 6 (a0).toNatClampNeg = (-1 : Int32)) → ix_inb (a2) 4 = true ∧ ((I4 6 (a2).toNatClampNeg = (-1 : Int32) → P ((2 : Int32)) I4 J4 T4) ∧ (¬ (I4 6 (a2).toNatClampNeg = (-1 : Int32)) → ix_inb (a0) 4 = true ∧ ix_inb (a2) 4 = true ∧ ((I4 6 (a0).toNatClampNeg = I4 6 (a2).toNatClampNeg → ix_inb (a0) 4 = true ∧ ((a1 ≤ (I4 7 (a0).toNatClampNeg) - (a4) → ix_inb (a2) 4 = true ∧ ((a3 ≤ (I4 7 (a2).toNatClampNeg) - (a4) → P ((0 : Int32)) I4 J4 T4) ∧ (¬ (a3 ≤ (I4 7 (a2).toNatClampNeg) - (a4)) → P ((3 : Int32)) I4 J4 T4))) ∧ (¬ (a1 ≤ (I4 7 (a0).toNatClampNeg) - (a4)) → P ((3 : Int32)) I4 J4 T4))) ∧ (¬ (I4 6 (a0).toNatClampNeg = I4 6 (a2).toNatClampNeg) → P ((8 : Int32)) I4 J4 T4))))))))))))) ∧ (¬ (v4 = 0) → P ((1 : Int32)) I4 J4 T4)))) ∧ (¬ (v1 = 0) → P ((1 : Int32)) I1 J1 T1)))
set_option maxRecDepth 20000 in
theorem tp_X11_pourStatus {d : Nat} {a0 : Int32} {a1 : Int32} {a2 : Int32} {a3 : Int32} {a4 : Int32} {I : Nat → Nat → Int32} {J : Nat → Nat → Int64} {T : Option Nat} {P : Int32 → (Nat → Nat → Int32) → (Nat → Nat → Int64) → Option Nat → Prop} {Q : ix_Q} (h : wp_X11_pourStatus a0 a1 a2 a3 a4 I J T P) (hQ : ∀ v I J T, P v I J T → Q (some (.inl v)) (ix_mem 276 I J T)) : ix_C (d + 2) 167 [.inr (.inr (.inl (some (0)))), .inl (a0), .inl (a1), .inl (a2), .inl (a3), .inl (a4)] (ix_mem 276 I J T) Q := by
  unfold wp_X11_pourStatus at h
  refine ix_enter (ls := [some (.inr (.inr (.inl (some (0))))), some (.inl (a0)), some (.inl (a1)), some (.inl (a2)), some (.inl (a3)), some (.inl (a4))]) rfl rfl rfl (Nat.le_of_ble_eq_true rfl) ?_
  refine ix_go 4 (x' := (6, [some (.inr (.inr (.inl (some (0))))), some (.inl (a0)), some (.inl (a1)), some (.inl (a2)), some (.inl (a3)), some (.inl (a4))], [.inr (.inl ((3 : Int64))), .inr (.inl ((0 : Int64))), .inr (.inl ((a0).toInt64))], 0, 0, ix_mem 276 I J T)) rfl trivial ?_
  refine ix_sp rfl ⟨rfl, trivial, ix_le rfl, Nat.le_refl _, Nat.le_refl _, tp_X11_outside h (fun v1 I1 J1 T1 h1 => ?_)⟩
  change ix_W _ _ _ (9, [some (.inr (.inr (.inl (some (0))))), some (.inl (a0)), some (.inl (a1)), some (.inl (a2)), some (.inl (a3)), some (.inl (a4))], [.inl (v1)], 0, 0, ix_mem 276 I1 J1 T1)
  refine ix_go 1 (x' := (if v1 = 0 then 12 else 38, [some (.inr (.inr (.inl (some (0))))), some (.inl (a0)), some (.inl (a1)), some (.inl (a2)), some (.inl (a3)), some (.inl (a4))], [], 0, 0, ix_mem 276 I1 J1 T1)) rfl trivial ?_
  refine ix_br (fun c2 => ?_) (fun c2 => ?_)
  · have h3 := h1.1 c2
    refine ix_go 4 (x' := (18, [some (.inr (.inr (.inl (some (0))))), some (.inl (a0)), some (.inl (a1)), some (.inl (a2)), some (.inl (a3)), some (.inl (a4))], [.inr (.inl ((3 : Int64))), .inr (.inl ((0 : Int64))), .inr (.inl ((a2).toInt64))], 0, 0, ix_mem 276 I1 J1 T1)) rfl trivial ?_
    refine ix_sp rfl ⟨rfl, trivial, ix_le rfl, Nat.le_refl _, Nat.le_refl _, tp_X11_outside h3 (fun v4 I4 J4 T4 h4 => ?_)⟩
    change ix_W _ _ _ (21, [some (.inr (.inr (.inl (some (0))))), some (.inl (a0)), some (.inl (a1)), some (.inl (a2)), some (.inl (a3)), some (.inl (a4))], [.inl (v4)], 0, 0, ix_mem 276 I4 J4 T4)
    refine ix_go 1 (x' := (if v4 = 0 then 24 else 38, [some (.inr (.inr (.inl (some (0))))), some (.inl (a0)), some (.inl (a1)), some (.inl (a2)), some (.inl (a3)), some (.inl (a4))], [], 0, 0, ix_mem 276 I4 J4 T4)) rfl trivial ?_
    refine ix_br (fun c5 => ?_) (fun c5 => ?_)
    · have h6 := h4.1 c5
      refine ix_go 2 (x' := (if a1 < 0 then 38 else 28, [some (.inr (.inr (.inl (some (0))))), some (.inl (a0)), some (.inl (a1)), some (.inl (a2)), some (.inl (a3)), some (.inl (a4))], [], 0, 0, ix_mem 276 I4 J4 T4)) rfl trivial ?_
      refine ix_br (fun c7 => ?_) (fun c7 => ?_)
      · have h8 := h6.1 c7
        refine ix_go 1 (x' := (39, [some (.inr (.inr (.inl (some (0))))), some (.inl (a0)), some (.inl (a1)), some (.inl (a2)), some (.inl (a3)), some (.inl (a4))], [.inl ((1 : Int32))], 0, 0, ix_mem 276 I4 J4 T4)) rfl trivial ?_
        exact ix_sp rfl ⟨Nat.le_refl _, Nat.le_refl _, trivial, hQ _ _ _ _ h8⟩
      · have h8 := h6.2 c7
        refine ix_go 2 (x' := (if a3 < 0 then 38 else 33, [some (.inr (.inr (.inl (some (0))))), some (.inl (a0)), some (.inl (a1)), some (.inl (a2)), some (.inl (a3)), some (.inl (a4))], [], 0, 0, ix_mem 276 I4 J4 T4)) rfl trivial ?_
        refine ix_br (fun c9 => ?_) (fun c9 => ?_)
        · have h10 := h8.1 c9
          refine ix_go 1 (x' := (39, [some (.inr (.inr (.inl (some (0))))), some (.inl (a0)), some (.inl (a1)), some (.inl (a2)), some (.inl (a3)), some (.inl (a4))], [.inl ((1 : Int32))], 0, 0, ix_mem 276 I4 J4 T4)) rfl trivial ?_
          exact ix_sp rfl ⟨Nat.le_refl _, Nat.le_refl _, trivial, hQ _ _ _ _ h10⟩
        · have h10 := h8.2 c9
          refine ix_go 2 (x' := (if a4 < 0 then 38 else 40, [some (.inr (.inr (.inl (some (0))))), some (.inl (a0)), some (.inl (a1)), some (.inl (a2)), some (.inl (a3)), some (.inl (a4))], [], 0, 0, ix_mem 276 I4 J4 T4)) rfl trivial ?_
          refine ix_br (fun c11 => ?_) (fun c11 => ?_)
          · have h12 := h10.1 c11
            refine ix_go 1 (x' := (39, [some (.inr (.inr (.inl (some (0))))), some (.inl (a0)), some (.inl (a1)), some (.inl (a2)), some (.inl (a3)), some (.inl (a4))], [.inl ((1 : Int32))], 0, 0, ix_mem 276 I4 J4 T4)) rfl trivial ?_
            exact ix_sp rfl ⟨Nat.le_refl _, Nat.le_refl _, trivial, hQ _ _ _ _ h12⟩
          · have h12 := h10.2 c11
            obtain ⟨p13, h14⟩ := h12
            refine ix_go 6 (x' := (if I4 6 (a0).toNatClampNeg = (-1 : Int32) then 60 else 50, [some (.inr (.inr (.inl (some (0))))), some (.inl (a0)), some (.inl (a1)), some (.inl (a2)), some (.inl (a3)), some (.inl (a4))], [], 0, 0, ix_mem 276 I4 J4 T4)) rfl ⟨rfl, rfl, rfl, rfl, p13⟩ ?_
            refine ix_br (fun c15 => ?_) (fun c15 => ?_)
            · have h16 := h14.1 c15
              refine ix_go 1 (x' := (61, [some (.inr (.inr (.inl (some (0))))), some (.inl (a0)), some (.inl (a1)), some (.inl (a2)), some (.inl (a3)), some (.inl (a4))], [.inl ((2 : Int32))], 0, 0, ix_mem 276 I4 J4 T4)) rfl trivial ?_
              exact ix_sp rfl ⟨Nat.le_refl _, Nat.le_refl _, trivial, hQ _ _ _ _ h16⟩
            · have h16 := h14.2 c15
              obtain ⟨p17, h18⟩ := h16
              refine ix_go 6 (x' := (if I4 6 (a2).toNatClampNeg = (-1 : Int32) then 60 else 62, [some (.inr (.inr (.inl (some (0))))), some (.inl (a0)), some (.inl (a1)), some (.inl (a2)), some (.inl (a3)), some (.inl (a4))], [], 0, 0, ix_mem 276 I4 J4 T4)) rfl ⟨rfl, rfl, rfl, rfl, p17⟩ ?_
              refine ix_br (fun c19 => ?_) (fun c19 => ?_)
              · have h20 := h18.1 c19
                refine ix_go 1 (x' := (61, [some (.inr (.inr (.inl (some (0))))), some (.inl (a0)), some (.inl (a1)), some (.inl (a2)), some (.inl (a3)), some (.inl (a4))], [.inl ((2 : Int32))], 0, 0, ix_mem 276 I4 J4 T4)) rfl trivial ?_
                exact ix_sp rfl ⟨Nat.le_refl _, Nat.le_refl _, trivial, hQ _ _ _ _ h20⟩
              · have h20 := h18.2 c19
                obtain ⟨p21, h22⟩ := h20
                obtain ⟨p23, h24⟩ := h22
                refine ix_go 9 (x' := (if I4 6 (a0).toNatClampNeg = I4 6 (a2).toNatClampNeg then 80 else 77, [some (.inr (.inr (.inl (some (0))))), some (.inl (a0)), some (.inl (a1)), some (.inl (a2)), some (.inl (a3)), some (.inl (a4))], [], 0, 0, ix_mem 276 I4 J4 T4)) rfl ⟨rfl, rfl, rfl, rfl, p21, rfl, rfl, rfl, rfl, p23⟩ ?_
                refine ix_br (fun c25 => ?_) (fun c25 => ?_)
                · have h26 := h24.1 c25
                  obtain ⟨p27, h28⟩ := h26
                  refine ix_go 8 (x' := (if a1 ≤ (I4 7 (a0).toNatClampNeg) - (a4) then 93 else 107, [some (.inr (.inr (.inl (some (0))))), some (.inl (a0)), some (.inl (a1)), some (.inl (a2)), some (.inl (a3)), some (.inl (a4))], [], 0, 0, ix_mem 276 I4 J4 T4)) rfl ⟨rfl, rfl, rfl, rfl, p27⟩ ?_
                  refine ix_br (fun c29 => ?_) (fun c29 => ?_)
                  · have h30 := h28.1 c29
                    obtain ⟨p31, h32⟩ := h30
                    refine ix_go 8 (x' := (if a3 ≤ (I4 7 (a2).toNatClampNeg) - (a4) then 111 else 107, [some (.inr (.inr (.inl (some (0))))), some (.inl (a0)), some (.inl (a1)), some (.inl (a2)), some (.inl (a3)), some (.inl (a4))], [], 0, 0, ix_mem 276 I4 J4 T4)) rfl ⟨rfl, rfl, rfl, rfl, p31⟩ ?_
                    refine ix_br (fun c33 => ?_) (fun c33 => ?_)
                    · have h34 := h32.1 c33
                      refine ix_go 1 (x' := (112, [some (.inr (.inr (.inl (some (0))))), some (.inl (a0)), some (.inl (a1)), some (.inl (a2)), some (.inl (a3)), some (.inl (a4))], [.inl ((0 : Int32))], 0, 0, ix_mem 276 I4 J4 T4)) rfl trivial ?_
                      exact ix_sp rfl ⟨Nat.le_refl _, Nat.le_refl _, trivial, hQ _ _ _ _ h34⟩
                    · have h34 := h32.2 c33
                      refine ix_go 2 (x' := (112, [some (.inr (.inr (.inl (some (0))))), some (.inl (a0)), some (.inl (a1)), some (.inl (a2)), some (.inl (a3)), some (.inl (a4))], [.inl ((3 : Int32))], 0, 0, ix_mem 276 I4 J4 T4)) rfl trivial ?_
                      exact ix_sp rfl ⟨Nat.le_refl _, Nat.le_refl _, trivial, hQ _ _ _ _ h34⟩
                  · have h30 := h28.2 c29
                    refine ix_go 2 (x' := (112, [some (.inr (.inr (.inl (some (0))))), some (.inl (a0)), some (.inl (a1)), some (.inl (a2)), some (.inl (a3)), some (.inl (a4))], [.inl ((3 : Int32))], 0, 0, ix_mem 276 I4 J4 T4)) rfl trivial ?_
                    exact ix_sp rfl ⟨Nat.le_refl _, Nat.le_refl _, trivial, hQ _ _ _ _ h30⟩
                · have h26 := h24.2 c25
                  refine ix_go 1 (x' := (79, [some (.inr (.inr (.inl (some (0))))), some (.inl (a0)), some (.inl (a1)), some (.inl (a2)), some (.inl (a3)), some (.inl (a4))], [.inl ((8 : Int32))], 0, 0, ix_mem 276 I4 J4 T4)) rfl trivial ?_
                  exact ix_sp rfl ⟨Nat.le_refl _, Nat.le_refl _, trivial, hQ _ _ _ _ h26⟩
    · have h6 := h4.2 c5
      refine ix_go 1 (x' := (39, [some (.inr (.inr (.inl (some (0))))), some (.inl (a0)), some (.inl (a1)), some (.inl (a2)), some (.inl (a3)), some (.inl (a4))], [.inl ((1 : Int32))], 0, 0, ix_mem 276 I4 J4 T4)) rfl trivial ?_
      exact ix_sp rfl ⟨Nat.le_refl _, Nat.le_refl _, trivial, hQ _ _ _ _ h6⟩
  · have h3 := h1.2 c2
    refine ix_go 1 (x' := (39, [some (.inr (.inr (.inl (some (0))))), some (.inl (a0)), some (.inl (a1)), some (.inl (a2)), some (.inl (a3)), some (.inl (a4))], [.inl ((1 : Int32))], 0, 0, ix_mem 276 I1 J1 T1)) rfl trivial ?_
    exact ix_sp rfl ⟨Nat.le_refl _, Nat.le_refl _, trivial, hQ _ _ _ _ h3⟩
def wp_X11_pour (a0 : Int32) (a1 : Int32) (a2 : Int32) (a3 : Int32) (a4 : Int32) (I : Nat → Nat → Int32) (J : Nat → Nat → Int64) (T : Option Nat) (P : Int32 → (Nat → Nat → Int32) → (Nat → Nat → Int64) → Option Nat → Prop) : Prop := wp_X11_pourStatus (a0) (a1) (a2) (a3) (a4) I J T (fun v1 I1 J1 T1 => ((v1 = 0 → ix_inb (a0) 4 = true ∧ ix_inb (a2) 4 = true ∧ ((¬ (a1) < 0 ∧ ¬ (a3) < 0 ∧ ¬ (a4) < 0) ∧ (a1).toNatClampNeg + (a4).toNatClampNeg ≤ 60 ∧ (a3).toNatClampNeg + (a4).toNatClampNeg ≤ 60) ∧ wp_X11_accepted I1 (ix_cpj J1 (ix_row 1 (a0)) (ix_row 1 (a2)) (a1).toNatClampNeg (a3).toNatClampNeg (a4).toNatClampNeg) T1 (fun v10 I10 J10 T10 => ix_01 (v10) = true ∧ P (v10) I10 J10 T10)) ∧ (¬ (v1 = 0) → wp_X11_refused (v1) I1 J1 T1 (fun v11 I11 J11 T11 => ix_01 (v11) = true ∧ P (v11) I11 J11 T11))))
set_option maxRecDepth 20000 in
theorem tp_X11_pour {d : Nat} {a0 : Int32} {a1 : Int32} {a2 : Int32} {a3 : Int32} {a4 : Int32} {I : Nat → Nat → Int32} {J : Nat → Nat → Int64} {T : Option Nat} {P : Int32 → (Nat → Nat → Int32) → (Nat → Nat → Int64) → Option Nat → Prop} {Q : ix_Q} (h : wp_X11_pour a0 a1 a2 a3 a4 I J T P) (hQ : ∀ v I J T, P v I J T → Q (some (.inl v)) (ix_mem 276 I J T)) : ix_C (d + 3) 168 [.inr (.inr (.inl (some (0)))), .inl (a0), .inl (a1), .inl (a2), .inl (a3), .inl (a4)] (ix_mem 276 I J T) Q := by
  unfold wp_X11_pour at h
  refine ix_enter (ls := [some (.inr (.inr (.inl (some (0))))), some (.inl (a0)), some (.inl (a1)), some (.inl (a2)), some (.inl (a3)), some (.inl (a4)), none]) rfl rfl rfl (Nat.le_of_ble_eq_true rfl) ?_
  refine ix_go 6 (x' := (8, [some (.inr (.inr (.inl (some (0))))), some (.inl (a0)), some (.inl (a1)), some (.inl (a2)), some (.inl (a3)), some (.inl (a4)), none], [.inl (a4), .inl (a3), .inl (a2), .inl (a1), .inl (a0), .inr (.inr (.inl (some (0))))], 0, 0, ix_mem 276 I J T)) rfl trivial ?_
  refine ix_sp rfl ⟨rfl, ⟨ix_lt rfl, ix_eq rfl, ix_lt rfl⟩, ix_le rfl, Nat.le_refl _, Nat.le_refl _, tp_X11_pourStatus h (fun v1 I1 J1 T1 h1 => ?_)⟩
  change ix_W _ _ _ (11, [some (.inr (.inr (.inl (some (0))))), some (.inl (a0)), some (.inl (a1)), some (.inl (a2)), some (.inl (a3)), some (.inl (a4)), none], [.inl (v1)], 0, 0, ix_mem 276 I1 J1 T1)
  refine ix_go 3 (x' := (if v1 = 0 then 25 else 18, [some (.inr (.inr (.inl (some (0))))), some (.inl (a0)), some (.inl (a1)), some (.inl (a2)), some (.inl (a3)), some (.inl (a4)), some (.inl (v1))], [], 0, 0, ix_mem 276 I1 J1 T1)) rfl trivial ?_
  refine ix_br (fun c2 => ?_) (fun c2 => ?_)
  · have h3 := h1.1 c2
    obtain ⟨p4, h5⟩ := h3
    refine ix_go 7 (x' := (36, [some (.inr (.inr (.inl (some (0))))), some (.inl (a0)), some (.inl (a1)), some (.inl (a2)), some (.inl (a3)), some (.inl (a4)), some (.inl (v1))], [.inr (.inr (.inl (some (1)))), .inl (a1), .inr (.inr (.inl (some (ix_row 1 (a0)))))], 0, 0, ix_mem 276 I1 J1 T1)) rfl ⟨rfl, rfl, rfl, rfl, rfl, p4, (rw_1 p4).1, rfl, rfl⟩ ?_
    obtain ⟨p6, h7⟩ := h5
    refine ix_go 4 (x' := (42, [some (.inr (.inr (.inl (some (0))))), some (.inl (a0)), some (.inl (a1)), some (.inl (a2)), some (.inl (a3)), some (.inl (a4)), some (.inl (v1))], [.inl (a4), .inl (a3), .inr (.inr (.inl (some (ix_row 1 (a2))))), .inl (a1), .inr (.inr (.inl (some (ix_row 1 (a0)))))], 0, 0, ix_mem 276 I1 J1 T1)) rfl ⟨rfl, rfl, rfl, p6, (rw_1 p6).1⟩ ?_
    obtain ⟨p8, h9⟩ := h7
    refine ix_sp rfl ⟨ix_le rfl, ⟨⟨ix_lt (rw_1 p4).2.1, ix_eq (rw_1 p4).2.2.1, ix_lt (rw_1 p6).2.1, ix_eq (rw_1 p6).2.2.1⟩, p8.1, Nat.le_trans p8.2.1 (Nat.le_of_eq (rw_1 p4).2.2.2.1.symm), Nat.le_trans p8.2.2 (Nat.le_of_eq (rw_1 p6).2.2.2.1.symm)⟩, ?_⟩
    change ix_W _ _ _ (45, [some (.inr (.inr (.inl (some (0))))), some (.inl (a0)), some (.inl (a1)), some (.inl (a2)), some (.inl (a3)), some (.inl (a4)), some (.inl (v1))], [], 0, 0, ix_mem 276 I1 (ix_cpj J1 (ix_row 1 (a0)) (ix_row 1 (a2)) (a1).toNatClampNeg (a3).toNatClampNeg (a4).toNatClampNeg) T1)
    refine ix_go 1 (x' := (46, [some (.inr (.inr (.inl (some (0))))), some (.inl (a0)), some (.inl (a1)), some (.inl (a2)), some (.inl (a3)), some (.inl (a4)), some (.inl (v1))], [.inr (.inr (.inl (some (0))))], 0, 0, ix_mem 276 I1 (ix_cpj J1 (ix_row 1 (a0)) (ix_row 1 (a2)) (a1).toNatClampNeg (a3).toNatClampNeg (a4).toNatClampNeg) T1)) rfl trivial ?_
    refine ix_sp rfl ⟨rfl, ⟨ix_lt rfl, ix_eq rfl, ix_lt rfl⟩, ix_le rfl, Nat.le_refl _, Nat.le_refl _, tp_X11_accepted h9 (fun v10 I10 J10 T10 h10 => ?_)⟩
    change ix_W _ _ _ (49, [some (.inr (.inr (.inl (some (0))))), some (.inl (a0)), some (.inl (a1)), some (.inl (a2)), some (.inl (a3)), some (.inl (a4)), some (.inl (v1))], [.inl (v10)], 0, 0, ix_mem 276 I10 J10 T10)
    exact ix_sp rfl ⟨Nat.le_refl _, Nat.le_refl _, ix_01_ok h10.1, hQ _ _ _ _ h10.2⟩
  · have h3 := h1.2 c2
    refine ix_go 2 (x' := (21, [some (.inr (.inr (.inl (some (0))))), some (.inl (a0)), some (.inl (a1)), some (.inl (a2)), some (.inl (a3)), some (.inl (a4)), some (.inl (v1))], [.inl (v1), .inr (.inr (.inl (some (0))))], 0, 0, ix_mem 276 I1 J1 T1)) rfl trivial ?_
    refine ix_sp rfl ⟨rfl, ⟨ix_lt rfl, ix_eq rfl, ix_lt rfl⟩, ix_le rfl, Nat.le_refl _, Nat.le_refl _, tp_X11_refused h3 (fun v11 I11 J11 T11 h11 => ?_)⟩
    change ix_W _ _ _ (24, [some (.inr (.inr (.inl (some (0))))), some (.inl (a0)), some (.inl (a1)), some (.inl (a2)), some (.inl (a3)), some (.inl (a4)), some (.inl (v1))], [.inl (v11)], 0, 0, ix_mem 276 I11 J11 T11)
    exact ix_sp rfl ⟨Nat.le_refl _, Nat.le_refl _, ix_01_ok h11.1, hQ _ _ _ _ h11.2⟩
def wp_X11_land (I : Nat → Nat → Int32) (J : Nat → Nat → Int64) (T : Option Nat) (P : Int32 → (Nat → Nat → Int32) → (Nat → Nat → Int64) → Option Nat → Prop) : Prop := wp_X5_isFull I J T (fun v1 I1 J1 T1 => ((v1 = 0 → wp_X5_add (ix_u2 I1 0 0 ((0 : Int32))) J1 T1 (fun v4 I4 J4 T4 => P (v4) I4 J4 T4)) ∧ (¬ (v1 = 0) → wp_X11_refuse ((4 : Int32)) I1 J1 T1 (fun v5 I5 J5 T5 => P (v5) I5 J5 T5))))
set_option maxRecDepth 20000 in
theorem tp_X11_land {d : Nat} {I : Nat → Nat → Int32} {J : Nat → Nat → Int64} {T : Option Nat} {P : Int32 → (Nat → Nat → Int32) → (Nat → Nat → Int64) → Option Nat → Prop} {Q : ix_Q} (h : wp_X11_land I J T P) (hQ : ∀ v I J T, P v I J T → Q (some (.inl v)) (ix_mem 276 I J T)) : ix_C (d + 2) 169 [.inr (.inr (.inl (some (0))))] (ix_mem 276 I J T) Q := by
  unfold wp_X11_land at h
  refine ix_enter (ls := [some (.inr (.inr (.inl (some (0)))))]) rfl rfl rfl (Nat.le_of_ble_eq_true rfl) ?_
  refine ix_go 2 (x' := (4, [some (.inr (.inr (.inl (some (0)))))], [.inr (.inr (.inl (some (8))))], 0, 0, ix_mem 276 I J T)) rfl ⟨rfl, rfl⟩ ?_
  refine ix_sp rfl ⟨rfl, ⟨ix_lt rfl, ix_eq rfl, ix_lt rfl⟩, ix_le rfl, Nat.le_refl _, Nat.le_refl _, tp_X5_isFull h (fun v1 I1 J1 T1 h1 => ?_)⟩
  change ix_W _ _ _ (7, [some (.inr (.inr (.inl (some (0)))))], [.inl (v1)], 0, 0, ix_mem 276 I1 J1 T1)
  refine ix_go 1 (x' := (if v1 = 0 then 16 else 10, [some (.inr (.inr (.inl (some (0)))))], [], 0, 0, ix_mem 276 I1 J1 T1)) rfl trivial ?_
  refine ix_br (fun c2 => ?_) (fun c2 => ?_)
  · have h3 := h1.1 c2
    refine ix_go 5 (x' := (25, [some (.inr (.inr (.inl (some (0)))))], [.inr (.inr (.inl (some (8))))], 0, 0, ix_mem 276 (ix_u2 I1 0 0 ((0 : Int32))) J1 T1)) rfl ⟨rfl, rfl, rfl, rfl⟩ ?_
    refine ix_sp rfl ⟨rfl, ⟨ix_lt rfl, ix_eq rfl, ix_lt rfl⟩, ix_le rfl, Nat.le_refl _, Nat.le_refl _, tp_X5_add h3 (fun v4 I4 J4 T4 h4 => ?_)⟩
    change ix_W _ _ _ (28, [some (.inr (.inr (.inl (some (0)))))], [.inl (v4)], 0, 0, ix_mem 276 I4 J4 T4)
    exact ix_sp rfl ⟨Nat.le_refl _, Nat.le_refl _, trivial, hQ _ _ _ _ h4⟩
  · have h3 := h1.2 c2
    refine ix_go 2 (x' := (12, [some (.inr (.inr (.inl (some (0)))))], [.inl ((4 : Int32)), .inr (.inr (.inl (some (0))))], 0, 0, ix_mem 276 I1 J1 T1)) rfl trivial ?_
    refine ix_sp rfl ⟨rfl, ⟨ix_lt rfl, ix_eq rfl, ix_lt rfl⟩, ix_le rfl, Nat.le_refl _, Nat.le_refl _, tp_X11_refuse h3 (fun v5 I5 J5 T5 h5 => ?_)⟩
    change ix_W _ _ _ (15, [some (.inr (.inr (.inl (some (0)))))], [.inl (v5)], 0, 0, ix_mem 276 I5 J5 T5)
    exact ix_sp rfl ⟨Nat.le_refl _, Nat.le_refl _, trivial, hQ _ _ _ _ h5⟩
def wp_X11_isLand (a0 : Int32) (I : Nat → Nat → Int32) (J : Nat → Nat → Int64) (T : Option Nat) (P : Int32 → (Nat → Nat → Int32) → (Nat → Nat → Int64) → Option Nat → Prop) : Prop := wp_X5_count I J T (fun v1 I1 J1 T1 => wp_X11_outside ((a0).toInt64) ((0 : Int64)) (((v1) - ((1 : Int32))).toInt64) I1 J1 T1 (fun v2 I2 J2 T2 => ((v2 = 0 → P ((1 : Int32)) I2 J2 T2) ∧ (¬ (v2 = 0) → P ((0 : Int32)) I2 J2 T2))))
set_option maxRecDepth 20000 in
theorem tp_X11_isLand {d : Nat} {a0 : Int32} {I : Nat → Nat → Int32} {J : Nat → Nat → Int64} {T : Option Nat} {P : Int32 → (Nat → Nat → Int32) → (Nat → Nat → Int64) → Option Nat → Prop} {Q : ix_Q} (h : wp_X11_isLand a0 I J T P) (hQ : ∀ v I J T, P v I J T → Q (some (.inl v)) (ix_mem 276 I J T)) : ix_C (d + 2) 170 [.inr (.inr (.inl (some (0)))), .inl (a0)] (ix_mem 276 I J T) Q := by
  unfold wp_X11_isLand at h
  refine ix_enter (ls := [some (.inr (.inr (.inl (some (0))))), some (.inl (a0))]) rfl rfl rfl (Nat.le_of_ble_eq_true rfl) ?_
  refine ix_go 5 (x' := (7, [some (.inr (.inr (.inl (some (0))))), some (.inl (a0))], [.inr (.inr (.inl (some (8)))), .inr (.inl ((0 : Int64))), .inr (.inl ((a0).toInt64))], 0, 0, ix_mem 276 I J T)) rfl ⟨rfl, rfl⟩ ?_
  refine ix_sp rfl ⟨rfl, ⟨ix_lt rfl, ix_eq rfl, ix_lt rfl⟩, ix_le rfl, Nat.le_refl _, Nat.le_refl _, tp_X5_count h (fun v1 I1 J1 T1 h1 => ?_)⟩
  change ix_W _ _ _ (10, [some (.inr (.inr (.inl (some (0))))), some (.inl (a0))], [.inl (v1), .inr (.inl ((0 : Int64))), .inr (.inl ((a0).toInt64))], 0, 0, ix_mem 276 I1 J1 T1)
  refine ix_go 3 (x' := (13, [some (.inr (.inr (.inl (some (0))))), some (.inl (a0))], [.inr (.inl (((v1) - ((1 : Int32))).toInt64)), .inr (.inl ((0 : Int64))), .inr (.inl ((a0).toInt64))], 0, 0, ix_mem 276 I1 J1 T1)) rfl trivial ?_
  refine ix_sp rfl ⟨rfl, trivial, ix_le rfl, Nat.le_refl _, Nat.le_refl _, tp_X11_outside h1 (fun v2 I2 J2 T2 h2 => ?_)⟩
  change ix_W _ _ _ (16, [some (.inr (.inr (.inl (some (0))))), some (.inl (a0))], [.inl (v2)], 0, 0, ix_mem 276 I2 J2 T2)
  refine ix_go 1 (x' := (if v2 = 0 then 19 else 23, [some (.inr (.inr (.inl (some (0))))), some (.inl (a0))], [], 0, 0, ix_mem 276 I2 J2 T2)) rfl trivial ?_
  refine ix_br (fun c3 => ?_) (fun c3 => ?_)
  · have h4 := h2.1 c3
    refine ix_go 2 (x' := (24, [some (.inr (.inr (.inl (some (0))))), some (.inl (a0))], [.inl ((1 : Int32))], 0, 0, ix_mem 276 I2 J2 T2)) rfl trivial ?_
    exact ix_sp rfl ⟨Nat.le_refl _, Nat.le_refl _, ix_01_ok rfl, hQ _ _ _ _ h4⟩
  · have h4 := h2.2 c3
    refine ix_go 1 (x' := (24, [some (.inr (.inr (.inl (some (0))))), some (.inl (a0))], [.inl ((0 : Int32))], 0, 0, ix_mem 276 I2 J2 T2)) rfl trivial ?_
    exact ix_sp rfl ⟨Nat.le_refl _, Nat.le_refl _, ix_01_ok rfl, hQ _ _ _ _ h4⟩
def wp_X11_isDay (a0 : Int32) (I : Nat → Nat → Int32) (J : Nat → Nat → Int64) (T : Option Nat) (P : Int32 → (Nat → Nat → Int32) → (Nat → Nat → Int64) → Option Nat → Prop) : Prop := wp_X11_outside ((a0).toInt64) ((0 : Int64)) ((9999 : Int64)) I J T (fun v1 I1 J1 T1 => ((v1 = 0 → P ((1 : Int32)) I1 J1 T1) ∧ (¬ (v1 = 0) → P ((0 : Int32)) I1 J1 T1)))
set_option maxRecDepth 20000 in
theorem tp_X11_isDay {d : Nat} {a0 : Int32} {I : Nat → Nat → Int32} {J : Nat → Nat → Int64} {T : Option Nat} {P : Int32 → (Nat → Nat → Int32) → (Nat → Nat → Int64) → Option Nat → Prop} {Q : ix_Q} (h : wp_X11_isDay a0 I J T P) (hQ : ∀ v I J T, P v I J T → Q (some (.inl v)) (ix_mem 276 I J T)) : ix_C (d + 2) 171 [.inl (a0)] (ix_mem 276 I J T) Q := by
  unfold wp_X11_isDay at h
  refine ix_enter (ls := [some (.inl (a0))]) rfl rfl rfl (Nat.le_of_ble_eq_true rfl) ?_
  refine ix_go 4 (x' := (6, [some (.inl (a0))], [.inr (.inl ((9999 : Int64))), .inr (.inl ((0 : Int64))), .inr (.inl ((a0).toInt64))], 0, 0, ix_mem 276 I J T)) rfl trivial ?_
  refine ix_sp rfl ⟨rfl, trivial, ix_le rfl, Nat.le_refl _, Nat.le_refl _, tp_X11_outside h (fun v1 I1 J1 T1 h1 => ?_)⟩
  change ix_W _ _ _ (9, [some (.inl (a0))], [.inl (v1)], 0, 0, ix_mem 276 I1 J1 T1)
  refine ix_go 1 (x' := (if v1 = 0 then 12 else 16, [some (.inl (a0))], [], 0, 0, ix_mem 276 I1 J1 T1)) rfl trivial ?_
  refine ix_br (fun c2 => ?_) (fun c2 => ?_)
  · have h3 := h1.1 c2
    refine ix_go 2 (x' := (17, [some (.inl (a0))], [.inl ((1 : Int32))], 0, 0, ix_mem 276 I1 J1 T1)) rfl trivial ?_
    exact ix_sp rfl ⟨Nat.le_refl _, Nat.le_refl _, ix_01_ok rfl, hQ _ _ _ _ h3⟩
  · have h3 := h1.2 c2
    refine ix_go 1 (x' := (17, [some (.inl (a0))], [.inl ((0 : Int32))], 0, 0, ix_mem 276 I1 J1 T1)) rfl trivial ?_
    exact ix_sp rfl ⟨Nat.le_refl _, Nat.le_refl _, ix_01_ok rfl, hQ _ _ _ _ h3⟩
def wp_X11_gold (a0 : Int32) (a1 : Int32) (a2 : Int32) (I : Nat → Nat → Int32) (J : Nat → Nat → Int64) (T : Option Nat) (P : Int32 → (Nat → Nat → Int32) → (Nat → Nat → Int64) → Option Nat → Prop) : Prop := wp_X11_isLand (a0) I J T (fun v1 I1 J1 T1 => ((v1 = 0 → wp_X11_refused ((1 : Int32)) I1 J1 T1 (fun v4 I4 J4 T4 => ix_01 (v4) = true ∧ P (v4) I4 J4 T4)) ∧ (¬ (v1 = 0) → wp_X11_isDay (a1) I1 J1 T1 (fun v5 I5 J5 T5 => ((v5 = 0 → wp_X11_refused ((1 : Int32)) I5 J5 T5 (fun v8 I8 J8 T8 => ix_01 (v8) = true ∧ P (v8) I8 J8 T8)) ∧ (¬ (v5 = 0) → wp_X11_outside ((a2).toInt64) ((1 : Int64)) ((1000000 : Int64)) I5 J5 T5 (fun v9 I9 J9 T9 => ((v9 = 0 → wp_X5_isGoldFull I9 J9 T9 (fun v12 I12 J12 T12 => ((v12 = 0 → wp_X5_addGold (a0) (a1) (a2) I12 J12 T12 (fun I15 J15 T15 => wp_X11_accepted I15 J15 T15 (fun v16 I16 J16 T16 => ix_01 (v16) = true ∧ P (v16) I16 J16 T16))) ∧ (¬ (v12 = 0) → wp_X11_refused ((4 : Int32)) I12 J12 T12 (fun v17 I17 J17 T17 => ix_01 (v17) = true ∧ P (v17) I17 J17 T17))))) ∧ (¬ (v9 = 0) → wp_X11_refused ((1 : Int32)) I9 J9 T9 (fun v18 I18 J18 T18 => ix_01 (v18) = true ∧ P (v18) I18 J18 T18))))))))))
set_option maxRecDepth 20000 in
theorem tp_X11_gold {d : Nat} {a0 : Int32} {a1 : Int32} {a2 : Int32} {I : Nat → Nat → Int32} {J : Nat → Nat → Int64} {T : Option Nat} {P : Int32 → (Nat → Nat → Int32) → (Nat → Nat → Int64) → Option Nat → Prop} {Q : ix_Q} (h : wp_X11_gold a0 a1 a2 I J T P) (hQ : ∀ v I J T, P v I J T → Q (some (.inl v)) (ix_mem 276 I J T)) : ix_C (d + 3) 172 [.inr (.inr (.inl (some (0)))), .inl (a0), .inl (a1), .inl (a2)] (ix_mem 276 I J T) Q := by
  unfold wp_X11_gold at h
  refine ix_enter (ls := [some (.inr (.inr (.inl (some (0))))), some (.inl (a0)), some (.inl (a1)), some (.inl (a2))]) rfl rfl rfl (Nat.le_of_ble_eq_true rfl) ?_
  refine ix_go 2 (x' := (2, [some (.inr (.inr (.inl (some (0))))), some (.inl (a0)), some (.inl (a1)), some (.inl (a2))], [.inl (a0), .inr (.inr (.inl (some (0))))], 0, 0, ix_mem 276 I J T)) rfl trivial ?_
  refine ix_sp rfl ⟨rfl, ⟨ix_lt rfl, ix_eq rfl, ix_lt rfl⟩, ix_le rfl, Nat.le_refl _, Nat.le_refl _, tp_X11_isLand h (fun v1 I1 J1 T1 h1 => ?_)⟩
  change ix_W _ _ _ (5, [some (.inr (.inr (.inl (some (0))))), some (.inl (a0)), some (.inl (a1)), some (.inl (a2))], [.inl (v1)], 0, 0, ix_mem 276 I1 J1 T1)
  refine ix_go 1 (x' := (if v1 = 0 then 27 else 8, [some (.inr (.inr (.inl (some (0))))), some (.inl (a0)), some (.inl (a1)), some (.inl (a2))], [], 0, 0, ix_mem 276 I1 J1 T1)) rfl trivial ?_
  refine ix_br (fun c2 => ?_) (fun c2 => ?_)
  · have h3 := h1.1 c2
    refine ix_go 2 (x' := (29, [some (.inr (.inr (.inl (some (0))))), some (.inl (a0)), some (.inl (a1)), some (.inl (a2))], [.inl ((1 : Int32)), .inr (.inr (.inl (some (0))))], 0, 0, ix_mem 276 I1 J1 T1)) rfl trivial ?_
    refine ix_sp rfl ⟨rfl, ⟨ix_lt rfl, ix_eq rfl, ix_lt rfl⟩, ix_le rfl, Nat.le_refl _, Nat.le_refl _, tp_X11_refused h3 (fun v4 I4 J4 T4 h4 => ?_)⟩
    change ix_W _ _ _ (32, [some (.inr (.inr (.inl (some (0))))), some (.inl (a0)), some (.inl (a1)), some (.inl (a2))], [.inl (v4)], 0, 0, ix_mem 276 I4 J4 T4)
    exact ix_sp rfl ⟨Nat.le_refl _, Nat.le_refl _, ix_01_ok h4.1, hQ _ _ _ _ h4.2⟩
  · have h3 := h1.2 c2
    refine ix_go 1 (x' := (9, [some (.inr (.inr (.inl (some (0))))), some (.inl (a0)), some (.inl (a1)), some (.inl (a2))], [.inl (a1)], 0, 0, ix_mem 276 I1 J1 T1)) rfl trivial ?_
    refine ix_sp rfl ⟨rfl, trivial, ix_le rfl, Nat.le_refl _, Nat.le_refl _, tp_X11_isDay h3 (fun v5 I5 J5 T5 h5 => ?_)⟩
    change ix_W _ _ _ (12, [some (.inr (.inr (.inl (some (0))))), some (.inl (a0)), some (.inl (a1)), some (.inl (a2))], [.inl (v5)], 0, 0, ix_mem 276 I5 J5 T5)
    refine ix_go 1 (x' := (if v5 = 0 then 27 else 15, [some (.inr (.inr (.inl (some (0))))), some (.inl (a0)), some (.inl (a1)), some (.inl (a2))], [], 0, 0, ix_mem 276 I5 J5 T5)) rfl trivial ?_
    refine ix_br (fun c6 => ?_) (fun c6 => ?_)
    · have h7 := h5.1 c6
      refine ix_go 2 (x' := (29, [some (.inr (.inr (.inl (some (0))))), some (.inl (a0)), some (.inl (a1)), some (.inl (a2))], [.inl ((1 : Int32)), .inr (.inr (.inl (some (0))))], 0, 0, ix_mem 276 I5 J5 T5)) rfl trivial ?_
      refine ix_sp rfl ⟨rfl, ⟨ix_lt rfl, ix_eq rfl, ix_lt rfl⟩, ix_le rfl, Nat.le_refl _, Nat.le_refl _, tp_X11_refused h7 (fun v8 I8 J8 T8 h8 => ?_)⟩
      change ix_W _ _ _ (32, [some (.inr (.inr (.inl (some (0))))), some (.inl (a0)), some (.inl (a1)), some (.inl (a2))], [.inl (v8)], 0, 0, ix_mem 276 I8 J8 T8)
      exact ix_sp rfl ⟨Nat.le_refl _, Nat.le_refl _, ix_01_ok h8.1, hQ _ _ _ _ h8.2⟩
    · have h7 := h5.2 c6
      refine ix_go 4 (x' := (21, [some (.inr (.inr (.inl (some (0))))), some (.inl (a0)), some (.inl (a1)), some (.inl (a2))], [.inr (.inl ((1000000 : Int64))), .inr (.inl ((1 : Int64))), .inr (.inl ((a2).toInt64))], 0, 0, ix_mem 276 I5 J5 T5)) rfl trivial ?_
      refine ix_sp rfl ⟨rfl, trivial, ix_le rfl, Nat.le_refl _, Nat.le_refl _, tp_X11_outside h7 (fun v9 I9 J9 T9 h9 => ?_)⟩
      change ix_W _ _ _ (24, [some (.inr (.inr (.inl (some (0))))), some (.inl (a0)), some (.inl (a1)), some (.inl (a2))], [.inl (v9)], 0, 0, ix_mem 276 I9 J9 T9)
      refine ix_go 1 (x' := (if v9 = 0 then 33 else 27, [some (.inr (.inr (.inl (some (0))))), some (.inl (a0)), some (.inl (a1)), some (.inl (a2))], [], 0, 0, ix_mem 276 I9 J9 T9)) rfl trivial ?_
      refine ix_br (fun c10 => ?_) (fun c10 => ?_)
      · have h11 := h9.1 c10
        refine ix_go 2 (x' := (37, [some (.inr (.inr (.inl (some (0))))), some (.inl (a0)), some (.inl (a1)), some (.inl (a2))], [.inr (.inr (.inl (some (8))))], 0, 0, ix_mem 276 I9 J9 T9)) rfl ⟨rfl, rfl⟩ ?_
        refine ix_sp rfl ⟨rfl, ⟨ix_lt rfl, ix_eq rfl, ix_lt rfl⟩, ix_le rfl, Nat.le_refl _, Nat.le_refl _, tp_X5_isGoldFull h11 (fun v12 I12 J12 T12 h12 => ?_)⟩
        change ix_W _ _ _ (40, [some (.inr (.inr (.inl (some (0))))), some (.inl (a0)), some (.inl (a1)), some (.inl (a2))], [.inl (v12)], 0, 0, ix_mem 276 I12 J12 T12)
        refine ix_go 1 (x' := (if v12 = 0 then 49 else 43, [some (.inr (.inr (.inl (some (0))))), some (.inl (a0)), some (.inl (a1)), some (.inl (a2))], [], 0, 0, ix_mem 276 I12 J12 T12)) rfl trivial ?_
        refine ix_br (fun c13 => ?_) (fun c13 => ?_)
        · have h14 := h12.1 c13
          refine ix_go 5 (x' := (56, [some (.inr (.inr (.inl (some (0))))), some (.inl (a0)), some (.inl (a1)), some (.inl (a2))], [.inl (a2), .inl (a1), .inl (a0), .inr (.inr (.inl (some (8))))], 0, 0, ix_mem 276 I12 J12 T12)) rfl ⟨rfl, rfl⟩ ?_
          refine ix_sp rfl ⟨rfl, ⟨ix_lt rfl, ix_eq rfl, ix_lt rfl⟩, ix_le rfl, Nat.le_refl _, Nat.le_refl _, tp_X5_addGold h14 (fun I15 J15 T15 h15 => ?_)⟩
          change ix_W _ _ _ (59, [some (.inr (.inr (.inl (some (0))))), some (.inl (a0)), some (.inl (a1)), some (.inl (a2))], [], 0, 0, ix_mem 276 I15 J15 T15)
          refine ix_go 1 (x' := (60, [some (.inr (.inr (.inl (some (0))))), some (.inl (a0)), some (.inl (a1)), some (.inl (a2))], [.inr (.inr (.inl (some (0))))], 0, 0, ix_mem 276 I15 J15 T15)) rfl trivial ?_
          refine ix_sp rfl ⟨rfl, ⟨ix_lt rfl, ix_eq rfl, ix_lt rfl⟩, ix_le rfl, Nat.le_refl _, Nat.le_refl _, tp_X11_accepted h15 (fun v16 I16 J16 T16 h16 => ?_)⟩
          change ix_W _ _ _ (63, [some (.inr (.inr (.inl (some (0))))), some (.inl (a0)), some (.inl (a1)), some (.inl (a2))], [.inl (v16)], 0, 0, ix_mem 276 I16 J16 T16)
          exact ix_sp rfl ⟨Nat.le_refl _, Nat.le_refl _, ix_01_ok h16.1, hQ _ _ _ _ h16.2⟩
        · have h14 := h12.2 c13
          refine ix_go 2 (x' := (45, [some (.inr (.inr (.inl (some (0))))), some (.inl (a0)), some (.inl (a1)), some (.inl (a2))], [.inl ((4 : Int32)), .inr (.inr (.inl (some (0))))], 0, 0, ix_mem 276 I12 J12 T12)) rfl trivial ?_
          refine ix_sp rfl ⟨rfl, ⟨ix_lt rfl, ix_eq rfl, ix_lt rfl⟩, ix_le rfl, Nat.le_refl _, Nat.le_refl _, tp_X11_refused h14 (fun v17 I17 J17 T17 h17 => ?_)⟩
          change ix_W _ _ _ (48, [some (.inr (.inr (.inl (some (0))))), some (.inl (a0)), some (.inl (a1)), some (.inl (a2))], [.inl (v17)], 0, 0, ix_mem 276 I17 J17 T17)
          exact ix_sp rfl ⟨Nat.le_refl _, Nat.le_refl _, ix_01_ok h17.1, hQ _ _ _ _ h17.2⟩
      · have h11 := h9.2 c10
        refine ix_go 2 (x' := (29, [some (.inr (.inr (.inl (some (0))))), some (.inl (a0)), some (.inl (a1)), some (.inl (a2))], [.inl ((1 : Int32)), .inr (.inr (.inl (some (0))))], 0, 0, ix_mem 276 I9 J9 T9)) rfl trivial ?_
        refine ix_sp rfl ⟨rfl, ⟨ix_lt rfl, ix_eq rfl, ix_lt rfl⟩, ix_le rfl, Nat.le_refl _, Nat.le_refl _, tp_X11_refused h11 (fun v18 I18 J18 T18 h18 => ?_)⟩
        change ix_W _ _ _ (32, [some (.inr (.inr (.inl (some (0))))), some (.inl (a0)), some (.inl (a1)), some (.inl (a2))], [.inl (v18)], 0, 0, ix_mem 276 I18 J18 T18)
        exact ix_sp rfl ⟨Nat.le_refl _, Nat.le_refl _, ix_01_ok h18.1, hQ _ _ _ _ h18.2⟩
def wp_X11_coins (a0 : Int32) (a1 : Int32) (a2 : Int64) (I : Nat → Nat → Int32) (J : Nat → Nat → Int64) (T : Option Nat) (P : Int64 → (Nat → Nat → Int32) → (Nat → Nat → Int64) → Option Nat → Prop) : Prop := wp_X11_isLand (a0) I J T (fun v1 I1 J1 T1 => ((v1 = 0 → wp_X11_refuse ((1 : Int32)) I1 J1 T1 (fun v4 I4 J4 T4 => P ((v4).toInt64) I4 J4 T4)) ∧ (¬ (v1 = 0) → wp_X11_isDay (a1) I1 J1 T1 (fun v5 I5 J5 T5 => ((v5 = 0 → wp_X11_refuse ((1 : Int32)) I5 J5 T5 (fun v8 I8 J8 T8 => P ((v8).toInt64) I8 J8 T8)) ∧ (¬ (v5 = 0) → wp_X11_outside (a2) ((0 : Int64)) ((1000000000000 : Int64)) I5 J5 T5 (fun v9 I9 J9 T9 => ((v9 = 0 → wp_X5_goldOn (a0) (a1) (ix_u2 I9 0 0 ((0 : Int32))) J9 T9 (fun v12 I12 J12 T12 => P (((a2) * ((v12).toInt64)) / ((1000 : Int64))) I12 J12 T12)) ∧ (¬ (v9 = 0) → wp_X11_refuse ((1 : Int32)) I9 J9 T9 (fun v13 I13 J13 T13 => P ((v13).toInt64) I13 J13 T13))))))))))
set_option maxRecDepth 20000 in
theorem tp_X11_coins {d : Nat} {a0 : Int32} {a1 : Int32} {a2 : Int64} {I : Nat → Nat → Int32} {J : Nat → Nat → Int64} {T : Option Nat} {P : Int64 → (Nat → Nat → Int32) → (Nat → Nat → Int64) → Option Nat → Prop} {Q : ix_Q} (h : wp_X11_coins a0 a1 a2 I J T P) (hQ : ∀ v I J T, P v I J T → Q (some (.inr (.inl v))) (ix_mem 276 I J T)) : ix_C (d + 3) 173 [.inr (.inr (.inl (some (0)))), .inl (a0), .inl (a1), .inr (.inl (a2))] (ix_mem 276 I J T) Q := by
  unfold wp_X11_coins at h
  refine ix_enter (ls := [some (.inr (.inr (.inl (some (0))))), some (.inl (a0)), some (.inl (a1)), some (.inr (.inl (a2))), none]) rfl rfl rfl (Nat.le_of_ble_eq_true rfl) ?_
  refine ix_go 2 (x' := (2, [some (.inr (.inr (.inl (some (0))))), some (.inl (a0)), some (.inl (a1)), some (.inr (.inl (a2))), none], [.inl (a0), .inr (.inr (.inl (some (0))))], 0, 0, ix_mem 276 I J T)) rfl trivial ?_
  refine ix_sp rfl ⟨rfl, ⟨ix_lt rfl, ix_eq rfl, ix_lt rfl⟩, ix_le rfl, Nat.le_refl _, Nat.le_refl _, tp_X11_isLand h (fun v1 I1 J1 T1 h1 => ?_)⟩
  change ix_W _ _ _ (5, [some (.inr (.inr (.inl (some (0))))), some (.inl (a0)), some (.inl (a1)), some (.inr (.inl (a2))), none], [.inl (v1)], 0, 0, ix_mem 276 I1 J1 T1)
  refine ix_go 1 (x' := (if v1 = 0 then 26 else 8, [some (.inr (.inr (.inl (some (0))))), some (.inl (a0)), some (.inl (a1)), some (.inr (.inl (a2))), none], [], 0, 0, ix_mem 276 I1 J1 T1)) rfl trivial ?_
  refine ix_br (fun c2 => ?_) (fun c2 => ?_)
  · have h3 := h1.1 c2
    refine ix_go 2 (x' := (28, [some (.inr (.inr (.inl (some (0))))), some (.inl (a0)), some (.inl (a1)), some (.inr (.inl (a2))), none], [.inl ((1 : Int32)), .inr (.inr (.inl (some (0))))], 0, 0, ix_mem 276 I1 J1 T1)) rfl trivial ?_
    refine ix_sp rfl ⟨rfl, ⟨ix_lt rfl, ix_eq rfl, ix_lt rfl⟩, ix_le rfl, Nat.le_refl _, Nat.le_refl _, tp_X11_refuse h3 (fun v4 I4 J4 T4 h4 => ?_)⟩
    change ix_W _ _ _ (31, [some (.inr (.inr (.inl (some (0))))), some (.inl (a0)), some (.inl (a1)), some (.inr (.inl (a2))), none], [.inl (v4)], 0, 0, ix_mem 276 I4 J4 T4)
    refine ix_go 1 (x' := (32, [some (.inr (.inr (.inl (some (0))))), some (.inl (a0)), some (.inl (a1)), some (.inr (.inl (a2))), none], [.inr (.inl ((v4).toInt64))], 0, 0, ix_mem 276 I4 J4 T4)) rfl trivial ?_
    exact ix_sp rfl ⟨Nat.le_refl _, Nat.le_refl _, rfl, hQ _ _ _ _ h4⟩
  · have h3 := h1.2 c2
    refine ix_go 1 (x' := (9, [some (.inr (.inr (.inl (some (0))))), some (.inl (a0)), some (.inl (a1)), some (.inr (.inl (a2))), none], [.inl (a1)], 0, 0, ix_mem 276 I1 J1 T1)) rfl trivial ?_
    refine ix_sp rfl ⟨rfl, trivial, ix_le rfl, Nat.le_refl _, Nat.le_refl _, tp_X11_isDay h3 (fun v5 I5 J5 T5 h5 => ?_)⟩
    change ix_W _ _ _ (12, [some (.inr (.inr (.inl (some (0))))), some (.inl (a0)), some (.inl (a1)), some (.inr (.inl (a2))), none], [.inl (v5)], 0, 0, ix_mem 276 I5 J5 T5)
    refine ix_go 1 (x' := (if v5 = 0 then 26 else 15, [some (.inr (.inr (.inl (some (0))))), some (.inl (a0)), some (.inl (a1)), some (.inr (.inl (a2))), none], [], 0, 0, ix_mem 276 I5 J5 T5)) rfl trivial ?_
    refine ix_br (fun c6 => ?_) (fun c6 => ?_)
    · have h7 := h5.1 c6
      refine ix_go 2 (x' := (28, [some (.inr (.inr (.inl (some (0))))), some (.inl (a0)), some (.inl (a1)), some (.inr (.inl (a2))), none], [.inl ((1 : Int32)), .inr (.inr (.inl (some (0))))], 0, 0, ix_mem 276 I5 J5 T5)) rfl trivial ?_
      refine ix_sp rfl ⟨rfl, ⟨ix_lt rfl, ix_eq rfl, ix_lt rfl⟩, ix_le rfl, Nat.le_refl _, Nat.le_refl _, tp_X11_refuse h7 (fun v8 I8 J8 T8 h8 => ?_)⟩
      change ix_W _ _ _ (31, [some (.inr (.inr (.inl (some (0))))), some (.inl (a0)), some (.inl (a1)), some (.inr (.inl (a2))), none], [.inl (v8)], 0, 0, ix_mem 276 I8 J8 T8)
      refine ix_go 1 (x' := (32, [some (.inr (.inr (.inl (some (0))))), some (.inl (a0)), some (.inl (a1)), some (.inr (.inl (a2))), none], [.inr (.inl ((v8).toInt64))], 0, 0, ix_mem 276 I8 J8 T8)) rfl trivial ?_
      exact ix_sp rfl ⟨Nat.le_refl _, Nat.le_refl _, rfl, hQ _ _ _ _ h8⟩
    · have h7 := h5.2 c6
      refine ix_go 3 (x' := (20, [some (.inr (.inr (.inl (some (0))))), some (.inl (a0)), some (.inl (a1)), some (.inr (.inl (a2))), none], [.inr (.inl ((1000000000000 : Int64))), .inr (.inl ((0 : Int64))), .inr (.inl (a2))], 0, 0, ix_mem 276 I5 J5 T5)) rfl trivial ?_
      refine ix_sp rfl ⟨rfl, trivial, ix_le rfl, Nat.le_refl _, Nat.le_refl _, tp_X11_outside h7 (fun v9 I9 J9 T9 h9 => ?_)⟩
      change ix_W _ _ _ (23, [some (.inr (.inr (.inl (some (0))))), some (.inl (a0)), some (.inl (a1)), some (.inr (.inl (a2))), none], [.inl (v9)], 0, 0, ix_mem 276 I9 J9 T9)
      refine ix_go 1 (x' := (if v9 = 0 then 33 else 26, [some (.inr (.inr (.inl (some (0))))), some (.inl (a0)), some (.inl (a1)), some (.inr (.inl (a2))), none], [], 0, 0, ix_mem 276 I9 J9 T9)) rfl trivial ?_
      refine ix_br (fun c10 => ?_) (fun c10 => ?_)
      · have h11 := h9.1 c10
        refine ix_go 8 (x' := (45, [some (.inr (.inr (.inl (some (0))))), some (.inl (a0)), some (.inl (a1)), some (.inr (.inl (a2))), none], [.inl (a1), .inl (a0), .inr (.inr (.inl (some (8)))), .inr (.inl (a2))], 0, 0, ix_mem 276 (ix_u2 I9 0 0 ((0 : Int32))) J9 T9)) rfl ⟨rfl, rfl, rfl, rfl⟩ ?_
        refine ix_sp rfl ⟨rfl, ⟨ix_lt rfl, ix_eq rfl, ix_lt rfl⟩, ix_le rfl, Nat.le_refl _, Nat.le_refl _, tp_X5_goldOn h11 (fun v12 I12 J12 T12 h12 => ?_)⟩
        change ix_W _ _ _ (48, [some (.inr (.inr (.inl (some (0))))), some (.inl (a0)), some (.inl (a1)), some (.inr (.inl (a2))), none], [.inl (v12), .inr (.inl (a2))], 0, 0, ix_mem 276 I12 J12 T12)
        refine ix_go 4 (x' := (54, [some (.inr (.inr (.inl (some (0))))), some (.inl (a0)), some (.inl (a1)), some (.inr (.inl (a2))), none], [.inr (.inl (((a2) * ((v12).toInt64)) / ((1000 : Int64))))], 0, 0, ix_mem 276 I12 J12 T12)) rfl rfl ?_
        exact ix_sp rfl ⟨Nat.le_refl _, Nat.le_refl _, rfl, hQ _ _ _ _ h12⟩
      · have h11 := h9.2 c10
        refine ix_go 2 (x' := (28, [some (.inr (.inr (.inl (some (0))))), some (.inl (a0)), some (.inl (a1)), some (.inr (.inl (a2))), none], [.inl ((1 : Int32)), .inr (.inr (.inl (some (0))))], 0, 0, ix_mem 276 I9 J9 T9)) rfl trivial ?_
        refine ix_sp rfl ⟨rfl, ⟨ix_lt rfl, ix_eq rfl, ix_lt rfl⟩, ix_le rfl, Nat.le_refl _, Nat.le_refl _, tp_X11_refuse h11 (fun v13 I13 J13 T13 h13 => ?_)⟩
        change ix_W _ _ _ (31, [some (.inr (.inr (.inl (some (0))))), some (.inl (a0)), some (.inl (a1)), some (.inr (.inl (a2))), none], [.inl (v13)], 0, 0, ix_mem 276 I13 J13 T13)
        refine ix_go 1 (x' := (32, [some (.inr (.inr (.inl (some (0))))), some (.inl (a0)), some (.inl (a1)), some (.inr (.inl (a2))), none], [.inr (.inl ((v13).toInt64))], 0, 0, ix_mem 276 I13 J13 T13)) rfl trivial ?_
        exact ix_sp rfl ⟨Nat.le_refl _, Nat.le_refl _, rfl, hQ _ _ _ _ h13⟩
