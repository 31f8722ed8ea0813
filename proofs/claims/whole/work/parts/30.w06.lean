def wp_X9_clear_68 (I : Nat → Nat → Int32) (J : Nat → Nat → Int64) (T : Option Nat) (P : (Nat → Nat → Int32) → (Nat → Nat → Int64) → Option Nat → Prop) : Prop := P (ix_u2 (ix_u2 I 68 0 ((0 : Int32))) 68 1 ((0 : Int32))) J T
set_option maxRecDepth 20000 in
theorem tp_X9_clear_68 {d : Nat} {I : Nat → Nat → Int32} {J : Nat → Nat → Int64} {T : Option Nat} {P : (Nat → Nat → Int32) → (Nat → Nat → Int64) → Option Nat → Prop} {Q : ix_Q} (h : wp_X9_clear_68 I J T P) (hQ : ∀ I J T, P I J T → Q none (ix_mem 276 I J T)) : ix_C (d + 1) 99 [.inr (.inr (.inl (some (68))))] (ix_mem 276 I J T) Q := by
  unfold wp_X9_clear_68 at h
  refine ix_enter (ls := [some (.inr (.inr (.inl (some (68)))))]) rfl rfl rfl (Nat.le_of_ble_eq_true rfl) ?_
  refine ix_go 6 (x' := (10, [some (.inr (.inr (.inl (some (68)))))], [], 0, 0, ix_mem 276 (ix_u2 (ix_u2 I 68 0 ((0 : Int32))) 68 1 ((0 : Int32))) J T)) rfl ⟨rfl, rfl, rfl, rfl⟩ ?_
  exact ix_sp rfl ⟨Nat.le_refl _, Nat.le_refl _, rfl, hQ _ _ _ h⟩
def wp_X9_clear_77 (I : Nat → Nat → Int32) (J : Nat → Nat → Int64) (T : Option Nat) (P : (Nat → Nat → Int32) → (Nat → Nat → Int64) → Option Nat → Prop) : Prop := P (ix_u2 (ix_u2 I 77 0 ((0 : Int32))) 77 1 ((0 : Int32))) J T
set_option maxRecDepth 20000 in
theorem tp_X9_clear_77 {d : Nat} {I : Nat → Nat → Int32} {J : Nat → Nat → Int64} {T : Option Nat} {P : (Nat → Nat → Int32) → (Nat → Nat → Int64) → Option Nat → Prop} {Q : ix_Q} (h : wp_X9_clear_77 I J T P) (hQ : ∀ I J T, P I J T → Q none (ix_mem 276 I J T)) : ix_C (d + 1) 99 [.inr (.inr (.inl (some (77))))] (ix_mem 276 I J T) Q := by
  unfold wp_X9_clear_77 at h
  refine ix_enter (ls := [some (.inr (.inr (.inl (some (77)))))]) rfl rfl rfl (Nat.le_of_ble_eq_true rfl) ?_
  refine ix_go 6 (x' := (10, [some (.inr (.inr (.inl (some (77)))))], [], 0, 0, ix_mem 276 (ix_u2 (ix_u2 I 77 0 ((0 : Int32))) 77 1 ((0 : Int32))) J T)) rfl ⟨rfl, rfl, rfl, rfl⟩ ?_
  exact ix_sp rfl ⟨Nat.le_refl _, Nat.le_refl _, rfl, hQ _ _ _ h⟩
def wp_X9_clear_86 (I : Nat → Nat → Int32) (J : Nat → Nat → Int64) (T : Option Nat) (P : (Nat → Nat → Int32) → (Nat → Nat → Int64) → Option Nat → Prop) : Prop := P (ix_u2 (ix_u2 I 86 0 ((0 : Int32))) 86 1 ((0 : Int32))) J T
set_option maxRecDepth 20000 in
theorem tp_X9_clear_86 {d : Nat} {I : Nat → Nat → Int32} {J : Nat → Nat → Int64} {T : Option Nat} {P : (Nat → Nat → Int32) → (Nat → Nat → Int64) → Option Nat → Prop} {Q : ix_Q} (h : wp_X9_clear_86 I J T P) (hQ : ∀ I J T, P I J T → Q none (ix_mem 276 I J T)) : ix_C (d + 1) 99 [.inr (.inr (.inl (some (86))))] (ix_mem 276 I J T) Q := by
  unfold wp_X9_clear_86 at h
  refine ix_enter (ls := [some (.inr (.inr (.inl (some (86)))))]) rfl rfl rfl (Nat.le_of_ble_eq_true rfl) ?_
  refine ix_go 6 (x' := (10, [some (.inr (.inr (.inl (some (86)))))], [], 0, 0, ix_mem 276 (ix_u2 (ix_u2 I 86 0 ((0 : Int32))) 86 1 ((0 : Int32))) J T)) rfl ⟨rfl, rfl, rfl, rfl⟩ ?_
  exact ix_sp rfl ⟨Nat.le_refl _, Nat.le_refl _, rfl, hQ _ _ _ h⟩
def wp_X7_isLetter (a0 : Int32) (I : Nat → Nat → Int32) (J : Nat → Nat → Int64) (T : Option Nat) (P : Int32 → (Nat → Nat → Int32) → (Nat → Nat → Int64) → Option Nat → Prop) : Prop := ((a0 < (97 : Int32) → P ((0 : Int32)) I J T) ∧ (¬ (a0 < (97 : Int32)) → ((a0 ≤ (122 : Int32) → P ((1 : Int32)) I J T) ∧ (¬ (a0 ≤ (122 : Int32)) → P ((0 : Int32)) I J T))))
set_option maxRecDepth 20000 in
theorem tp_X7_isLetter {d : Nat} {a0 : Int32} {I : Nat → Nat → Int32} {J : Nat → Nat → Int64} {T : Option Nat} {P : Int32 → (Nat → Nat → Int32) → (Nat → Nat → Int64) → Option Nat → Prop} {Q : ix_Q} (h : wp_X7_isLetter a0 I J T P) (hQ : ∀ v I J T, P v I J T → Q (some (.inl v)) (ix_mem 276 I J T)) : ix_C (d + 1) 100 [.inl (a0)] (ix_mem 276 I J T) Q := by
  unfold wp_X7_isLetter at h
  refine ix_enter (ls := [some (.inl (a0))]) rfl rfl rfl (Nat.le_of_ble_eq_true rfl) ?_
  refine ix_go 3 (x' := (if a0 < (97 : Int32) then 16 else 6, [some (.inl (a0))], [], 0, 0, ix_mem 276 I J T)) rfl trivial ?_
  refine ix_br (fun c1 => ?_) (fun c1 => ?_)
  · have h2 := h.1 c1
    refine ix_go 1 (x' := (17, [some (.inl (a0))], [.inl ((0 : Int32))], 0, 0, ix_mem 276 I J T)) rfl trivial ?_
    exact ix_sp rfl ⟨Nat.le_refl _, Nat.le_refl _, ix_01_ok rfl, hQ _ _ _ _ h2⟩
  · have h2 := h.2 c1
    refine ix_go 3 (x' := (if a0 ≤ (122 : Int32) then 12 else 16, [some (.inl (a0))], [], 0, 0, ix_mem 276 I J T)) rfl trivial ?_
    refine ix_br (fun c3 => ?_) (fun c3 => ?_)
    · have h4 := h2.1 c3
      refine ix_go 2 (x' := (17, [some (.inl (a0))], [.inl ((1 : Int32))], 0, 0, ix_mem 276 I J T)) rfl trivial ?_
      exact ix_sp rfl ⟨Nat.le_refl _, Nat.le_refl _, ix_01_ok rfl, hQ _ _ _ _ h4⟩
    · have h4 := h2.2 c3
      refine ix_go 1 (x' := (17, [some (.inl (a0))], [.inl ((0 : Int32))], 0, 0, ix_mem 276 I J T)) rfl trivial ?_
      exact ix_sp rfl ⟨Nat.le_refl _, Nat.le_refl _, ix_01_ok rfl, hQ _ _ _ _ h4⟩
def wp_J_isLatin1_s1 (I : Nat → Nat → Int32) (J : Nat → Nat → Int64) (T : Option Nat) (P : Int32 → (Nat → Nat → Int32) → (Nat → Nat → Int64) → Option Nat → Prop) : Prop := P ((1 : Int32)) I J T
set_option maxRecDepth 20000 in
theorem tp_J_isLatin1_s1 {d : Nat} {I : Nat → Nat → Int32} {J : Nat → Nat → Int64} {T : Option Nat} {P : Int32 → (Nat → Nat → Int32) → (Nat → Nat → Int64) → Option Nat → Prop} {Q : ix_Q} (h : wp_J_isLatin1_s1 I J T P) (hQ : ∀ v I J T, P v I J T → Q (some (.inl v)) (ix_mem 276 I J T)) : ix_C (d + 1) 347 [.inr (.inr (.inr 1))] (ix_mem 276 I J T) Q := by
  unfold wp_J_isLatin1_s1 at h
  refine ix_enter (ls := [some (.inr (.inr (.inr 1)))]) rfl rfl rfl (Nat.le_of_ble_eq_true rfl) ?_
  refine ix_go 7 (x' := (18, [some (.inr (.inr (.inr 1)))], [.inl ((1 : Int32))], 0, 0, ix_mem 276 I J T)) rfl ⟨rfl, rfl⟩ ?_
  exact ix_sp rfl ⟨Nat.le_refl _, Nat.le_refl _, ix_01_ok rfl, hQ _ _ _ _ h⟩
def wp_J_lcharAt_rs5 (a1 : Int32) (I : Nat → Nat → Int32) (J : Nat → Nat → Int64) (T : Option Nat) (P : Int32 → (Nat → Nat → Int32) → (Nat → Nat → Int64) → Option Nat → Prop) : Prop := (¬ (a1) < 0 ∧ (a1) < ((108 : Int32))) ∧ ix_inb (a1) 108 = true ∧ (((((ix_sbyt.getD 0 []).getD (a1).toNatClampNeg 0) &&& ((255 : Int32))).toUInt32 % 65536).toInt32).toUInt32.toUInt16.toUInt32.toInt32 = ((((ix_sbyt.getD 0 []).getD (a1).toNatClampNeg 0) &&& ((255 : Int32))).toUInt32 % 65536).toInt32 ∧ P (((((ix_sbyt.getD 0 []).getD (a1).toNatClampNeg 0) &&& ((255 : Int32))).toUInt32 % 65536).toInt32) I J T
set_option maxRecDepth 20000 in
theorem tp_J_lcharAt_rs5 {d : Nat} {a1 : Int32} {I : Nat → Nat → Int32} {J : Nat → Nat → Int64} {T : Option Nat} {P : Int32 → (Nat → Nat → Int32) → (Nat → Nat → Int64) → Option Nat → Prop} {Q : ix_Q} (h : wp_J_lcharAt_rs5 a1 I J T P) (hQ : ∀ v I J T, P v I J T → Q (some (.inl v)) (ix_mem 276 I J T)) : ix_C (d + 1) 348 [.inr (.inr (.inr 5)), .inl (a1)] (ix_mem 276 I J T) Q := by
  unfold wp_J_lcharAt_rs5 at h
  refine ix_enter (ls := [some (.inr (.inr (.inr 5))), some (.inl (a1))]) rfl rfl rfl (Nat.le_of_ble_eq_true rfl) ?_
  refine ix_go 3 (x' := (3, [some (.inr (.inr (.inr 5))), some (.inl (a1))], [.inl ((108 : Int32)), .inl (a1)], 0, 0, ix_mem 276 I J T)) rfl ⟨rfl, rfl⟩ ?_
  obtain ⟨p1, h2⟩ := h
  refine ix_sp rfl ⟨ix_le rfl, ⟨Nat.zero_le _, Nat.zero_le _⟩, p1, ?_⟩
  change ix_W _ _ _ (6, [some (.inr (.inr (.inr 5))), some (.inl (a1))], [], 0, 0, ix_mem 276 I J T)
  obtain ⟨p3, h4⟩ := h2
  refine ix_go 6 (x' := (14, [some (.inr (.inr (.inr 5))), some (.inl (a1))], [.inl (((((ix_sbyt.getD 0 []).getD (a1).toNatClampNeg 0) &&& ((255 : Int32))).toUInt32 % 65536).toInt32)], 0, 0, ix_mem 276 I J T)) rfl ⟨rfl, rfl, p3⟩ ?_
  exact ix_sp rfl ⟨Nat.le_refl _, Nat.le_refl _, h4.1, hQ _ _ _ _ h4.2⟩
def wp_J_charAt_s1 (a0 : Int32) (I : Nat → Nat → Int32) (J : Nat → Nat → Int64) (T : Option Nat) (P : Int32 → (Nat → Nat → Int32) → (Nat → Nat → Int64) → Option Nat → Prop) : Prop := wp_J_isLatin1_s1 I J T (fun v1 I1 J1 T1 => ((v1 = 0 → False) ∧ (¬ (v1 = 0) → wp_J_lcharAt_rs5 (a0) I1 J1 T1 (fun v4 I4 J4 T4 => (v4).toUInt32.toUInt16.toUInt32.toInt32 = v4 ∧ P (v4) I4 J4 T4))))
set_option maxRecDepth 20000 in
theorem tp_J_charAt_s1 {d : Nat} {a0 : Int32} {I : Nat → Nat → Int32} {J : Nat → Nat → Int64} {T : Option Nat} {P : Int32 → (Nat → Nat → Int32) → (Nat → Nat → Int64) → Option Nat → Prop} {Q : ix_Q} (h : wp_J_charAt_s1 a0 I J T P) (hQ : ∀ v I J T, P v I J T → Q (some (.inl v)) (ix_mem 276 I J T)) : ix_C (d + 2) 346 [.inr (.inr (.inr 1)), .inl (a0)] (ix_mem 276 I J T) Q := by
  unfold wp_J_charAt_s1 at h
  refine ix_enter (ls := [some (.inr (.inr (.inr 1))), some (.inl (a0))]) rfl rfl rfl (Nat.le_of_ble_eq_true rfl) ?_
  refine ix_go 1 (x' := (1, [some (.inr (.inr (.inr 1))), some (.inl (a0))], [.inr (.inr (.inr 1))], 0, 0, ix_mem 276 I J T)) rfl trivial ?_
  refine ix_sp rfl ⟨rfl, ⟨ix_le rfl, ix_le rfl, rfl⟩, ix_le rfl, Nat.le_refl _, Nat.le_refl _, tp_J_isLatin1_s1 h (fun v1 I1 J1 T1 h1 => ?_)⟩
  change ix_W _ _ _ (4, [some (.inr (.inr (.inr 1))), some (.inl (a0))], [.inl (v1)], 0, 0, ix_mem 276 I1 J1 T1)
  refine ix_go 1 (x' := (if v1 = 0 then 16 else 7, [some (.inr (.inr (.inr 1))), some (.inl (a0))], [], 0, 0, ix_mem 276 I1 J1 T1)) rfl trivial ?_
  refine ix_br (fun c2 => ?_) (fun c2 => ?_)
  · have h3 := h1.1 c2
    refine ix_go 3 (x' := (21, [some (.inr (.inr (.inr 1))), some (.inl (a0))], [.inl (a0), .inr (.inr (.inr 5))], 0, 0, ix_mem 276 I1 J1 T1)) rfl ⟨rfl, rfl⟩ ?_
    exact h3.elim
  · have h3 := h1.2 c2
    refine ix_go 3 (x' := (12, [some (.inr (.inr (.inr 1))), some (.inl (a0))], [.inl (a0), .inr (.inr (.inr 5))], 0, 0, ix_mem 276 I1 J1 T1)) rfl ⟨rfl, rfl⟩ ?_
    refine ix_sp rfl ⟨rfl, trivial, ix_le rfl, Nat.le_refl _, Nat.le_refl _, tp_J_lcharAt_rs5 h3 (fun v4 I4 J4 T4 h4 => ?_)⟩
    change ix_W _ _ _ (15, [some (.inr (.inr (.inr 1))), some (.inl (a0))], [.inl (v4)], 0, 0, ix_mem 276 I4 J4 T4)
    exact ix_sp rfl ⟨Nat.le_refl _, Nat.le_refl _, h4.1, hQ _ _ _ _ h4.2⟩
def wb_X7_wordKind_27_16 (x1 : Int32) (x2 : Int32) (x3 : Int32) (x4 : Int32) (I : Nat → Nat → Int32) (J : Nat → Nat → Int64) (T : Option Nat) (V27 : Int32 → Int32 → Int32 → Int32 → (Nat → Nat → Int32) → (Nat → Nat → Int64) → Option Nat → Prop) (V16 : Int32 → Int32 → (Nat → Nat → Int32) → (Nat → Nat → Int64) → Option Nat → Prop) (P : Int32 → (Nat → Nat → Int32) → (Nat → Nat → Int64) → Option Nat → Prop) : Prop := ((x4 < (6 : Int32) → (((x1) + (x4) < I 44 3 → ix_inb ((x1) + (x4)) 600 = true ∧ wp_J_charAt_s1 (((x2) * ((6 : Int32))) + (x4)) I J T (fun v11 I11 J11 T11 => ((v11 = I 45 ((x1) + (x4)).toNatClampNeg → V27 (x1) (x2) ((x3) + ((1 : Int32))) (x4 + (1 : Int32)) I11 J11 T11) ∧ (¬ (v11 = I 45 ((x1) + (x4)).toNatClampNeg) → V27 (x1) (x2) ((x3) + ((0 : Int32))) (x4 + (1 : Int32)) I11 J11 T11)))) ∧ (¬ ((x1) + (x4) < I 44 3) → wp_J_charAt_s1 (((x2) * ((6 : Int32))) + (x4)) I J T (fun v14 I14 J14 T14 => ((v14 = (32 : Int32) → V27 (x1) (x2) ((x3) + ((1 : Int32))) (x4 + (1 : Int32)) I14 J14 T14) ∧ (¬ (v14 = (32 : Int32)) → V27 (x1) (x2) ((x3) + ((0 : Int32))) (x4 + (1 : Int32)) I14 J14 T14)))))) ∧ (¬ (x4 < (6 : Int32)) → ((x3 = (6 : Int32) → P (x2) I J T) ∧ (¬ (x3 = (6 : Int32)) → V16 (x1) (x2 + (1 : Int32)) I J T))))
def wl_X7_wordKind_27_16 (x1 : Int32) (x2 : Int32) (x3 : Int32) (x4 : Int32) (I : Nat → Nat → Int32) (J : Nat → Nat → Int64) (T : Option Nat) (V16 : Int32 → Int32 → (Nat → Nat → Int32) → (Nat → Nat → Int64) → Option Nat → Prop) (P : Int32 → (Nat → Nat → Int32) → (Nat → Nat → Int64) → Option Nat → Prop) : Prop := ∀ V : Int32 → Int32 → Int32 → Int32 → (Nat → Nat → Int32) → (Nat → Nat → Int64) → Option Nat → Prop, (∀ (x1 : Int32) (x2 : Int32) (x3 : Int32) (x4 : Int32) (I : Nat → Nat → Int32) (J : Nat → Nat → Int64) (T : Option Nat), wb_X7_wordKind_27_16 x1 x2 x3 x4 I J T V V16 P → V x1 x2 x3 x4 I J T) → V x1 x2 x3 x4 I J T
set_option maxRecDepth 20000 in
theorem tl_X7_wordKind_27_16 {d : Nat} {x1 : Int32} {x2 : Int32} {x3 : Int32} {x4 : Int32} {I : Nat → Nat → Int32} {J : Nat → Nat → Int64} {T : Option Nat} {V16 : Int32 → Int32 → (Nat → Nat → Int32) → (Nat → Nat → Int64) → Option Nat → Prop} {P : Int32 → (Nat → Nat → Int32) → (Nat → Nat → Int64) → Option Nat → Prop} {Q : ix_Q} (h : wl_X7_wordKind_27_16 x1 x2 x3 x4 I J T V16 P) (hV16 : ∀ (x1 : Int32) (x2 : Int32) I J T, V16 x1 x2 I J T → ix_W (ix_C (d + 2)) (7, ix_lk ix_l101, (some .int), 0, 0, Nat.blt 0 0, none) Q (16, [some (.inr (.inr (.inl (some (44))))), some (.inl (x1)), some (.inl (x2)), none, none, none], [], 0, 0, ix_mem 276 I J T)) (hQ : ∀ v I J T, P v I J T → Q (some (.inl v)) (ix_mem 276 I J T)) : ix_W (ix_C (d + 2)) (7, ix_lk ix_l101, (some .int), 0, 0, Nat.blt 0 0, none) Q (27, [some (.inr (.inr (.inl (some (44))))), some (.inl (x1)), some (.inl (x2)), some (.inl (x3)), some (.inl (x4)), none], [], 0, 0, ix_mem 276 I J T) := by
  refine h (fun x1 x2 x3 x4 I J T => ix_W (ix_C (d + 2)) (7, ix_lk ix_l101, (some .int), 0, 0, Nat.blt 0 0, none) Q (27, [some (.inr (.inr (.inl (some (44))))), some (.inl (x1)), some (.inl (x2)), some (.inl (x3)), some (.inl (x4)), none], [], 0, 0, ix_mem 276 I J T)) ?_
  intro x1 x2 x3 x4 I J T hb
  unfold wb_X7_wordKind_27_16 at hb
  refine ix_go 3 (x' := (if x4 < (6 : Int32) then 34 else 92, [some (.inr (.inr (.inl (some (44))))), some (.inl (x1)), some (.inl (x2)), some (.inl (x3)), some (.inl (x4)), none], [], 0, 0, ix_mem 276 I J T)) rfl trivial ?_
  refine ix_br (fun c5 => ?_) (fun c5 => ?_)
  · have h6 := hb.1 c5
    refine ix_go 6 (x' := (if (x1) + (x4) < I 44 3 then 45 else 57, [some (.inr (.inr (.inl (some (44))))), some (.inl (x1)), some (.inl (x2)), some (.inl (x3)), some (.inl (x4)), none], [], 0, 0, ix_mem 276 I J T)) rfl ⟨rfl, rfl⟩ ?_
    refine ix_br (fun c7 => ?_) (fun c7 => ?_)
    · have h8 := h6.1 c7
      obtain ⟨p9, h10⟩ := h8
      refine ix_go 7 (x' := (59, [some (.inr (.inr (.inl (some (44))))), some (.inl (x1)), some (.inl (x2)), some (.inl (x3)), some (.inl (x4)), none], [.inl (I 45 ((x1) + (x4)).toNatClampNeg)], 0, 0, ix_mem 276 I J T)) rfl ⟨rfl, rfl, rfl, rfl, p9⟩ ?_
      refine ix_go 7 (x' := (70, [some (.inr (.inr (.inl (some (44))))), some (.inl (x1)), some (.inl (x2)), some (.inl (x3)), some (.inl (x4)), some (.inl (I 45 ((x1) + (x4)).toNatClampNeg))], [.inl (x4), .inl ((x2) * ((6 : Int32))), .inr (.inr (.inr 1)), .inl (x3)], 0, 0, ix_mem 276 I J T)) rfl trivial ?_
      refine ix_go 1 (x' := (71, [some (.inr (.inr (.inl (some (44))))), some (.inl (x1)), some (.inl (x2)), some (.inl (x3)), some (.inl (x4)), some (.inl (I 45 ((x1) + (x4)).toNatClampNeg))], [.inl (((x2) * ((6 : Int32))) + (x4)), .inr (.inr (.inr 1)), .inl (x3)], 0, 0, ix_mem 276 I J T)) rfl trivial ?_
      refine ix_sp rfl ⟨rfl, ⟨ix_le rfl, ix_le rfl, rfl⟩, ix_le rfl, Nat.le_refl _, Nat.le_refl _, tp_J_charAt_s1 h10 (fun v11 I11 J11 T11 h11 => ?_)⟩
      change ix_W _ _ _ (74, [some (.inr (.inr (.inl (some (44))))), some (.inl (x1)), some (.inl (x2)), some (.inl (x3)), some (.inl (x4)), some (.inl (I 45 ((x1) + (x4)).toNatClampNeg))], [.inl (v11), .inl (x3)], 0, 0, ix_mem 276 I11 J11 T11)
      refine ix_go 2 (x' := (if v11 = I 45 ((x1) + (x4)).toNatClampNeg then 79 else 83, [some (.inr (.inr (.inl (some (44))))), some (.inl (x1)), some (.inl (x2)), some (.inl (x3)), some (.inl (x4)), some (.inl (I 45 ((x1) + (x4)).toNatClampNeg))], [.inl (x3)], 0, 0, ix_mem 276 I11 J11 T11)) rfl trivial ?_
      refine ix_br (fun c12 => ?_) (fun c12 => ?_)
      · have h13 := h11.1 c12
        refine ix_go 6 (x' := (27, [some (.inr (.inr (.inl (some (44))))), some (.inl (x1)), some (.inl (x2)), some (.inl ((x3) + ((1 : Int32)))), some (.inl (x4 + (1 : Int32))), some (.inl (I 45 ((x1) + (x4)).toNatClampNeg))], [], 0, 0, ix_mem 276 I11 J11 T11)) rfl trivial ?_
        refine ix_subW ([some (.inr (.inr (.inl (some (44))))), some (.inl (x1)), some (.inl (x2)), some (.inl ((x3) + ((1 : Int32)))), some (.inl (x4 + (1 : Int32))), none]) (ix_subS (ix_subS (ix_subS (ix_subS (ix_subS (ix_subN (ix_sub0))))))) ?_
        exact h13
      · have h13 := h11.2 c12
        refine ix_go 5 (x' := (27, [some (.inr (.inr (.inl (some (44))))), some (.inl (x1)), some (.inl (x2)), some (.inl ((x3) + ((0 : Int32)))), some (.inl (x4 + (1 : Int32))), some (.inl (I 45 ((x1) + (x4)).toNatClampNeg))], [], 0, 0, ix_mem 276 I11 J11 T11)) rfl trivial ?_
        refine ix_subW ([some (.inr (.inr (.inl (some (44))))), some (.inl (x1)), some (.inl (x2)), some (.inl ((x3) + ((0 : Int32)))), some (.inl (x4 + (1 : Int32))), none]) (ix_subS (ix_subS (ix_subS (ix_subS (ix_subS (ix_subN (ix_sub0))))))) ?_
        exact h13
    · have h8 := h6.2 c7
      refine ix_go 7 (x' := (68, [some (.inr (.inr (.inl (some (44))))), some (.inl (x1)), some (.inl (x2)), some (.inl (x3)), some (.inl (x4)), some (.inl ((32 : Int32)))], [.inl ((x2) * ((6 : Int32))), .inr (.inr (.inr 1)), .inl (x3)], 0, 0, ix_mem 276 I J T)) rfl trivial ?_
      refine ix_go 2 (x' := (71, [some (.inr (.inr (.inl (some (44))))), some (.inl (x1)), some (.inl (x2)), some (.inl (x3)), some (.inl (x4)), some (.inl ((32 : Int32)))], [.inl (((x2) * ((6 : Int32))) + (x4)), .inr (.inr (.inr 1)), .inl (x3)], 0, 0, ix_mem 276 I J T)) rfl trivial ?_
      refine ix_sp rfl ⟨rfl, ⟨ix_le rfl, ix_le rfl, rfl⟩, ix_le rfl, Nat.le_refl _, Nat.le_refl _, tp_J_charAt_s1 h8 (fun v14 I14 J14 T14 h14 => ?_)⟩
      change ix_W _ _ _ (74, [some (.inr (.inr (.inl (some (44))))), some (.inl (x1)), some (.inl (x2)), some (.inl (x3)), some (.inl (x4)), some (.inl ((32 : Int32)))], [.inl (v14), .inl (x3)], 0, 0, ix_mem 276 I14 J14 T14)
      refine ix_go 2 (x' := (if v14 = (32 : Int32) then 79 else 83, [some (.inr (.inr (.inl (some (44))))), some (.inl (x1)), some (.inl (x2)), some (.inl (x3)), some (.inl (x4)), some (.inl ((32 : Int32)))], [.inl (x3)], 0, 0, ix_mem 276 I14 J14 T14)) rfl trivial ?_
      refine ix_br (fun c15 => ?_) (fun c15 => ?_)
      · have h16 := h14.1 c15
        refine ix_go 6 (x' := (27, [some (.inr (.inr (.inl (some (44))))), some (.inl (x1)), some (.inl (x2)), some (.inl ((x3) + ((1 : Int32)))), some (.inl (x4 + (1 : Int32))), some (.inl ((32 : Int32)))], [], 0, 0, ix_mem 276 I14 J14 T14)) rfl trivial ?_
        refine ix_subW ([some (.inr (.inr (.inl (some (44))))), some (.inl (x1)), some (.inl (x2)), some (.inl ((x3) + ((1 : Int32)))), some (.inl (x4 + (1 : Int32))), none]) (ix_subS (ix_subS (ix_subS (ix_subS (ix_subS (ix_subN (ix_sub0))))))) ?_
        exact h16
      · have h16 := h14.2 c15
        refine ix_go 5 (x' := (27, [some (.inr (.inr (.inl (some (44))))), some (.inl (x1)), some (.inl (x2)), some (.inl ((x3) + ((0 : Int32)))), some (.inl (x4 + (1 : Int32))), some (.inl ((32 : Int32)))], [], 0, 0, ix_mem 276 I14 J14 T14)) rfl trivial ?_
        refine ix_subW ([some (.inr (.inr (.inl (some (44))))), some (.inl (x1)), some (.inl (x2)), some (.inl ((x3) + ((0 : Int32)))), some (.inl (x4 + (1 : Int32))), none]) (ix_subS (ix_subS (ix_subS (ix_subS (ix_subS (ix_subN (ix_sub0))))))) ?_
        exact h16
  · have h6 := hb.2 c5
    refine ix_go 3 (x' := (if x3 = (6 : Int32) then 98 else 100, [some (.inr (.inr (.inl (some (44))))), some (.inl (x1)), some (.inl (x2)), some (.inl (x3)), some (.inl (x4)), none], [], 0, 0, ix_mem 276 I J T)) rfl trivial ?_
    refine ix_br (fun c17 => ?_) (fun c17 => ?_)
    · have h18 := h6.1 c17
      refine ix_go 1 (x' := (99, [some (.inr (.inr (.inl (some (44))))), some (.inl (x1)), some (.inl (x2)), some (.inl (x3)), some (.inl (x4)), none], [.inl (x2)], 0, 0, ix_mem 276 I J T)) rfl trivial ?_
      exact ix_sp rfl ⟨Nat.le_refl _, Nat.le_refl _, trivial, hQ _ _ _ _ h18⟩
    · have h18 := h6.2 c17
      refine ix_go 2 (x' := (16, [some (.inr (.inr (.inl (some (44))))), some (.inl (x1)), some (.inl (x2 + (1 : Int32))), some (.inl (x3)), some (.inl (x4)), none], [], 0, 0, ix_mem 276 I J T)) rfl trivial ?_
      refine ix_subW ([some (.inr (.inr (.inl (some (44))))), some (.inl (x1)), some (.inl (x2 + (1 : Int32))), none, none, none]) (ix_subS (ix_subS (ix_subS (ix_subN (ix_subN (ix_subS (ix_sub0))))))) ?_
      exact hV16 _ _ _ _ _ h18
def wb_X7_wordKind_16 (x1 : Int32) (x2 : Int32) (I : Nat → Nat → Int32) (J : Nat → Nat → Int64) (T : Option Nat) (V16 : Int32 → Int32 → (Nat → Nat → Int32) → (Nat → Nat → Int64) → Option Nat → Prop) (P : Int32 → (Nat → Nat → Int32) → (Nat → Nat → Int64) → Option Nat → Prop) : Prop := ((x2 ≤ (17 : Int32) → wl_X7_wordKind_27_16 (x1) (x2) ((0 : Int32)) ((0 : Int32)) I J T V16 P) ∧ (¬ (x2 ≤ (17 : Int32)) → P ((18 : Int32)) I J T))
def wl_X7_wordKind_16 (x1 : Int32) (x2 : Int32) (I : Nat → Nat → Int32) (J : Nat → Nat → Int64) (T : Option Nat) (P : Int32 → (Nat → Nat → Int32) → (Nat → Nat → Int64) → Option Nat → Prop) : Prop := ∀ V : Int32 → Int32 → (Nat → Nat → Int32) → (Nat → Nat → Int64) → Option Nat → Prop, (∀ (x1 : Int32) (x2 : Int32) (I : Nat → Nat → Int32) (J : Nat → Nat → Int64) (T : Option Nat), wb_X7_wordKind_16 x1 x2 I J T V P → V x1 x2 I J T) → V x1 x2 I J T
set_option maxRecDepth 20000 in
theorem tl_X7_wordKind_16 {d : Nat} {x1 : Int32} {x2 : Int32} {I : Nat → Nat → Int32} {J : Nat → Nat → Int64} {T : Option Nat} {P : Int32 → (Nat → Nat → Int32) → (Nat → Nat → Int64) → Option Nat → Prop} {Q : ix_Q} (h : wl_X7_wordKind_16 x1 x2 I J T P) (hQ : ∀ v I J T, P v I J T → Q (some (.inl v)) (ix_mem 276 I J T)) : ix_W (ix_C (d + 2)) (7, ix_lk ix_l101, (some .int), 0, 0, Nat.blt 0 0, none) Q (16, [some (.inr (.inr (.inl (some (44))))), some (.inl (x1)), some (.inl (x2)), none, none, none], [], 0, 0, ix_mem 276 I J T) := by
  refine h (fun x1 x2 I J T => ix_W (ix_C (d + 2)) (7, ix_lk ix_l101, (some .int), 0, 0, Nat.blt 0 0, none) Q (16, [some (.inr (.inr (.inl (some (44))))), some (.inl (x1)), some (.inl (x2)), none, none, none], [], 0, 0, ix_mem 276 I J T)) ?_
  intro x1 x2 I J T hb
  unfold wb_X7_wordKind_16 at hb
  refine ix_go 3 (x' := (if x2 ≤ (17 : Int32) then 22 else 106, [some (.inr (.inr (.inl (some (44))))), some (.inl (x1)), some (.inl (x2)), none, none, none], [], 0, 0, ix_mem 276 I J T)) rfl trivial ?_
  refine ix_br (fun c3 => ?_) (fun c3 => ?_)
  · have h4 := hb.1 c3
    refine ix_go 4 (x' := (27, [some (.inr (.inr (.inl (some (44))))), some (.inl (x1)), some (.inl (x2)), some (.inl ((0 : Int32))), some (.inl ((0 : Int32))), none], [], 0, 0, ix_mem 276 I J T)) rfl trivial ?_
    refine ix_subW ([some (.inr (.inr (.inl (some (44))))), some (.inl (x1)), some (.inl (x2)), some (.inl ((0 : Int32))), some (.inl ((0 : Int32))), none]) (ix_subS (ix_subS (ix_subS (ix_subS (ix_subS (ix_subS (ix_sub0))))))) ?_
    exact tl_X7_wordKind_27_16 h4 (fun _ _ I J T hv => hv) hQ
  · have h4 := hb.2 c3
    refine ix_go 1 (x' := (108, [some (.inr (.inr (.inl (some (44))))), some (.inl (x1)), some (.inl (x2)), none, none, none], [.inl ((18 : Int32))], 0, 0, ix_mem 276 I J T)) rfl trivial ?_
    exact ix_sp rfl ⟨Nat.le_refl _, Nat.le_refl _, trivial, hQ _ _ _ _ h4⟩
def wp_X7_wordKind (a0 : Int32) (I : Nat → Nat → Int32) (J : Nat → Nat → Int64) (T : Option Nat) (P : Int32 → (Nat → Nat → Int32) → (Nat → Nat → Int64) → Option Nat → Prop) : Prop := (((I 44 3) - (a0) ≤ (6 : Int32) → wl_X7_wordKind_16 (a0) ((0 : Int32)) I J T P) ∧ (¬ ((I 44 3) - (a0) ≤ (6 : Int32)) → P ((18 : Int32)) I J T))
set_option maxRecDepth 20000 in
theorem tp_X7_wordKind {d : Nat} {a0 : Int32} {I : Nat → Nat → Int32} {J : Nat → Nat → Int64} {T : Option Nat} {P : Int32 → (Nat → Nat → Int32) → (Nat → Nat → Int64) → Option Nat → Prop} {Q : ix_Q} (h : wp_X7_wordKind a0 I J T P) (hQ : ∀ v I J T, P v I J T → Q (some (.inl v)) (ix_mem 276 I J T)) : ix_C (d + 3) 101 [.inr (.inr (.inl (some (44)))), .inl (a0)] (ix_mem 276 I J T) Q := by
  unfold wp_X7_wordKind at h
  refine ix_enter (ls := [some (.inr (.inr (.inl (some (44))))), some (.inl (a0)), none, none, none, none]) rfl rfl rfl (Nat.le_of_ble_eq_true rfl) ?_
  refine ix_go 6 (x' := (if (I 44 3) - (a0) ≤ (6 : Int32) then 14 else 11, [some (.inr (.inr (.inl (some (44))))), some (.inl (a0)), none, none, none, none], [], 0, 0, ix_mem 276 I J T)) rfl ⟨rfl, rfl⟩ ?_
  refine ix_br (fun c1 => ?_) (fun c1 => ?_)
  · have h2 := h.1 c1
    refine ix_go 2 (x' := (16, [some (.inr (.inr (.inl (some (44))))), some (.inl (a0)), some (.inl ((0 : Int32))), none, none, none], [], 0, 0, ix_mem 276 I J T)) rfl trivial ?_
    refine ix_subW ([some (.inr (.inr (.inl (some (44))))), some (.inl (a0)), some (.inl ((0 : Int32))), none, none, none]) (ix_subS (ix_subS (ix_subS (ix_subS (ix_subS (ix_subS (ix_sub0))))))) ?_
    exact tl_X7_wordKind_16 h2 hQ
  · have h2 := h.2 c1
    refine ix_go 1 (x' := (13, [some (.inr (.inr (.inl (some (44))))), some (.inl (a0)), none, none, none, none], [.inl ((18 : Int32))], 0, 0, ix_mem 276 I J T)) rfl trivial ?_
    exact ix_sp rfl ⟨Nat.le_refl _, Nat.le_refl _, trivial, hQ _ _ _ _ h2⟩
def wb_X7_tellWord_7 (x1 : Int32) (x2 : Int32) (x3 : Int64) (I : Nat → Nat → Int32) (J : Nat → Nat → Int64) (T : Option Nat) (V7 : Int32 → Int32 → Int64 → (Nat → Nat → Int32) → (Nat → Nat → Int64) → Option Nat → Prop) (P : Int32 → (Nat → Nat → Int32) → (Nat → Nat → Int64) → Option Nat → Prop) : Prop := ((I 44 3 < I 44 2 → ix_inb (I 44 3) 600 = true ∧ wp_X7_isLetter (I 45 (I 44 3).toNatClampNeg) I J T (fun v5 I5 J5 T5 => ((v5 = 0 → ix_inb (x1) 601 = true ∧ (((I5 44 3) - (x2) ≤ (8 : Int32) → wp_X7_wordKind (x2) I5 (ix_u2 J5 48 (x1).toNatClampNeg (x3)) T5 (fun v12 I12 J12 T12 => P (v12) I12 J12 T12)) ∧ (¬ ((I5 44 3) - (x2) ≤ (8 : Int32)) → P ((19 : Int32)) I5 (ix_u2 J5 48 (x1).toNatClampNeg (x3)) T5))) ∧ (¬ (v5 = 0) → (((I5 44 3) - (x2) < (8 : Int32) → ix_inb (I5 44 3) 600 = true ∧ V7 (x1) (x2) (((x3) * ((27 : Int64))) + ((((I5 45 (I5 44 3).toNatClampNeg) - ((97 : Int32))) + ((1 : Int32))).toInt64)) (ix_u2 I5 44 3 ((I5 44 3) + ((1 : Int32)))) J5 T5) ∧ (¬ ((I5 44 3) - (x2) < (8 : Int32)) → V7 (x1) (x2) (x3) (ix_u2 I5 44 3 ((I5 44 3) + ((1 : Int32)))) J5 T5)))))) ∧ (¬ (I 44 3 < I 44 2) → ix_inb (x1) 601 = true ∧ (((I 44 3) - (x2) ≤ (8 : Int32) → wp_X7_wordKind (x2) I (ix_u2 J 48 (x1).toNatClampNeg (x3)) T (fun v21 I21 J21 T21 => P (v21) I21 J21 T21)) ∧ (¬ ((I 44 3) - (x2) ≤ (8 : Int32)) → P ((19 : Int32)) I (ix_u2 J 48 (x1).toNatClampNeg (x3)) T))))
def wl_X7_tellWord_7 (x1 : Int32) (x2 : Int32) (x3 : Int64) (I : Nat → Nat → Int32) (J : Nat → Nat → Int64) (T : Option Nat) (P : Int32 → (Nat → Nat → Int32) → (Nat → Nat → Int64) → Option Nat → Prop) : Prop := ∀ V : Int32 → Int32 → Int64 → (Nat → Nat → Int32) → (Nat → Nat → Int64) → Option Nat → Prop, (∀ (x1 : Int32) (x2 : Int32) (x3 : Int64) (I : Nat → Nat → Int32) (J : Nat → Nat → Int64) (T : Option Nat), wb_X7_tellWord_7 x1 x2 x3 I J T V P → V x1 x2 x3 I J T) → V x1 x2 x3 I J T
set_option maxRecDepth 20000 in
theorem tl_X7_tellWord_7 {d : Nat} {x1 : Int32} {x2 : Int32} {x3 : Int64} {I : Nat → Nat → Int32} {J : Nat → Nat → Int64} {T : Option Nat} {P : Int32 → (Nat → Nat → Int32) → (Nat → Nat → Int64) → Option Nat → Prop} {Q : ix_Q} (h : wl_X7_tellWord_7 x1 x2 x3 I J T P) (hQ : ∀ v I J T, P v I J T → Q (some (.inl v)) (ix_mem 276 I J T)) : ix_W (ix_C (d + 3)) (7, ix_lk ix_l102, (some .int), 0, 0, Nat.blt 0 0, none) Q (7, [some (.inr (.inr (.inl (some (44))))), some (.inl (x1)), some (.inl (x2)), some (.inr (.inl (x3))), none], [], 0, 0, ix_mem 276 I J T) := by
  refine h (fun x1 x2 x3 I J T => ix_W (ix_C (d + 3)) (7, ix_lk ix_l102, (some .int), 0, 0, Nat.blt 0 0, none) Q (7, [some (.inr (.inr (.inl (some (44))))), some (.inl (x1)), some (.inl (x2)), some (.inr (.inl (x3))), none], [], 0, 0, ix_mem 276 I J T)) ?_
  intro x1 x2 x3 I J T hb
  unfold wb_X7_tellWord_7 at hb
  refine ix_go 5 (x' := (if I 44 3 < I 44 2 then 18 else 83, [some (.inr (.inr (.inl (some (44))))), some (.inl (x1)), some (.inl (x2)), some (.inr (.inl (x3))), none], [], 0, 0, ix_mem 276 I J T)) rfl ⟨rfl, rfl, rfl, rfl⟩ ?_
  refine ix_br (fun c1 => ?_) (fun c1 => ?_)
  · have h2 := hb.1 c1
    obtain ⟨p3, h4⟩ := h2
    refine ix_go 5 (x' := (27, [some (.inr (.inr (.inl (some (44))))), some (.inl (x1)), some (.inl (x2)), some (.inr (.inl (x3))), none], [.inl (I 45 (I 44 3).toNatClampNeg)], 0, 0, ix_mem 276 I J T)) rfl ⟨rfl, rfl, rfl, rfl, rfl, rfl, p3⟩ ?_
    refine ix_sp rfl ⟨rfl, trivial, ix_le rfl, Nat.le_refl _, Nat.le_refl _, tp_X7_isLetter h4 (fun v5 I5 J5 T5 h5 => ?_)⟩
    change ix_W _ _ _ (30, [some (.inr (.inr (.inl (some (44))))), some (.inl (x1)), some (.inl (x2)), some (.inr (.inl (x3))), none], [.inl (v5)], 0, 0, ix_mem 276 I5 J5 T5)
    refine ix_go 1 (x' := (if v5 = 0 then 83 else 33, [some (.inr (.inr (.inl (some (44))))), some (.inl (x1)), some (.inl (x2)), some (.inr (.inl (x3))), none], [], 0, 0, ix_mem 276 I5 J5 T5)) rfl trivial ?_
    refine ix_br (fun c6 => ?_) (fun c6 => ?_)
    · have h7 := h5.1 c6
      obtain ⟨p8, h9⟩ := h7
      refine ix_go 7 (x' := (94, [some (.inr (.inr (.inl (some (44))))), some (.inl (x1)), some (.inl (x2)), some (.inr (.inl (x3))), none], [.inl (I5 44 3)], 0, 0, ix_mem 276 I5 (ix_u2 J5 48 (x1).toNatClampNeg (x3)) T5)) rfl ⟨rfl, rfl, rfl, rfl, p8, rfl, rfl⟩ ?_
      refine ix_go 4 (x' := (if (I5 44 3) - (x2) ≤ (8 : Int32) then 106 else 101, [some (.inr (.inr (.inl (some (44))))), some (.inl (x1)), some (.inl (x2)), some (.inr (.inl (x3))), none], [], 0, 0, ix_mem 276 I5 (ix_u2 J5 48 (x1).toNatClampNeg (x3)) T5)) rfl trivial ?_
      refine ix_br (fun c10 => ?_) (fun c10 => ?_)
      · have h11 := h9.1 c10
        refine ix_go 2 (x' := (108, [some (.inr (.inr (.inl (some (44))))), some (.inl (x1)), some (.inl (x2)), some (.inr (.inl (x3))), none], [.inl (x2), .inr (.inr (.inl (some (44))))], 0, 0, ix_mem 276 I5 (ix_u2 J5 48 (x1).toNatClampNeg (x3)) T5)) rfl trivial ?_
        refine ix_sp rfl ⟨rfl, ⟨ix_lt rfl, ix_eq rfl, ix_lt rfl⟩, ix_le rfl, Nat.le_refl _, Nat.le_refl _, tp_X7_wordKind h11 (fun v12 I12 J12 T12 h12 => ?_)⟩
        change ix_W _ _ _ (111, [some (.inr (.inr (.inl (some (44))))), some (.inl (x1)), some (.inl (x2)), some (.inr (.inl (x3))), none], [.inl (v12)], 0, 0, ix_mem 276 I12 J12 T12)
        exact ix_sp rfl ⟨Nat.le_refl _, Nat.le_refl _, trivial, hQ _ _ _ _ h12⟩
      · have h11 := h9.2 c10
        refine ix_go 2 (x' := (111, [some (.inr (.inr (.inl (some (44))))), some (.inl (x1)), some (.inl (x2)), some (.inr (.inl (x3))), none], [.inl ((19 : Int32))], 0, 0, ix_mem 276 I5 (ix_u2 J5 48 (x1).toNatClampNeg (x3)) T5)) rfl trivial ?_
        exact ix_sp rfl ⟨Nat.le_refl _, Nat.le_refl _, trivial, hQ _ _ _ _ h11⟩
    · have h7 := h5.2 c6
      refine ix_go 6 (x' := (if (I5 44 3) - (x2) < (8 : Int32) then 44 else 68, [some (.inr (.inr (.inl (some (44))))), some (.inl (x1)), some (.inl (x2)), some (.inr (.inl (x3))), none], [], 0, 0, ix_mem 276 I5 J5 T5)) rfl ⟨rfl, rfl⟩ ?_
      refine ix_br (fun c13 => ?_) (fun c13 => ?_)
      · have h14 := h7.1 c13
        refine ix_go 7 (x' := (57, [some (.inr (.inr (.inl (some (44))))), some (.inl (x1)), some (.inl (x2)), some (.inr (.inl (x3))), none], [.inl (I5 44 3), .inr (.inr (.inl (some (45)))), .inr (.inl ((x3) * ((27 : Int64))))], 0, 0, ix_mem 276 I5 J5 T5)) rfl ⟨rfl, rfl, rfl, rfl⟩ ?_
        obtain ⟨p15, h16⟩ := h14
        refine ix_go 7 (x' := (65, [some (.inr (.inr (.inl (some (44))))), some (.inl (x1)), some (.inl (x2)), some (.inr (.inl (x3))), none], [.inr (.inl (((x3) * ((27 : Int64))) + ((((I5 45 (I5 44 3).toNatClampNeg) - ((97 : Int32))) + ((1 : Int32))).toInt64)))], 0, 0, ix_mem 276 I5 J5 T5)) rfl ⟨rfl, rfl, p15⟩ ?_
        refine ix_go 7 (x' := (77, [some (.inr (.inr (.inl (some (44))))), some (.inl (x1)), some (.inl (x2)), some (.inr (.inl (((x3) * ((27 : Int64))) + ((((I5 45 (I5 44 3).toNatClampNeg) - ((97 : Int32))) + ((1 : Int32))).toInt64)))), none], [.inl ((I5 44 3) + ((1 : Int32))), .inr (.inr (.inl (some (44))))], 0, 0, ix_mem 276 I5 J5 T5)) rfl ⟨rfl, rfl⟩ ?_
        refine ix_go 2 (x' := (7, [some (.inr (.inr (.inl (some (44))))), some (.inl (x1)), some (.inl (x2)), some (.inr (.inl (((x3) * ((27 : Int64))) + ((((I5 45 (I5 44 3).toNatClampNeg) - ((97 : Int32))) + ((1 : Int32))).toInt64)))), none], [], 0, 0, ix_mem 276 (ix_u2 I5 44 3 ((I5 44 3) + ((1 : Int32)))) J5 T5)) rfl ⟨rfl, rfl⟩ ?_
        refine ix_subW ([some (.inr (.inr (.inl (some (44))))), some (.inl (x1)), some (.inl (x2)), some (.inr (.inl (((x3) * ((27 : Int64))) + ((((I5 45 (I5 44 3).toNatClampNeg) - ((97 : Int32))) + ((1 : Int32))).toInt64)))), none]) (ix_subS (ix_subS (ix_subS (ix_subS (ix_subS (ix_sub0)))))) ?_
        exact h16
      · have h14 := h7.2 c13
        refine ix_go 7 (x' := (77, [some (.inr (.inr (.inl (some (44))))), some (.inl (x1)), some (.inl (x2)), some (.inr (.inl (x3))), none], [.inl ((I5 44 3) + ((1 : Int32))), .inr (.inr (.inl (some (44))))], 0, 0, ix_mem 276 I5 J5 T5)) rfl ⟨rfl, rfl⟩ ?_
        refine ix_go 2 (x' := (7, [some (.inr (.inr (.inl (some (44))))), some (.inl (x1)), some (.inl (x2)), some (.inr (.inl (x3))), none], [], 0, 0, ix_mem 276 (ix_u2 I5 44 3 ((I5 44 3) + ((1 : Int32)))) J5 T5)) rfl ⟨rfl, rfl⟩ ?_
        refine ix_subW ([some (.inr (.inr (.inl (some (44))))), some (.inl (x1)), some (.inl (x2)), some (.inr (.inl (x3))), none]) (ix_subS (ix_subS (ix_subS (ix_subS (ix_subS (ix_sub0)))))) ?_
        exact h14
  · have h2 := hb.2 c1
    obtain ⟨p17, h18⟩ := h2
    refine ix_go 7 (x' := (94, [some (.inr (.inr (.inl (some (44))))), some (.inl (x1)), some (.inl (x2)), some (.inr (.inl (x3))), none], [.inl (I 44 3)], 0, 0, ix_mem 276 I (ix_u2 J 48 (x1).toNatClampNeg (x3)) T)) rfl ⟨rfl, rfl, rfl, rfl, p17, rfl, rfl⟩ ?_
    refine ix_go 4 (x' := (if (I 44 3) - (x2) ≤ (8 : Int32) then 106 else 101, [some (.inr (.inr (.inl (some (44))))), some (.inl (x1)), some (.inl (x2)), some (.inr (.inl (x3))), none], [], 0, 0, ix_mem 276 I (ix_u2 J 48 (x1).toNatClampNeg (x3)) T)) rfl trivial ?_
    refine ix_br (fun c19 => ?_) (fun c19 => ?_)
    · have h20 := h18.1 c19
      refine ix_go 2 (x' := (108, [some (.inr (.inr (.inl (some (44))))), some (.inl (x1)), some (.inl (x2)), some (.inr (.inl (x3))), none], [.inl (x2), .inr (.inr (.inl (some (44))))], 0, 0, ix_mem 276 I (ix_u2 J 48 (x1).toNatClampNeg (x3)) T)) rfl trivial ?_
      refine ix_sp rfl ⟨rfl, ⟨ix_lt rfl, ix_eq rfl, ix_lt rfl⟩, ix_le rfl, Nat.le_refl _, Nat.le_refl _, tp_X7_wordKind h20 (fun v21 I21 J21 T21 h21 => ?_)⟩
      change ix_W _ _ _ (111, [some (.inr (.inr (.inl (some (44))))), some (.inl (x1)), some (.inl (x2)), some (.inr (.inl (x3))), none], [.inl (v21)], 0, 0, ix_mem 276 I21 J21 T21)
      exact ix_sp rfl ⟨Nat.le_refl _, Nat.le_refl _, trivial, hQ _ _ _ _ h21⟩
    · have h20 := h18.2 c19
      refine ix_go 2 (x' := (111, [some (.inr (.inr (.inl (some (44))))), some (.inl (x1)), some (.inl (x2)), some (.inr (.inl (x3))), none], [.inl ((19 : Int32))], 0, 0, ix_mem 276 I (ix_u2 J 48 (x1).toNatClampNeg (x3)) T)) rfl trivial ?_
      exact ix_sp rfl ⟨Nat.le_refl _, Nat.le_refl _, trivial, hQ _ _ _ _ h20⟩
def wp_X7_tellWord (a0 : Int32) (I : Nat → Nat → Int32) (J : Nat → Nat → Int64) (T : Option Nat) (P : Int32 → (Nat → Nat → Int32) → (Nat → Nat → Int64) → Option Nat → Prop) : Prop := wl_X7_tellWord_7 (a0) (I 44 3) ((0 : Int64)) I J T P
set_option maxRecDepth 20000 in
theorem tp_X7_tellWord {d : Nat} {a0 : Int32} {I : Nat → Nat → Int32} {J : Nat → Nat → Int64} {T : Option Nat} {P : Int32 → (Nat → Nat → Int32) → (Nat → Nat → Int64) → Option Nat → Prop} {Q : ix_Q} (h : wp_X7_tellWord a0 I J T P) (hQ : ∀ v I J T, P v I J T → Q (some (.inl v)) (ix_mem 276 I J T)) : ix_C (d + 4) 102 [.inr (.inr (.inl (some (44)))), .inl (a0)] (ix_mem 276 I J T) Q := by
  unfold wp_X7_tellWord at h
  refine ix_enter (ls := [some (.inr (.inr (.inl (some (44))))), some (.inl (a0)), none, none, none]) rfl rfl rfl (Nat.le_of_ble_eq_true rfl) ?_
  refine ix_go 5 (x' := (7, [some (.inr (.inr (.inl (some (44))))), some (.inl (a0)), some (.inl (I 44 3)), some (.inr (.inl ((0 : Int64)))), none], [], 0, 0, ix_mem 276 I J T)) rfl ⟨rfl, rfl⟩ ?_
  refine ix_subW ([some (.inr (.inr (.inl (some (44))))), some (.inl (a0)), some (.inl (I 44 3)), some (.inr (.inl ((0 : Int64)))), none]) (ix_subS (ix_subS (ix_subS (ix_subS (ix_subS (ix_sub0)))))) ?_
  exact tl_X7_tellWord_7 h hQ
def wp_X7_isDigit (a0 : Int32) (I : Nat → Nat → Int32) (J : Nat → Nat → Int64) (T : Option Nat) (P : Int32 → (Nat → Nat → Int32) → (Nat → Nat → Int64) → Option Nat → Prop) : Prop := ((a0 < (48 : Int32) → P ((0 : Int32)) I J T) ∧ (¬ (a0 < (48 : Int32)) → ((a0 ≤ (57 : Int32) → P ((1 : Int32)) I J T) ∧ (¬ (a0 ≤ (57 : Int32)) → P ((0 : Int32)) I J T))))
set_option maxRecDepth 20000 in
theorem tp_X7_isDigit {d : Nat} {a0 : Int32} {I : Nat → Nat → Int32} {J : Nat → Nat → Int64} {T : Option Nat} {P : Int32 → (Nat → Nat → Int32) → (Nat → Nat → Int64) → Option Nat → Prop} {Q : ix_Q} (h : wp_X7_isDigit a0 I J T P) (hQ : ∀ v I J T, P v I J T → Q (some (.inl v)) (ix_mem 276 I J T)) : ix_C (d + 1) 103 [.inl (a0)] (ix_mem 276 I J T) Q := by
  unfold wp_X7_isDigit at h
  refine ix_enter (ls := [some (.inl (a0))]) rfl rfl rfl (Nat.le_of_ble_eq_true rfl) ?_
  refine ix_go 3 (x' := (if a0 < (48 : Int32) then 16 else 6, [some (.inl (a0))], [], 0, 0, ix_mem 276 I J T)) rfl trivial ?_
  refine ix_br (fun c1 => ?_) (fun c1 => ?_)
  · have h2 := h.1 c1
    refine ix_go 1 (x' := (17, [some (.inl (a0))], [.inl ((0 : Int32))], 0, 0, ix_mem 276 I J T)) rfl trivial ?_
    exact ix_sp rfl ⟨Nat.le_refl _, Nat.le_refl _, ix_01_ok rfl, hQ _ _ _ _ h2⟩
  · have h2 := h.2 c1
    refine ix_go 3 (x' := (if a0 ≤ (57 : Int32) then 12 else 16, [some (.inl (a0))], [], 0, 0, ix_mem 276 I J T)) rfl trivial ?_
    refine ix_br (fun c3 => ?_) (fun c3 => ?_)
    · have h4 := h2.1 c3
      refine ix_go 2 (x' := (17, [some (.inl (a0))], [.inl ((1 : Int32))], 0, 0, ix_mem 276 I J T)) rfl trivial ?_
      exact ix_sp rfl ⟨Nat.le_refl _, Nat.le_refl _, ix_01_ok rfl, hQ _ _ _ _ h4⟩
    · have h4 := h2.2 c3
      refine ix_go 1 (x' := (17, [some (.inl (a0))], [.inl ((0 : Int32))], 0, 0, ix_mem 276 I J T)) rfl trivial ?_
      exact ix_sp rfl ⟨Nat.le_refl _, Nat.le_refl _, ix_01_ok rfl, hQ _ _ _ _ h4⟩
def wb_X7_tellNumber_7 (x1 : Int32) (x2 : Int32) (x3 : Int64) (I : Nat → Nat → Int32) (J : Nat → Nat → Int64) (T : Option Nat) (V7 : Int32 → Int32 → Int64 → (Nat → Nat → Int32) → (Nat → Nat → Int64) → Option Nat → Prop) (P : Int32 → (Nat → Nat → Int32) → (Nat → Nat → Int64) → Option Nat → Prop) : Prop := ((I 44 3 < I 44 2 → ix_inb (I 44 3) 600 = true ∧ wp_X7_isDigit (I 45 (I 44 3).toNatClampNeg) I J T (fun v5 I5 J5 T5 => ((v5 = 0 → ix_inb (x1) 601 = true ∧ (((I5 44 3) - (x2) ≤ (7 : Int32) → P ((20 : Int32)) I5 (ix_u2 J5 48 (x1).toNatClampNeg (x3)) T5) ∧ (¬ ((I5 44 3) - (x2) ≤ (7 : Int32)) → P ((22 : Int32)) I5 (ix_u2 J5 48 (x1).toNatClampNeg (x3)) T5))) ∧ (¬ (v5 = 0) → ix_inb (I5 44 3) 600 = true ∧ V7 (x1) (x2) (((x3) * ((10 : Int64))) + (((I5 45 (I5 44 3).toNatClampNeg) - ((48 : Int32))).toInt64)) (ix_u2 I5 44 3 ((I5 44 3) + ((1 : Int32)))) J5 T5)))) ∧ (¬ (I 44 3 < I 44 2) → ix_inb (x1) 601 = true ∧ (((I 44 3) - (x2) ≤ (7 : Int32) → P ((20 : Int32)) I (ix_u2 J 48 (x1).toNatClampNeg (x3)) T) ∧ (¬ ((I 44 3) - (x2) ≤ (7 : Int32)) → P ((22 : Int32)) I (ix_u2 J 48 (x1).toNatClampNeg (x3)) T))))
def wl_X7_tellNumber_7 (x1 : Int32) (x2 : Int32) (x3 : Int64) (I : Nat → Nat → Int32) (J : Nat → Nat → Int64) (T : Option Nat) (P : Int32 → (Nat → Nat → Int32) → (Nat → Nat → Int64) → Option Nat → Prop) : Prop := ∀ V : Int32 → Int32 → Int64 → (Nat → Nat → Int32) → (Nat → Nat → Int64) → Option Nat → Prop, (∀ (x1 : Int32) (x2 : Int32) (x3 : Int64) (I : Nat → Nat → Int32) (J : Nat → Nat → Int64) (T : Option Nat), wb_X7_tellNumber_7 x1 x2 x3 I J T V P → V x1 x2 x3 I J T) → V x1 x2 x3 I J T
set_option maxRecDepth 20000 in
theorem tl_X7_tellNumber_7 {d : Nat} {x1 : Int32} {x2 : Int32} {x3 : Int64} {I : Nat → Nat → Int32} {J : Nat → Nat → Int64} {T : Option Nat} {P : Int32 → (Nat → Nat → Int32) → (Nat → Nat → Int64) → Option Nat → Prop} {Q : ix_Q} (h : wl_X7_tellNumber_7 x1 x2 x3 I J T P) (hQ : ∀ v I J T, P v I J T → Q (some (.inl v)) (ix_mem 276 I J T)) : ix_W (ix_C (d + 1)) (7, ix_lk ix_l104, (some .int), 0, 0, Nat.blt 0 0, none) Q (7, [some (.inr (.inr (.inl (some (44))))), some (.inl (x1)), some (.inl (x2)), some (.inr (.inl (x3))), none], [], 0, 0, ix_mem 276 I J T) := by
  refine h (fun x1 x2 x3 I J T => ix_W (ix_C (d + 1)) (7, ix_lk ix_l104, (some .int), 0, 0, Nat.blt 0 0, none) Q (7, [some (.inr (.inr (.inl (some (44))))), some (.inl (x1)), some (.inl (x2)), some (.inr (.inl (x3))), none], [], 0, 0, ix_mem 276 I J T)) ?_
  intro x1 x2 x3 I J T hb
  unfold wb_X7_tellNumber_7 at hb
  refine ix_go 5 (x' := (if I 44 3 < I 44 2 then 18 else 66, [some (.inr (.inr (.inl (some (44))))), some (.inl (x1)), some (.inl (x2)), some (.inr (.inl (x3))), none], [], 0, 0, ix_mem 276 I J T)) rfl ⟨rfl, rfl, rfl, rfl⟩ ?_
  refine ix_br (fun c1 => ?_) (fun c1 => ?_)
  · have h2 := hb.1 c1
    obtain ⟨p3, h4⟩ := h2
    refine ix_go 5 (x' := (27, [some (.inr (.inr (.inl (some (44))))), some (.inl (x1)), some (.inl (x2)), some (.inr (.inl (x3))), none], [.inl (I 45 (I 44 3).toNatClampNeg)], 0, 0, ix_mem 276 I J T)) rfl ⟨rfl, rfl, rfl, rfl, rfl, rfl, p3⟩ ?_
    refine ix_sp rfl ⟨rfl, trivial, ix_le rfl, Nat.le_refl _, Nat.le_refl _, tp_X7_isDigit h4 (fun v5 I5 J5 T5 h5 => ?_)⟩
    change ix_W _ _ _ (30, [some (.inr (.inr (.inl (some (44))))), some (.inl (x1)), some (.inl (x2)), some (.inr (.inl (x3))), none], [.inl (v5)], 0, 0, ix_mem 276 I5 J5 T5)
    refine ix_go 1 (x' := (if v5 = 0 then 66 else 33, [some (.inr (.inr (.inl (some (44))))), some (.inl (x1)), some (.inl (x2)), some (.inr (.inl (x3))), none], [], 0, 0, ix_mem 276 I5 J5 T5)) rfl trivial ?_
    refine ix_br (fun c6 => ?_) (fun c6 => ?_)
    · have h7 := h5.1 c6
      obtain ⟨p8, h9⟩ := h7
      refine ix_go 11 (x' := (if (I5 44 3) - (x2) ≤ (7 : Int32) then 89 else 84, [some (.inr (.inr (.inl (some (44))))), some (.inl (x1)), some (.inl (x2)), some (.inr (.inl (x3))), none], [], 0, 0, ix_mem 276 I5 (ix_u2 J5 48 (x1).toNatClampNeg (x3)) T5)) rfl ⟨rfl, rfl, rfl, rfl, p8, rfl, rfl⟩ ?_
      refine ix_br (fun c10 => ?_) (fun c10 => ?_)
      · have h11 := h9.1 c10
        refine ix_go 1 (x' := (91, [some (.inr (.inr (.inl (some (44))))), some (.inl (x1)), some (.inl (x2)), some (.inr (.inl (x3))), none], [.inl ((20 : Int32))], 0, 0, ix_mem 276 I5 (ix_u2 J5 48 (x1).toNatClampNeg (x3)) T5)) rfl trivial ?_
        exact ix_sp rfl ⟨Nat.le_refl _, Nat.le_refl _, trivial, hQ _ _ _ _ h11⟩
      · have h11 := h9.2 c10
        refine ix_go 2 (x' := (91, [some (.inr (.inr (.inl (some (44))))), some (.inl (x1)), some (.inl (x2)), some (.inr (.inl (x3))), none], [.inl ((22 : Int32))], 0, 0, ix_mem 276 I5 (ix_u2 J5 48 (x1).toNatClampNeg (x3)) T5)) rfl trivial ?_
        exact ix_sp rfl ⟨Nat.le_refl _, Nat.le_refl _, trivial, hQ _ _ _ _ h11⟩
    · have h7 := h5.2 c6
      obtain ⟨p12, h13⟩ := h7
      refine ix_go 20 (x' := (7, [some (.inr (.inr (.inl (some (44))))), some (.inl (x1)), some (.inl (x2)), some (.inr (.inl (((x3) * ((10 : Int64))) + (((I5 45 (I5 44 3).toNatClampNeg) - ((48 : Int32))).toInt64)))), none], [], 0, 0, ix_mem 276 (ix_u2 I5 44 3 ((I5 44 3) + ((1 : Int32)))) J5 T5)) rfl ⟨rfl, rfl, rfl, rfl, rfl, rfl, p12, rfl, rfl, rfl, rfl⟩ ?_
      refine ix_subW ([some (.inr (.inr (.inl (some (44))))), some (.inl (x1)), some (.inl (x2)), some (.inr (.inl (((x3) * ((10 : Int64))) + (((I5 45 (I5 44 3).toNatClampNeg) - ((48 : Int32))).toInt64)))), none]) (ix_subS (ix_subS (ix_subS (ix_subS (ix_subS (ix_sub0)))))) ?_
      exact h13
  · have h2 := hb.2 c1
    obtain ⟨p14, h15⟩ := h2
    refine ix_go 11 (x' := (if (I 44 3) - (x2) ≤ (7 : Int32) then 89 else 84, [some (.inr (.inr (.inl (some (44))))), some (.inl (x1)), some (.inl (x2)), some (.inr (.inl (x3))), none], [], 0, 0, ix_mem 276 I (ix_u2 J 48 (x1).toNatClampNeg (x3)) T)) rfl ⟨rfl, rfl, rfl, rfl, p14, rfl, rfl⟩ ?_
    refine ix_br (fun c16 => ?_) (fun c16 => ?_)
    · have h17 := h15.1 c16
      refine ix_go 1 (x' := (91, [some (.inr (.inr (.inl (some (44))))), some (.inl (x1)), some (.inl (x2)), some (.inr (.inl (x3))), none], [.inl ((20 : Int32))], 0, 0, ix_mem 276 I (ix_u2 J 48 (x1).toNatClampNeg (x3)) T)) rfl trivial ?_
      exact ix_sp rfl ⟨Nat.le_refl _, Nat.le_refl _, trivial, hQ _ _ _ _ h17⟩
    · have h17 := h15.2 c16
      refine ix_go 2 (x' := (91, [some (.inr (.inr (.inl (some (44))))), some (.inl (x1)), some (.inl (x2)), some (.inr (.inl (x3))), none], [.inl ((22 : Int32))], 0, 0, ix_mem 276 I (ix_u2 J 48 (x1).toNatClampNeg (x3)) T)) rfl trivial ?_
      exact ix_sp rfl ⟨Nat.le_refl _, Nat.le_refl _, trivial, hQ _ _ _ _ h17⟩
def wp_X7_tellNumber (a0 : Int32) (I : Nat → Nat → Int32) (J : Nat → Nat → Int64) (T : Option Nat) (P : Int32 → (Nat → Nat → Int32) → (Nat → Nat → Int64) → Option Nat → Prop) : Prop := wl_X7_tellNumber_7 (a0) (I 44 3) ((0 : Int64)) I J T P
set_option maxRecDepth 20000 in
theorem tp_X7_tellNumber {d : Nat} {a0 : Int32} {I : Nat → Nat → Int32} {J : Nat → Nat → Int64} {T : Option Nat} {P : Int32 → (Nat → Nat → Int32) → (Nat → Nat → Int64) → Option Nat → Prop} {Q : ix_Q} (h : wp_X7_tellNumber a0 I J T P) (hQ : ∀ v I J T, P v I J T → Q (some (.inl v)) (ix_mem 276 I J T)) : ix_C (d + 2) 104 [.inr (.inr (.inl (some (44)))), .inl (a0)] (ix_mem 276 I J T) Q := by
  unfold wp_X7_tellNumber at h
  refine ix_enter (ls := [some (.inr (.inr (.inl (some (44))))), some (.inl (a0)), none, none, none]) rfl rfl rfl (Nat.le_of_ble_eq_true rfl) ?_
  refine ix_go 5 (x' := (7, [some (.inr (.inr (.inl (some (44))))), some (.inl (a0)), some (.inl (I 44 3)), some (.inr (.inl ((0 : Int64)))), none], [], 0, 0, ix_mem 276 I J T)) rfl ⟨rfl, rfl⟩ ?_
  refine ix_subW ([some (.inr (.inr (.inl (some (44))))), some (.inl (a0)), some (.inl (I 44 3)), some (.inr (.inl ((0 : Int64)))), none]) (ix_subS (ix_subS (ix_subS (ix_subS (ix_subS (ix_sub0)))))) ?_
  exact tl_X7_tellNumber_7 h hQ
def wp_J_isLatin1_s2 (I : Nat → Nat → Int32) (J : Nat → Nat → Int64) (T : Option Nat) (P : Int32 → (Nat → Nat → Int32) → (Nat → Nat → Int64) → Option Nat → Prop) : Prop := P ((1 : Int32)) I J T
set_option maxRecDepth 20000 in
theorem tp_J_isLatin1_s2 {d : Nat} {I : Nat → Nat → Int32} {J : Nat → Nat → Int64} {T : Option Nat} {P : Int32 → (Nat → Nat → Int32) → (Nat → Nat → Int64) → Option Nat → Prop} {Q : ix_Q} (h : wp_J_isLatin1_s2 I J T P) (hQ : ∀ v I J T, P v I J T → Q (some (.inl v)) (ix_mem 276 I J T)) : ix_C (d + 1) 347 [.inr (.inr (.inr 2))] (ix_mem 276 I J T) Q := by
  unfold wp_J_isLatin1_s2 at h
  refine ix_enter (ls := [some (.inr (.inr (.inr 2)))]) rfl rfl rfl (Nat.le_of_ble_eq_true rfl) ?_
  refine ix_go 7 (x' := (18, [some (.inr (.inr (.inr 2)))], [.inl ((1 : Int32))], 0, 0, ix_mem 276 I J T)) rfl ⟨rfl, rfl⟩ ?_
  exact ix_sp rfl ⟨Nat.le_refl _, Nat.le_refl _, ix_01_ok rfl, hQ _ _ _ _ h⟩
def wp_J_coder_s2 (I : Nat → Nat → Int32) (J : Nat → Nat → Int64) (T : Option Nat) (P : Int32 → (Nat → Nat → Int32) → (Nat → Nat → Int64) → Option Nat → Prop) : Prop := ((0 : Int32)).toInt8.toInt32 = (0 : Int32) ∧ P ((0 : Int32)) I J T
set_option maxRecDepth 20000 in
theorem tp_J_coder_s2 {d : Nat} {I : Nat → Nat → Int32} {J : Nat → Nat → Int64} {T : Option Nat} {P : Int32 → (Nat → Nat → Int32) → (Nat → Nat → Int64) → Option Nat → Prop} {Q : ix_Q} (h : wp_J_coder_s2 I J T P) (hQ : ∀ v I J T, P v I J T → Q (some (.inl v)) (ix_mem 276 I J T)) : ix_C (d + 1) 352 [.inr (.inr (.inr 2))] (ix_mem 276 I J T) Q := by
  unfold wp_J_coder_s2 at h
  refine ix_enter (ls := [some (.inr (.inr (.inr 2)))]) rfl rfl rfl (Nat.le_of_ble_eq_true rfl) ?_
  refine ix_go 5 (x' := (14, [some (.inr (.inr (.inr 2)))], [.inl ((0 : Int32))], 0, 0, ix_mem 276 I J T)) rfl ⟨rfl, rfl⟩ ?_
  exact ix_sp rfl ⟨Nat.le_refl _, Nat.le_refl _, h.1, hQ _ _ _ _ h.2⟩
def wp_J_length_s2 (I : Nat → Nat → Int32) (J : Nat → Nat → Int64) (T : Option Nat) (P : Int32 → (Nat → Nat → Int32) → (Nat → Nat → Int64) → Option Nat → Prop) : Prop := wp_J_coder_s2 I J T (fun v1 I1 J1 T1 => P (((12 : Int32)) >>> ((v1) &&& 31)) I1 J1 T1)
set_option maxRecDepth 20000 in
theorem tp_J_length_s2 {d : Nat} {I : Nat → Nat → Int32} {J : Nat → Nat → Int64} {T : Option Nat} {P : Int32 → (Nat → Nat → Int32) → (Nat → Nat → Int64) → Option Nat → Prop} {Q : ix_Q} (h : wp_J_length_s2 I J T P) (hQ : ∀ v I J T, P v I J T → Q (some (.inl v)) (ix_mem 276 I J T)) : ix_C (d + 2) 351 [.inr (.inr (.inr 2))] (ix_mem 276 I J T) Q := by
  unfold wp_J_length_s2 at h
  refine ix_enter (ls := [some (.inr (.inr (.inr 2)))]) rfl rfl rfl (Nat.le_of_ble_eq_true rfl) ?_
  refine ix_go 4 (x' := (6, [some (.inr (.inr (.inr 2)))], [.inr (.inr (.inr 2)), .inl ((12 : Int32))], 0, 0, ix_mem 276 I J T)) rfl ⟨rfl, rfl, rfl, rfl⟩ ?_
  refine ix_sp rfl ⟨rfl, ⟨ix_le rfl, ix_le rfl, rfl⟩, ix_le rfl, Nat.le_refl _, Nat.le_refl _, tp_J_coder_s2 h (fun v1 I1 J1 T1 h1 => ?_)⟩
  change ix_W _ _ _ (9, [some (.inr (.inr (.inr 2)))], [.inl (v1), .inl ((12 : Int32))], 0, 0, ix_mem 276 I1 J1 T1)
  refine ix_go 1 (x' := (10, [some (.inr (.inr (.inr 2)))], [.inl (((12 : Int32)) >>> ((v1) &&& 31))], 0, 0, ix_mem 276 I1 J1 T1)) rfl trivial ?_
  exact ix_sp rfl ⟨Nat.le_refl _, Nat.le_refl _, trivial, hQ _ _ _ _ h1⟩
def wp_J_canEncode (a0 : Int32) (I : Nat → Nat → Int32) (J : Nat → Nat → Int64) (T : Option Nat) (P : Int32 → (Nat → Nat → Int32) → (Nat → Nat → Int64) → Option Nat → Prop) : Prop := ((a0 < 0 → P ((0 : Int32)) I J T) ∧ (¬ (a0 < 0) → ((a0 ≤ (255 : Int32) → P ((1 : Int32)) I J T) ∧ (¬ (a0 ≤ (255 : Int32)) → P ((0 : Int32)) I J T))))
set_option maxRecDepth 20000 in
theorem tp_J_canEncode {d : Nat} {a0 : Int32} {I : Nat → Nat → Int32} {J : Nat → Nat → Int64} {T : Option Nat} {P : Int32 → (Nat → Nat → Int32) → (Nat → Nat → Int64) → Option Nat → Prop} {Q : ix_Q} (h : wp_J_canEncode a0 I J T P) (hQ : ∀ v I J T, P v I J T → Q (some (.inl v)) (ix_mem 276 I J T)) : ix_C (d + 1) 354 [.inl (a0)] (ix_mem 276 I J T) Q := by
  unfold wp_J_canEncode at h
  refine ix_enter (ls := [some (.inl (a0))]) rfl rfl rfl (Nat.le_of_ble_eq_true rfl) ?_
  refine ix_go 2 (x' := (if a0 < 0 then 15 else 4, [some (.inl (a0))], [], 0, 0, ix_mem 276 I J T)) rfl trivial ?_
  refine ix_br (fun c1 => ?_) (fun c1 => ?_)
  · have h2 := h.1 c1
    refine ix_go 1 (x' := (16, [some (.inl (a0))], [.inl ((0 : Int32))], 0, 0, ix_mem 276 I J T)) rfl trivial ?_
    exact ix_sp rfl ⟨Nat.le_refl _, Nat.le_refl _, ix_01_ok rfl, hQ _ _ _ _ h2⟩
  · have h2 := h.2 c1
    refine ix_go 3 (x' := (if a0 ≤ (255 : Int32) then 11 else 15, [some (.inl (a0))], [], 0, 0, ix_mem 276 I J T)) rfl trivial ?_
    refine ix_br (fun c3 => ?_) (fun c3 => ?_)
    · have h4 := h2.1 c3
      refine ix_go 2 (x' := (16, [some (.inl (a0))], [.inl ((1 : Int32))], 0, 0, ix_mem 276 I J T)) rfl trivial ?_
      exact ix_sp rfl ⟨Nat.le_refl _, Nat.le_refl _, ix_01_ok rfl, hQ _ _ _ _ h4⟩
    · have h4 := h2.2 c3
      refine ix_go 1 (x' := (16, [some (.inl (a0))], [.inl ((0 : Int32))], 0, 0, ix_mem 276 I J T)) rfl trivial ?_
      exact ix_sp rfl ⟨Nat.le_refl _, Nat.le_refl _, ix_01_ok rfl, hQ _ _ _ _ h4⟩
def wp_J9_max_7cf53 (a0 : Int32) (a1 : Int32) (I : Nat → Nat → Int32) (J : Nat → Nat → Int64) (T : Option Nat) (P : Int32 → (Nat → Nat → Int32) → (Nat → Nat → Int64) → Option Nat → Prop) : Prop := ((a0 < a1 → P (a1) I J T) ∧ (¬ (a0 < a1) → P (a0) I J T))
set_option maxRecDepth 20000 in
theorem tp_J9_max_7cf53 {d : Nat} {a0 : Int32} {a1 : Int32} {I : Nat → Nat → Int32} {J : Nat → Nat → Int64} {T : Option Nat} {P : Int32 → (Nat → Nat → Int32) → (Nat → Nat → Int64) → Option Nat → Prop} {Q : ix_Q} (h : wp_J9_max_7cf53 a0 a1 I J T P) (hQ : ∀ v I J T, P v I J T → Q (some (.inl v)) (ix_mem 276 I J T)) : ix_C (d + 1) 342 [.inl (a0), .inl (a1)] (ix_mem 276 I J T) Q := by
  unfold wp_J9_max_7cf53 at h
  refine ix_enter (ls := [some (.inl (a0)), some (.inl (a1))]) rfl rfl rfl (Nat.le_of_ble_eq_true rfl) ?_
  refine ix_go 3 (x' := (if a0 < a1 then 9 else 5, [some (.inl (a0)), some (.inl (a1))], [], 0, 0, ix_mem 276 I J T)) rfl trivial ?_
  refine ix_br (fun c1 => ?_) (fun c1 => ?_)
  · have h2 := h.1 c1
    refine ix_go 1 (x' := (10, [some (.inl (a0)), some (.inl (a1))], [.inl (a1)], 0, 0, ix_mem 276 I J T)) rfl trivial ?_
    exact ix_sp rfl ⟨Nat.le_refl _, Nat.le_refl _, trivial, hQ _ _ _ _ h2⟩
  · have h2 := h.2 c1
    refine ix_go 2 (x' := (10, [some (.inl (a0)), some (.inl (a1))], [.inl (a0)], 0, 0, ix_mem 276 I J T)) rfl trivial ?_
    exact ix_sp rfl ⟨Nat.le_refl _, Nat.le_refl _, trivial, hQ _ _ _ _ h2⟩
def wb_J_indexOfChar_rs6_7 (x3 : Int32) (x4 : Int32) (x5 : Int32) (I : Nat → Nat → Int32) (J : Nat → Nat → Int64) (T : Option Nat) (V7 : Int32 → Int32 → Int32 → (Nat → Nat → Int32) → (Nat → Nat → Int64) → Option Nat → Prop) (P : Int32 → (Nat → Nat → Int32) → (Nat → Nat → Int64) → Option Nat → Prop) : Prop := ((x5 < x3 → ix_inb (x5) 12 = true ∧ (((ix_sbyt.getD 1 []).getD (x5).toNatClampNeg 0 = x4 → P (x5) I J T) ∧ (¬ ((ix_sbyt.getD 1 []).getD (x5).toNatClampNeg 0 = x4) → V7 (x3) (x4) (x5 + (1 : Int32)) I J T))) ∧ (¬ (x5 < x3) → P ((-1 : Int32)) I J T))
def wl_J_indexOfChar_rs6_7 (x3 : Int32) (x4 : Int32) (x5 : Int32) (I : Nat → Nat → Int32) (J : Nat → Nat → Int64) (T : Option Nat) (P : Int32 → (Nat → Nat → Int32) → (Nat → Nat → Int64) → Option Nat → Prop) : Prop := ∀ V : Int32 → Int32 → Int32 → (Nat → Nat → Int32) → (Nat → Nat → Int64) → Option Nat → Prop, (∀ (x3 : Int32) (x4 : Int32) (x5 : Int32) (I : Nat → Nat → Int32) (J : Nat → Nat → Int64) (T : Option Nat), wb_J_indexOfChar_rs6_7 x3 x4 x5 I J T V P → V x3 x4 x5 I J T) → V x3 x4 x5 I J T
set_option maxRecDepth 20000 in
theorem tl_J_indexOfChar_rs6_7 {d : Nat} {x3 : Int32} {x4 : Int32} {x5 : Int32} {I : Nat → Nat → Int32} {J : Nat → Nat → Int64} {T : Option Nat} {P : Int32 → (Nat → Nat → Int32) → (Nat → Nat → Int64) → Option Nat → Prop} {Q : ix_Q} (h : wl_J_indexOfChar_rs6_7 x3 x4 x5 I J T P) (hQ : ∀ v I J T, P v I J T → Q (some (.inl v)) (ix_mem 276 I J T)) : ix_W (ix_C d) (16, ix_lk ix_l355, (some .int), 0, 0, Nat.blt 0 0, none) Q (7, [some (.inr (.inr (.inr 6))), none, none, some (.inl (x3)), some (.inl (x4)), some (.inl (x5))], [], 0, 0, ix_mem 276 I J T) := by
  refine h (fun x3 x4 x5 I J T => ix_W (ix_C d) (16, ix_lk ix_l355, (some .int), 0, 0, Nat.blt 0 0, none) Q (7, [some (.inr (.inr (.inr 6))), none, none, some (.inl (x3)), some (.inl (x4)), some (.inl (x5))], [], 0, 0, ix_mem 276 I J T)) ?_
  intro x3 x4 x5 I J T hb
  unfold wb_J_indexOfChar_rs6_7 at hb
  refine ix_go 3 (x' := (if x5 < x3 then 13 else 31, [some (.inr (.inr (.inr 6))), none, none, some (.inl (x3)), some (.inl (x4)), some (.inl (x5))], [], 0, 0, ix_mem 276 I J T)) rfl trivial ?_
  refine ix_br (fun c1 => ?_) (fun c1 => ?_)
  · have h2 := hb.1 c1
    obtain ⟨p3, h4⟩ := h2
    refine ix_go 5 (x' := (if (ix_sbyt.getD 1 []).getD (x5).toNatClampNeg 0 = x4 then 22 else 25, [some (.inr (.inr (.inr 6))), none, none, some (.inl (x3)), some (.inl (x4)), some (.inl (x5))], [], 0, 0, ix_mem 276 I J T)) rfl ⟨rfl, rfl, p3⟩ ?_
    refine ix_br (fun c5 => ?_) (fun c5 => ?_)
    · have h6 := h4.1 c5
      refine ix_go 1 (x' := (24, [some (.inr (.inr (.inr 6))), none, none, some (.inl (x3)), some (.inl (x4)), some (.inl (x5))], [.inl (x5)], 0, 0, ix_mem 276 I J T)) rfl trivial ?_
      exact ix_sp rfl ⟨Nat.le_refl _, Nat.le_refl _, trivial, hQ _ _ _ _ h6⟩
    · have h6 := h4.2 c5
      refine ix_go 2 (x' := (7, [some (.inr (.inr (.inr 6))), none, none, some (.inl (x3)), some (.inl (x4)), some (.inl (x5 + (1 : Int32)))], [], 0, 0, ix_mem 276 I J T)) rfl trivial ?_
      refine ix_subW ([some (.inr (.inr (.inr 6))), none, none, some (.inl (x3)), some (.inl (x4)), some (.inl (x5 + (1 : Int32)))]) (ix_subS (ix_subS (ix_subS (ix_subS (ix_subS (ix_subS (ix_sub0))))))) ?_
      exact h6
  · have h2 := hb.2 c1
    refine ix_go 1 (x' := (32, [some (.inr (.inr (.inr 6))), none, none, some (.inl (x3)), some (.inl (x4)), some (.inl (x5))], [.inl ((-1 : Int32))], 0, 0, ix_mem 276 I J T)) rfl trivial ?_
    exact ix_sp rfl ⟨Nat.le_refl _, Nat.le_refl _, trivial, hQ _ _ _ _ h2⟩
def wp_J_indexOfChar_rs6 (a1 : Int32) (a2 : Int32) (a3 : Int32) (I : Nat → Nat → Int32) (J : Nat → Nat → Int64) (T : Option Nat) (P : Int32 → (Nat → Nat → Int32) → (Nat → Nat → Int64) → Option Nat → Prop) : Prop := wl_J_indexOfChar_rs6_7 (a3) ((a1).toInt8.toInt32) (a2) I J T P
set_option maxRecDepth 20000 in
theorem tp_J_indexOfChar_rs6 {d : Nat} {a1 : Int32} {a2 : Int32} {a3 : Int32} {I : Nat → Nat → Int32} {J : Nat → Nat → Int64} {T : Option Nat} {P : Int32 → (Nat → Nat → Int32) → (Nat → Nat → Int64) → Option Nat → Prop} {Q : ix_Q} (h : wp_J_indexOfChar_rs6 a1 a2 a3 I J T P) (hQ : ∀ v I J T, P v I J T → Q (some (.inl v)) (ix_mem 276 I J T)) : ix_C (d + 1) 355 [.inr (.inr (.inr 6)), .inl (a1), .inl (a2), .inl (a3)] (ix_mem 276 I J T) Q := by
  unfold wp_J_indexOfChar_rs6 at h
  refine ix_enter (ls := [some (.inr (.inr (.inr 6))), some (.inl (a1)), some (.inl (a2)), some (.inl (a3)), none, none]) rfl rfl rfl (Nat.le_of_ble_eq_true rfl) ?_
  refine ix_go 5 (x' := (7, [some (.inr (.inr (.inr 6))), some (.inl (a1)), some (.inl (a2)), some (.inl (a3)), some (.inl ((a1).toInt8.toInt32)), some (.inl (a2))], [], 0, 0, ix_mem 276 I J T)) rfl trivial ?_
  refine ix_subW ([some (.inr (.inr (.inr 6))), none, none, some (.inl (a3)), some (.inl ((a1).toInt8.toInt32)), some (.inl (a2))]) (ix_subS (ix_subN (ix_subN (ix_subS (ix_subS (ix_subS (ix_sub0))))))) ?_
  exact tl_J_indexOfChar_rs6_7 h hQ
def wp_J_lindexOf_rs6 (a1 : Int32) (a2 : Int32) (a3 : Int32) (I : Nat → Nat → Int32) (J : Nat → Nat → Int64) (T : Option Nat) (P : Int32 → (Nat → Nat → Int32) → (Nat → Nat → Int64) → Option Nat → Prop) : Prop := wp_J_canEncode (a1) I J T (fun v1 I1 J1 T1 => ((v1 = 0 → P ((-1 : Int32)) I1 J1 T1) ∧ (¬ (v1 = 0) → wp_J9_max_7cf53 (a2) ((0 : Int32)) I1 J1 T1 (fun v4 I4 J4 T4 => wp_J9_min_7cf53 (a3) ((12 : Int32)) I4 J4 T4 (fun v5 I5 J5 T5 => ((v4 < v5 → wp_J_indexOfChar_rs6 (a1) (v4) (v5) I5 J5 T5 (fun v8 I8 J8 T8 => P (v8) I8 J8 T8)) ∧ (¬ (v4 < v5) → P ((-1 : Int32)) I5 J5 T5)))))))
set_option maxRecDepth 20000 in
theorem tp_J_lindexOf_rs6 {d : Nat} {a1 : Int32} {a2 : Int32} {a3 : Int32} {I : Nat → Nat → Int32} {J : Nat → Nat → Int64} {T : Option Nat} {P : Int32 → (Nat → Nat → Int32) → (Nat → Nat → Int64) → Option Nat → Prop} {Q : ix_Q} (h : wp_J_lindexOf_rs6 a1 a2 a3 I J T P) (hQ : ∀ v I J T, P v I J T → Q (some (.inl v)) (ix_mem 276 I J T)) : ix_C (d + 2) 353 [.inr (.inr (.inr 6)), .inl (a1), .inl (a2), .inl (a3)] (ix_mem 276 I J T) Q := by
  unfold wp_J_lindexOf_rs6 at h
  refine ix_enter (ls := [some (.inr (.inr (.inr 6))), some (.inl (a1)), some (.inl (a2)), some (.inl (a3))]) rfl rfl rfl (Nat.le_of_ble_eq_true rfl) ?_
  refine ix_go 1 (x' := (1, [some (.inr (.inr (.inr 6))), some (.inl (a1)), some (.inl (a2)), some (.inl (a3))], [.inl (a1)], 0, 0, ix_mem 276 I J T)) rfl trivial ?_
  refine ix_sp rfl ⟨rfl, trivial, ix_le rfl, Nat.le_refl _, Nat.le_refl _, tp_J_canEncode h (fun v1 I1 J1 T1 h1 => ?_)⟩
  change ix_W _ _ _ (4, [some (.inr (.inr (.inr 6))), some (.inl (a1)), some (.inl (a2)), some (.inl (a3))], [.inl (v1)], 0, 0, ix_mem 276 I1 J1 T1)
  refine ix_go 1 (x' := (if v1 = 0 then 7 else 9, [some (.inr (.inr (.inr 6))), some (.inl (a1)), some (.inl (a2)), some (.inl (a3))], [], 0, 0, ix_mem 276 I1 J1 T1)) rfl trivial ?_
  refine ix_br (fun c2 => ?_) (fun c2 => ?_)
  · have h3 := h1.1 c2
    refine ix_go 1 (x' := (8, [some (.inr (.inr (.inr 6))), some (.inl (a1)), some (.inl (a2)), some (.inl (a3))], [.inl ((-1 : Int32))], 0, 0, ix_mem 276 I1 J1 T1)) rfl trivial ?_
    exact ix_sp rfl ⟨Nat.le_refl _, Nat.le_refl _, trivial, hQ _ _ _ _ h3⟩
  · have h3 := h1.2 c2
    refine ix_go 2 (x' := (11, [some (.inr (.inr (.inr 6))), some (.inl (a1)), some (.inl (a2)), some (.inl (a3))], [.inl ((0 : Int32)), .inl (a2)], 0, 0, ix_mem 276 I1 J1 T1)) rfl trivial ?_
    refine ix_sp rfl ⟨rfl, trivial, ix_le rfl, Nat.le_refl _, Nat.le_refl _, tp_J9_max_7cf53 h3 (fun v4 I4 J4 T4 h4 => ?_)⟩
    change ix_W _ _ _ (14, [some (.inr (.inr (.inr 6))), some (.inl (a1)), some (.inl (a2)), some (.inl (a3))], [.inl (v4)], 0, 0, ix_mem 276 I4 J4 T4)
    refine ix_go 4 (x' := (18, [some (.inr (.inr (.inr 6))), some (.inl (a1)), some (.inl (v4)), some (.inl (a3))], [.inl ((12 : Int32)), .inl (a3)], 0, 0, ix_mem 276 I4 J4 T4)) rfl ⟨rfl, rfl⟩ ?_
    refine ix_sp rfl ⟨rfl, trivial, ix_le rfl, Nat.le_refl _, Nat.le_refl _, tp_J9_min_7cf53 h4 (fun v5 I5 J5 T5 h5 => ?_)⟩
    change ix_W _ _ _ (21, [some (.inr (.inr (.inr 6))), some (.inl (a1)), some (.inl (v4)), some (.inl (a3))], [.inl (v5)], 0, 0, ix_mem 276 I5 J5 T5)
    refine ix_go 4 (x' := (if v4 < v5 then 29 else 27, [some (.inr (.inr (.inr 6))), some (.inl (a1)), some (.inl (v4)), some (.inl (v5))], [], 0, 0, ix_mem 276 I5 J5 T5)) rfl trivial ?_
    refine ix_br (fun c6 => ?_) (fun c6 => ?_)
    · have h7 := h5.1 c6
      refine ix_go 4 (x' := (33, [some (.inr (.inr (.inr 6))), some (.inl (a1)), some (.inl (v4)), some (.inl (v5))], [.inl (v5), .inl (v4), .inl (a1), .inr (.inr (.inr 6))], 0, 0, ix_mem 276 I5 J5 T5)) rfl trivial ?_
      refine ix_sp rfl ⟨rfl, trivial, ix_le rfl, Nat.le_refl _, Nat.le_refl _, tp_J_indexOfChar_rs6 h7 (fun v8 I8 J8 T8 h8 => ?_)⟩
      change ix_W _ _ _ (36, [some (.inr (.inr (.inr 6))), some (.inl (a1)), some (.inl (v4)), some (.inl (v5))], [.inl (v8)], 0, 0, ix_mem 276 I8 J8 T8)
      exact ix_sp rfl ⟨Nat.le_refl _, Nat.le_refl _, trivial, hQ _ _ _ _ h8⟩
    · have h7 := h5.2 c6
      refine ix_go 1 (x' := (28, [some (.inr (.inr (.inr 6))), some (.inl (a1)), some (.inl (v4)), some (.inl (v5))], [.inl ((-1 : Int32))], 0, 0, ix_mem 276 I5 J5 T5)) rfl trivial ?_
      exact ix_sp rfl ⟨Nat.le_refl _, Nat.le_refl _, trivial, hQ _ _ _ _ h7⟩
