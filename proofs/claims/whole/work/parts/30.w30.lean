def wp_X12_isSign (a0 : Int32) (I : Nat → Nat → Int32) (J : Nat → Nat → Int64) (T : Option Nat) (P : Int32 → (Nat → Nat → Int32) → (Nat → Nat → Int64) → Option Nat → Prop) : Prop := ((I 204 17 = (4 : Int32) → ((lg_cmp (J 204 23) ((a0).toInt64) = 0 → P ((1 : Int32)) I J T) ∧ (¬ (lg_cmp (J 204 23) ((a0).toInt64) = 0) → P ((0 : Int32)) I J T))) ∧ (¬ (I 204 17 = (4 : Int32)) → P ((0 : Int32)) I J T))
set_option maxRecDepth 20000 in
theorem tp_X12_isSign {d : Nat} {a0 : Int32} {I : Nat → Nat → Int32} {J : Nat → Nat → Int64} {T : Option Nat} {P : Int32 → (Nat → Nat → Int32) → (Nat → Nat → Int64) → Option Nat → Prop} {Q : ix_Q} (h : wp_X12_isSign a0 I J T P) (hQ : ∀ v I J T, P v I J T → Q (some (.inl v)) (ix_mem 276 I J T)) : ix_C (d + 1) 257 [.inr (.inr (.inl (some (204)))), .inl (a0)] (ix_mem 276 I J T) Q := by
  unfold wp_X12_isSign at h
  refine ix_enter (ls := [some (.inr (.inr (.inl (some (204))))), some (.inl (a0))]) rfl rfl rfl (Nat.le_of_ble_eq_true rfl) ?_
  refine ix_go 4 (x' := (if I 204 17 = (4 : Int32) then 8 else 22, [some (.inr (.inr (.inl (some (204))))), some (.inl (a0))], [], 0, 0, ix_mem 276 I J T)) rfl ⟨rfl, rfl⟩ ?_
  refine ix_br (fun c1 => ?_) (fun c1 => ?_)
  · have h2 := h.1 c1
    refine ix_go 6 (x' := (if lg_cmp (J 204 23) ((a0).toInt64) = 0 then 18 else 22, [some (.inr (.inr (.inl (some (204))))), some (.inl (a0))], [], 0, 0, ix_mem 276 I J T)) rfl ⟨rfl, rfl⟩ ?_
    refine ix_br (fun c3 => ?_) (fun c3 => ?_)
    · have h4 := h2.1 c3
      refine ix_go 2 (x' := (23, [some (.inr (.inr (.inl (some (204))))), some (.inl (a0))], [.inl ((1 : Int32))], 0, 0, ix_mem 276 I J T)) rfl trivial ?_
      exact ix_sp rfl ⟨Nat.le_refl _, Nat.le_refl _, ix_01_ok rfl, hQ _ _ _ _ h4⟩
    · have h4 := h2.2 c3
      refine ix_go 1 (x' := (23, [some (.inr (.inr (.inl (some (204))))), some (.inl (a0))], [.inl ((0 : Int32))], 0, 0, ix_mem 276 I J T)) rfl trivial ?_
      exact ix_sp rfl ⟨Nat.le_refl _, Nat.le_refl _, ix_01_ok rfl, hQ _ _ _ _ h4⟩
  · have h2 := h.2 c1
    refine ix_go 1 (x' := (23, [some (.inr (.inr (.inl (some (204))))), some (.inl (a0))], [.inl ((0 : Int32))], 0, 0, ix_mem 276 I J T)) rfl trivial ?_
    exact ix_sp rfl ⟨Nat.le_refl _, Nat.le_refl _, ix_01_ok rfl, hQ _ _ _ _ h2⟩
def wp_J_coder_s3 (I : Nat → Nat → Int32) (J : Nat → Nat → Int64) (T : Option Nat) (P : Int32 → (Nat → Nat → Int32) → (Nat → Nat → Int64) → Option Nat → Prop) : Prop := ((0 : Int32)).toInt8.toInt32 = (0 : Int32) ∧ P ((0 : Int32)) I J T
set_option maxRecDepth 20000 in
theorem tp_J_coder_s3 {d : Nat} {I : Nat → Nat → Int32} {J : Nat → Nat → Int64} {T : Option Nat} {P : Int32 → (Nat → Nat → Int32) → (Nat → Nat → Int64) → Option Nat → Prop} {Q : ix_Q} (h : wp_J_coder_s3 I J T P) (hQ : ∀ v I J T, P v I J T → Q (some (.inl v)) (ix_mem 276 I J T)) : ix_C (d + 1) 352 [.inr (.inr (.inr 3))] (ix_mem 276 I J T) Q := by
  unfold wp_J_coder_s3 at h
  refine ix_enter (ls := [some (.inr (.inr (.inr 3)))]) rfl rfl rfl (Nat.le_of_ble_eq_true rfl) ?_
  refine ix_go 5 (x' := (14, [some (.inr (.inr (.inr 3)))], [.inl ((0 : Int32))], 0, 0, ix_mem 276 I J T)) rfl ⟨rfl, rfl⟩ ?_
  exact ix_sp rfl ⟨Nat.le_refl _, Nat.le_refl _, h.1, hQ _ _ _ _ h.2⟩
def wp_J_length_s3 (I : Nat → Nat → Int32) (J : Nat → Nat → Int64) (T : Option Nat) (P : Int32 → (Nat → Nat → Int32) → (Nat → Nat → Int64) → Option Nat → Prop) : Prop := wp_J_coder_s3 I J T (fun v1 I1 J1 T1 => P (((52 : Int32)) >>> ((v1) &&& 31)) I1 J1 T1)
set_option maxRecDepth 20000 in
theorem tp_J_length_s3 {d : Nat} {I : Nat → Nat → Int32} {J : Nat → Nat → Int64} {T : Option Nat} {P : Int32 → (Nat → Nat → Int32) → (Nat → Nat → Int64) → Option Nat → Prop} {Q : ix_Q} (h : wp_J_length_s3 I J T P) (hQ : ∀ v I J T, P v I J T → Q (some (.inl v)) (ix_mem 276 I J T)) : ix_C (d + 2) 351 [.inr (.inr (.inr 3))] (ix_mem 276 I J T) Q := by
  unfold wp_J_length_s3 at h
  refine ix_enter (ls := [some (.inr (.inr (.inr 3)))]) rfl rfl rfl (Nat.le_of_ble_eq_true rfl) ?_
  refine ix_go 4 (x' := (6, [some (.inr (.inr (.inr 3)))], [.inr (.inr (.inr 3)), .inl ((52 : Int32))], 0, 0, ix_mem 276 I J T)) rfl ⟨rfl, rfl, rfl, rfl⟩ ?_
  refine ix_sp rfl ⟨rfl, ⟨ix_le rfl, ix_le rfl, rfl⟩, ix_le rfl, Nat.le_refl _, Nat.le_refl _, tp_J_coder_s3 h (fun v1 I1 J1 T1 h1 => ?_)⟩
  change ix_W _ _ _ (9, [some (.inr (.inr (.inr 3)))], [.inl (v1), .inl ((52 : Int32))], 0, 0, ix_mem 276 I1 J1 T1)
  refine ix_go 1 (x' := (10, [some (.inr (.inr (.inr 3)))], [.inl (((52 : Int32)) >>> ((v1) &&& 31))], 0, 0, ix_mem 276 I1 J1 T1)) rfl trivial ?_
  exact ix_sp rfl ⟨Nat.le_refl _, Nat.le_refl _, trivial, hQ _ _ _ _ h1⟩
def wp_J_isLatin1_s3 (I : Nat → Nat → Int32) (J : Nat → Nat → Int64) (T : Option Nat) (P : Int32 → (Nat → Nat → Int32) → (Nat → Nat → Int64) → Option Nat → Prop) : Prop := P ((1 : Int32)) I J T
set_option maxRecDepth 20000 in
theorem tp_J_isLatin1_s3 {d : Nat} {I : Nat → Nat → Int32} {J : Nat → Nat → Int64} {T : Option Nat} {P : Int32 → (Nat → Nat → Int32) → (Nat → Nat → Int64) → Option Nat → Prop} {Q : ix_Q} (h : wp_J_isLatin1_s3 I J T P) (hQ : ∀ v I J T, P v I J T → Q (some (.inl v)) (ix_mem 276 I J T)) : ix_C (d + 1) 347 [.inr (.inr (.inr 3))] (ix_mem 276 I J T) Q := by
  unfold wp_J_isLatin1_s3 at h
  refine ix_enter (ls := [some (.inr (.inr (.inr 3)))]) rfl rfl rfl (Nat.le_of_ble_eq_true rfl) ?_
  refine ix_go 7 (x' := (18, [some (.inr (.inr (.inr 3)))], [.inl ((1 : Int32))], 0, 0, ix_mem 276 I J T)) rfl ⟨rfl, rfl⟩ ?_
  exact ix_sp rfl ⟨Nat.le_refl _, Nat.le_refl _, ix_01_ok rfl, hQ _ _ _ _ h⟩
def wp_J_lcharAt_rs7 (a1 : Int32) (I : Nat → Nat → Int32) (J : Nat → Nat → Int64) (T : Option Nat) (P : Int32 → (Nat → Nat → Int32) → (Nat → Nat → Int64) → Option Nat → Prop) : Prop := (¬ (a1) < 0 ∧ (a1) < ((52 : Int32))) ∧ ix_inb (a1) 52 = true ∧ (((((ix_sbyt.getD 2 []).getD (a1).toNatClampNeg 0) &&& ((255 : Int32))).toUInt32 % 65536).toInt32).toUInt32.toUInt16.toUInt32.toInt32 = ((((ix_sbyt.getD 2 []).getD (a1).toNatClampNeg 0) &&& ((255 : Int32))).toUInt32 % 65536).toInt32 ∧ P (((((ix_sbyt.getD 2 []).getD (a1).toNatClampNeg 0) &&& ((255 : Int32))).toUInt32 % 65536).toInt32) I J T
set_option maxRecDepth 20000 in
theorem tp_J_lcharAt_rs7 {d : Nat} {a1 : Int32} {I : Nat → Nat → Int32} {J : Nat → Nat → Int64} {T : Option Nat} {P : Int32 → (Nat → Nat → Int32) → (Nat → Nat → Int64) → Option Nat → Prop} {Q : ix_Q} (h : wp_J_lcharAt_rs7 a1 I J T P) (hQ : ∀ v I J T, P v I J T → Q (some (.inl v)) (ix_mem 276 I J T)) : ix_C (d + 1) 348 [.inr (.inr (.inr 7)), .inl (a1)] (ix_mem 276 I J T) Q := by
  unfold wp_J_lcharAt_rs7 at h
  refine ix_enter (ls := [some (.inr (.inr (.inr 7))), some (.inl (a1))]) rfl rfl rfl (Nat.le_of_ble_eq_true rfl) ?_
  refine ix_go 3 (x' := (3, [some (.inr (.inr (.inr 7))), some (.inl (a1))], [.inl ((52 : Int32)), .inl (a1)], 0, 0, ix_mem 276 I J T)) rfl ⟨rfl, rfl⟩ ?_
  obtain ⟨p1, h2⟩ := h
  refine ix_sp rfl ⟨ix_le rfl, ⟨Nat.zero_le _, Nat.zero_le _⟩, p1, ?_⟩
  change ix_W _ _ _ (6, [some (.inr (.inr (.inr 7))), some (.inl (a1))], [], 0, 0, ix_mem 276 I J T)
  obtain ⟨p3, h4⟩ := h2
  refine ix_go 6 (x' := (14, [some (.inr (.inr (.inr 7))), some (.inl (a1))], [.inl (((((ix_sbyt.getD 2 []).getD (a1).toNatClampNeg 0) &&& ((255 : Int32))).toUInt32 % 65536).toInt32)], 0, 0, ix_mem 276 I J T)) rfl ⟨rfl, rfl, p3⟩ ?_
  exact ix_sp rfl ⟨Nat.le_refl _, Nat.le_refl _, h4.1, hQ _ _ _ _ h4.2⟩
def wp_J_charAt_s3 (a0 : Int32) (I : Nat → Nat → Int32) (J : Nat → Nat → Int64) (T : Option Nat) (P : Int32 → (Nat → Nat → Int32) → (Nat → Nat → Int64) → Option Nat → Prop) : Prop := wp_J_isLatin1_s3 I J T (fun v1 I1 J1 T1 => ((v1 = 0 → False) ∧ (¬ (v1 = 0) → wp_J_lcharAt_rs7 (a0) I1 J1 T1 (fun v4 I4 J4 T4 => (v4).toUInt32.toUInt16.toUInt32.toInt32 = v4 ∧ P (v4) I4 J4 T4))))
set_option maxRecDepth 20000 in
theorem tp_J_charAt_s3 {d : Nat} {a0 : Int32} {I : Nat → Nat → Int32} {J : Nat → Nat → Int64} {T : Option Nat} {P : Int32 → (Nat → Nat → Int32) → (Nat → Nat → Int64) → Option Nat → Prop} {Q : ix_Q} (h : wp_J_charAt_s3 a0 I J T P) (hQ : ∀ v I J T, P v I J T → Q (some (.inl v)) (ix_mem 276 I J T)) : ix_C (d + 2) 346 [.inr (.inr (.inr 3)), .inl (a0)] (ix_mem 276 I J T) Q := by
  unfold wp_J_charAt_s3 at h
  refine ix_enter (ls := [some (.inr (.inr (.inr 3))), some (.inl (a0))]) rfl rfl rfl (Nat.le_of_ble_eq_true rfl) ?_
  refine ix_go 1 (x' := (1, [some (.inr (.inr (.inr 3))), some (.inl (a0))], [.inr (.inr (.inr 3))], 0, 0, ix_mem 276 I J T)) rfl trivial ?_
  refine ix_sp rfl ⟨rfl, ⟨ix_le rfl, ix_le rfl, rfl⟩, ix_le rfl, Nat.le_refl _, Nat.le_refl _, tp_J_isLatin1_s3 h (fun v1 I1 J1 T1 h1 => ?_)⟩
  change ix_W _ _ _ (4, [some (.inr (.inr (.inr 3))), some (.inl (a0))], [.inl (v1)], 0, 0, ix_mem 276 I1 J1 T1)
  refine ix_go 1 (x' := (if v1 = 0 then 16 else 7, [some (.inr (.inr (.inr 3))), some (.inl (a0))], [], 0, 0, ix_mem 276 I1 J1 T1)) rfl trivial ?_
  refine ix_br (fun c2 => ?_) (fun c2 => ?_)
  · have h3 := h1.1 c2
    refine ix_go 3 (x' := (21, [some (.inr (.inr (.inr 3))), some (.inl (a0))], [.inl (a0), .inr (.inr (.inr 7))], 0, 0, ix_mem 276 I1 J1 T1)) rfl ⟨rfl, rfl⟩ ?_
    exact h3.elim
  · have h3 := h1.2 c2
    refine ix_go 3 (x' := (12, [some (.inr (.inr (.inr 3))), some (.inl (a0))], [.inl (a0), .inr (.inr (.inr 7))], 0, 0, ix_mem 276 I1 J1 T1)) rfl ⟨rfl, rfl⟩ ?_
    refine ix_sp rfl ⟨rfl, trivial, ix_le rfl, Nat.le_refl _, Nat.le_refl _, tp_J_lcharAt_rs7 h3 (fun v4 I4 J4 T4 h4 => ?_)⟩
    change ix_W _ _ _ (15, [some (.inr (.inr (.inr 3))), some (.inl (a0))], [.inl (v4)], 0, 0, ix_mem 276 I4 J4 T4)
    exact ix_sp rfl ⟨Nat.le_refl _, Nat.le_refl _, h4.1, hQ _ _ _ _ h4.2⟩
def wb_X12_inWords_rs3_68_14_25_cs3 (x2 : Int32) (x3 : Int32) (x4 : Int32) (x5 : Int32) (x6 : Int32) (I : Nat → Nat → Int32) (J : Nat → Nat → Int64) (T : Option Nat) (V68 : Int32 → Int32 → Int32 → Int32 → Int32 → (Nat → Nat → Int32) → (Nat → Nat → Int64) → Option Nat → Prop) (V14 : Int32 → Int32 → (Nat → Nat → Int32) → (Nat → Nat → Int64) → Option Nat → Prop) (V25 : Int32 → Int32 → Int32 → (Nat → Nat → Int32) → (Nat → Nat → Int64) → Option Nat → Prop) (P : Int32 → (Nat → Nat → Int32) → (Nat → Nat → Int64) → Option Nat → Prop) : Prop := ((x6 < x4 → ((x5 = 0 → ((x5 = 0 → V14 (x2 + (1 : Int32)) ((x4) + ((1 : Int32))) I J T) ∧ (¬ (x5 = 0) → P (x2) I J T))) ∧ (¬ (x5 = 0) → wp_J_charAt_s3 (x6) I J T (fun v17 I17 J17 T17 => wp_X12_at (((I17 204 18) + (x6)) - (x3)) I17 J17 T17 (fun v18 I18 J18 T18 => ((v17 = v18 → V68 (x2) (x3) (x4) ((1 : Int32)) (x6 + (1 : Int32)) I18 J18 T18) ∧ (¬ (v17 = v18) → V68 (x2) (x3) (x4) ((0 : Int32)) (x6 + (1 : Int32)) I18 J18 T18))))))) ∧ (¬ (x6 < x4) → ((x5 = 0 → V14 (x2 + (1 : Int32)) ((x4) + ((1 : Int32))) I J T) ∧ (¬ (x5 = 0) → P (x2) I J T))))
def wl_X12_inWords_rs3_68_14_25_cs3 (x2 : Int32) (x3 : Int32) (x4 : Int32) (x5 : Int32) (x6 : Int32) (I : Nat → Nat → Int32) (J : Nat → Nat → Int64) (T : Option Nat) (V14 : Int32 → Int32 → (Nat → Nat → Int32) → (Nat → Nat → Int64) → Option Nat → Prop) (V25 : Int32 → Int32 → Int32 → (Nat → Nat → Int32) → (Nat → Nat → Int64) → Option Nat → Prop) (P : Int32 → (Nat → Nat → Int32) → (Nat → Nat → Int64) → Option Nat → Prop) : Prop := ∀ V : Int32 → Int32 → Int32 → Int32 → Int32 → (Nat → Nat → Int32) → (Nat → Nat → Int64) → Option Nat → Prop, (∀ (x2 : Int32) (x3 : Int32) (x4 : Int32) (x5 : Int32) (x6 : Int32) (I : Nat → Nat → Int32) (J : Nat → Nat → Int64) (T : Option Nat), wb_X12_inWords_rs3_68_14_25_cs3 x2 x3 x4 x5 x6 I J T V V14 V25 P → V x2 x3 x4 x5 x6 I J T) → V x2 x3 x4 x5 x6 I J T
set_option maxRecDepth 20000 in
theorem tl_X12_inWords_rs3_68_14_25_cs3 {d : Nat} {x2 : Int32} {x3 : Int32} {x4 : Int32} {x5 : Int32} {x6 : Int32} {I : Nat → Nat → Int32} {J : Nat → Nat → Int64} {T : Option Nat} {V14 : Int32 → Int32 → (Nat → Nat → Int32) → (Nat → Nat → Int64) → Option Nat → Prop} {V25 : Int32 → Int32 → Int32 → (Nat → Nat → Int32) → (Nat → Nat → Int64) → Option Nat → Prop} {P : Int32 → (Nat → Nat → Int32) → (Nat → Nat → Int64) → Option Nat → Prop} {Q : ix_Q} (h : wl_X12_inWords_rs3_68_14_25_cs3 x2 x3 x4 x5 x6 I J T V14 V25 P) (hV14 : ∀ (x2 : Int32) (x3 : Int32) I J T, V14 x2 x3 I J T → ix_W (ix_C (d + 2)) (12, ix_lk ix_l258, (some .int), 0, 0, Nat.blt 0 0, none) Q (14, [some (.inr (.inr (.inl (some (204))))), some (.inr (.inr (.inr 3))), some (.inl (x2)), some (.inl (x3)), none, none, none], [], 0, 0, ix_mem 276 I J T)) (hV25 : ∀ (x2 : Int32) (x3 : Int32) (x4 : Int32) I J T, V25 x2 x3 x4 I J T → ix_W (ix_C (d + 2)) (12, ix_lk ix_l258, (some .int), 0, 0, Nat.blt 0 0, none) Q (25, [some (.inr (.inr (.inl (some (204))))), some (.inr (.inr (.inr 3))), some (.inl (x2)), some (.inl (x3)), some (.inl (x4)), none, none], [], 0, 0, ix_mem 276 I J T)) (hQ : ∀ v I J T, P v I J T → Q (some (.inl v)) (ix_mem 276 I J T)) : ix_W (ix_C (d + 2)) (12, ix_lk ix_l258, (some .int), 0, 0, Nat.blt 0 0, none) Q (68, [some (.inr (.inr (.inl (some (204))))), some (.inr (.inr (.inr 3))), some (.inl (x2)), some (.inl (x3)), some (.inl (x4)), some (.inl (x5)), some (.inl (x6))], [], 0, 0, ix_mem 276 I J T) := by
  refine h (fun x2 x3 x4 x5 x6 I J T => ix_W (ix_C (d + 2)) (12, ix_lk ix_l258, (some .int), 0, 0, Nat.blt 0 0, none) Q (68, [some (.inr (.inr (.inl (some (204))))), some (.inr (.inr (.inr 3))), some (.inl (x2)), some (.inl (x3)), some (.inl (x4)), some (.inl (x5)), some (.inl (x6))], [], 0, 0, ix_mem 276 I J T)) ?_
  intro x2 x3 x4 x5 x6 I J T hb
  unfold wb_X12_inWords_rs3_68_14_25_cs3 at hb
  refine ix_go 3 (x' := (if x6 < x4 then 75 else 115, [some (.inr (.inr (.inl (some (204))))), some (.inr (.inr (.inr 3))), some (.inl (x2)), some (.inl (x3)), some (.inl (x4)), some (.inl (x5)), some (.inl (x6))], [], 0, 0, ix_mem 276 I J T)) rfl trivial ?_
  refine ix_br (fun c11 => ?_) (fun c11 => ?_)
  · have h12 := hb.1 c11
    refine ix_go 2 (x' := (if x5 = 0 then 115 else 80, [some (.inr (.inr (.inl (some (204))))), some (.inr (.inr (.inr 3))), some (.inl (x2)), some (.inl (x3)), some (.inl (x4)), some (.inl (x5)), some (.inl (x6))], [], 0, 0, ix_mem 276 I J T)) rfl trivial ?_
    refine ix_br (fun c13 => ?_) (fun c13 => ?_)
    · have h14 := h12.1 c13
      refine ix_go 2 (x' := (if x5 = 0 then 122 else 120, [some (.inr (.inr (.inl (some (204))))), some (.inr (.inr (.inr 3))), some (.inl (x2)), some (.inl (x3)), some (.inl (x4)), some (.inl (x5)), some (.inl (x6))], [], 0, 0, ix_mem 276 I J T)) rfl trivial ?_
      refine ix_br (fun c15 => ?_) (fun c15 => ?_)
      · have h16 := h14.1 c15
        refine ix_go 6 (x' := (14, [some (.inr (.inr (.inl (some (204))))), some (.inr (.inr (.inr 3))), some (.inl (x2 + (1 : Int32))), some (.inl ((x4) + ((1 : Int32)))), some (.inl (x4)), some (.inl (x5)), some (.inl (x6))], [], 0, 0, ix_mem 276 I J T)) rfl trivial ?_
        refine ix_subW ([some (.inr (.inr (.inl (some (204))))), some (.inr (.inr (.inr 3))), some (.inl (x2 + (1 : Int32))), some (.inl ((x4) + ((1 : Int32)))), none, none, none]) (ix_subS (ix_subS (ix_subS (ix_subS (ix_subN (ix_subN (ix_subN (ix_sub0)))))))) ?_
        exact hV14 _ _ _ _ _ h16
      · have h16 := h14.2 c15
        refine ix_go 1 (x' := (121, [some (.inr (.inr (.inl (some (204))))), some (.inr (.inr (.inr 3))), some (.inl (x2)), some (.inl (x3)), some (.inl (x4)), some (.inl (x5)), some (.inl (x6))], [.inl (x2)], 0, 0, ix_mem 276 I J T)) rfl trivial ?_
        exact ix_sp rfl ⟨Nat.le_refl _, Nat.le_refl _, trivial, hQ _ _ _ _ h16⟩
    · have h14 := h12.2 c13
      refine ix_go 2 (x' := (83, [some (.inr (.inr (.inl (some (204))))), some (.inr (.inr (.inr 3))), some (.inl (x2)), some (.inl (x3)), some (.inl (x4)), some (.inl (x5)), some (.inl (x6))], [.inl (x6), .inr (.inr (.inr 3))], 0, 0, ix_mem 276 I J T)) rfl trivial ?_
      refine ix_sp rfl ⟨rfl, ⟨ix_le rfl, ix_le rfl, rfl⟩, ix_le rfl, Nat.le_refl _, Nat.le_refl _, tp_J_charAt_s3 h14 (fun v17 I17 J17 T17 h17 => ?_)⟩
      change ix_W _ _ _ (86, [some (.inr (.inr (.inl (some (204))))), some (.inr (.inr (.inr 3))), some (.inl (x2)), some (.inl (x3)), some (.inl (x4)), some (.inl (x5)), some (.inl (x6))], [.inl (v17)], 0, 0, ix_mem 276 I17 J17 T17)
      refine ix_go 7 (x' := (96, [some (.inr (.inr (.inl (some (204))))), some (.inr (.inr (.inr 3))), some (.inl (x2)), some (.inl (x3)), some (.inl (x4)), some (.inl (x5)), some (.inl (x6))], [.inl (((I17 204 18) + (x6)) - (x3)), .inr (.inr (.inl (some (204)))), .inl (v17)], 0, 0, ix_mem 276 I17 J17 T17)) rfl ⟨rfl, rfl⟩ ?_
      refine ix_sp rfl ⟨rfl, ⟨ix_lt rfl, ix_eq rfl, ix_lt rfl⟩, ix_le rfl, Nat.le_refl _, Nat.le_refl _, tp_X12_at h17 (fun v18 I18 J18 T18 h18 => ?_)⟩
      change ix_W _ _ _ (99, [some (.inr (.inr (.inl (some (204))))), some (.inr (.inr (.inr 3))), some (.inl (x2)), some (.inl (x3)), some (.inl (x4)), some (.inl (x5)), some (.inl (x6))], [.inl (v18), .inl (v17)], 0, 0, ix_mem 276 I18 J18 T18)
      refine ix_go 1 (x' := (if v17 = v18 then 102 else 106, [some (.inr (.inr (.inl (some (204))))), some (.inr (.inr (.inr 3))), some (.inl (x2)), some (.inl (x3)), some (.inl (x4)), some (.inl (x5)), some (.inl (x6))], [], 0, 0, ix_mem 276 I18 J18 T18)) rfl trivial ?_
      refine ix_br (fun c19 => ?_) (fun c19 => ?_)
      · have h20 := h18.1 c19
        refine ix_go 5 (x' := (68, [some (.inr (.inr (.inl (some (204))))), some (.inr (.inr (.inr 3))), some (.inl (x2)), some (.inl (x3)), some (.inl (x4)), some (.inl ((1 : Int32))), some (.inl (x6 + (1 : Int32)))], [], 0, 0, ix_mem 276 I18 J18 T18)) rfl trivial ?_
        refine ix_subW ([some (.inr (.inr (.inl (some (204))))), some (.inr (.inr (.inr 3))), some (.inl (x2)), some (.inl (x3)), some (.inl (x4)), some (.inl ((1 : Int32))), some (.inl (x6 + (1 : Int32)))]) (ix_subS (ix_subS (ix_subS (ix_subS (ix_subS (ix_subS (ix_subS (ix_sub0)))))))) ?_
        exact h20
      · have h20 := h18.2 c19
        refine ix_go 4 (x' := (68, [some (.inr (.inr (.inl (some (204))))), some (.inr (.inr (.inr 3))), some (.inl (x2)), some (.inl (x3)), some (.inl (x4)), some (.inl ((0 : Int32))), some (.inl (x6 + (1 : Int32)))], [], 0, 0, ix_mem 276 I18 J18 T18)) rfl trivial ?_
        refine ix_subW ([some (.inr (.inr (.inl (some (204))))), some (.inr (.inr (.inr 3))), some (.inl (x2)), some (.inl (x3)), some (.inl (x4)), some (.inl ((0 : Int32))), some (.inl (x6 + (1 : Int32)))]) (ix_subS (ix_subS (ix_subS (ix_subS (ix_subS (ix_subS (ix_subS (ix_sub0)))))))) ?_
        exact h20
  · have h12 := hb.2 c11
    refine ix_go 2 (x' := (if x5 = 0 then 122 else 120, [some (.inr (.inr (.inl (some (204))))), some (.inr (.inr (.inr 3))), some (.inl (x2)), some (.inl (x3)), some (.inl (x4)), some (.inl (x5)), some (.inl (x6))], [], 0, 0, ix_mem 276 I J T)) rfl trivial ?_
    refine ix_br (fun c21 => ?_) (fun c21 => ?_)
    · have h22 := h12.1 c21
      refine ix_go 6 (x' := (14, [some (.inr (.inr (.inl (some (204))))), some (.inr (.inr (.inr 3))), some (.inl (x2 + (1 : Int32))), some (.inl ((x4) + ((1 : Int32)))), some (.inl (x4)), some (.inl (x5)), some (.inl (x6))], [], 0, 0, ix_mem 276 I J T)) rfl trivial ?_
      refine ix_subW ([some (.inr (.inr (.inl (some (204))))), some (.inr (.inr (.inr 3))), some (.inl (x2 + (1 : Int32))), some (.inl ((x4) + ((1 : Int32)))), none, none, none]) (ix_subS (ix_subS (ix_subS (ix_subS (ix_subN (ix_subN (ix_subN (ix_sub0)))))))) ?_
      exact hV14 _ _ _ _ _ h22
    · have h22 := h12.2 c21
      refine ix_go 1 (x' := (121, [some (.inr (.inr (.inl (some (204))))), some (.inr (.inr (.inr 3))), some (.inl (x2)), some (.inl (x3)), some (.inl (x4)), some (.inl (x5)), some (.inl (x6))], [.inl (x2)], 0, 0, ix_mem 276 I J T)) rfl trivial ?_
      exact ix_sp rfl ⟨Nat.le_refl _, Nat.le_refl _, trivial, hQ _ _ _ _ h22⟩
def wb_X12_inWords_rs3_25_14_cs3 (x2 : Int32) (x3 : Int32) (x4 : Int32) (I : Nat → Nat → Int32) (J : Nat → Nat → Int64) (T : Option Nat) (V25 : Int32 → Int32 → Int32 → (Nat → Nat → Int32) → (Nat → Nat → Int64) → Option Nat → Prop) (V14 : Int32 → Int32 → (Nat → Nat → Int32) → (Nat → Nat → Int64) → Option Nat → Prop) (P : Int32 → (Nat → Nat → Int32) → (Nat → Nat → Int64) → Option Nat → Prop) : Prop := wp_J_charAt_s3 (x4) I J T (fun v6 I6 J6 T6 => ((v6 = (32 : Int32) → (((x4) - (x3) = (I6 204 19) - (I6 204 18) → wl_X12_inWords_rs3_68_14_25_cs3 (x2) (x3) (x4) ((1 : Int32)) (x3) I6 J6 T6 V14 V25 P) ∧ (¬ ((x4) - (x3) = (I6 204 19) - (I6 204 18)) → wl_X12_inWords_rs3_68_14_25_cs3 (x2) (x3) (x4) ((0 : Int32)) (x3) I6 J6 T6 V14 V25 P))) ∧ (¬ (v6 = (32 : Int32)) → V25 (x2) (x3) (x4 + (1 : Int32)) I6 J6 T6)))
def wl_X12_inWords_rs3_25_14_cs3 (x2 : Int32) (x3 : Int32) (x4 : Int32) (I : Nat → Nat → Int32) (J : Nat → Nat → Int64) (T : Option Nat) (V14 : Int32 → Int32 → (Nat → Nat → Int32) → (Nat → Nat → Int64) → Option Nat → Prop) (P : Int32 → (Nat → Nat → Int32) → (Nat → Nat → Int64) → Option Nat → Prop) : Prop := ∀ V : Int32 → Int32 → Int32 → (Nat → Nat → Int32) → (Nat → Nat → Int64) → Option Nat → Prop, (∀ (x2 : Int32) (x3 : Int32) (x4 : Int32) (I : Nat → Nat → Int32) (J : Nat → Nat → Int64) (T : Option Nat), wb_X12_inWords_rs3_25_14_cs3 x2 x3 x4 I J T V V14 P → V x2 x3 x4 I J T) → V x2 x3 x4 I J T
set_option maxRecDepth 20000 in
theorem tl_X12_inWords_rs3_25_14_cs3 {d : Nat} {x2 : Int32} {x3 : Int32} {x4 : Int32} {I : Nat → Nat → Int32} {J : Nat → Nat → Int64} {T : Option Nat} {V14 : Int32 → Int32 → (Nat → Nat → Int32) → (Nat → Nat → Int64) → Option Nat → Prop} {P : Int32 → (Nat → Nat → Int32) → (Nat → Nat → Int64) → Option Nat → Prop} {Q : ix_Q} (h : wl_X12_inWords_rs3_25_14_cs3 x2 x3 x4 I J T V14 P) (hV14 : ∀ (x2 : Int32) (x3 : Int32) I J T, V14 x2 x3 I J T → ix_W (ix_C (d + 2)) (12, ix_lk ix_l258, (some .int), 0, 0, Nat.blt 0 0, none) Q (14, [some (.inr (.inr (.inl (some (204))))), some (.inr (.inr (.inr 3))), some (.inl (x2)), some (.inl (x3)), none, none, none], [], 0, 0, ix_mem 276 I J T)) (hQ : ∀ v I J T, P v I J T → Q (some (.inl v)) (ix_mem 276 I J T)) : ix_W (ix_C (d + 2)) (12, ix_lk ix_l258, (some .int), 0, 0, Nat.blt 0 0, none) Q (25, [some (.inr (.inr (.inl (some (204))))), some (.inr (.inr (.inr 3))), some (.inl (x2)), some (.inl (x3)), some (.inl (x4)), none, none], [], 0, 0, ix_mem 276 I J T) := by
  refine h (fun x2 x3 x4 I J T => ix_W (ix_C (d + 2)) (12, ix_lk ix_l258, (some .int), 0, 0, Nat.blt 0 0, none) Q (25, [some (.inr (.inr (.inl (some (204))))), some (.inr (.inr (.inr 3))), some (.inl (x2)), some (.inl (x3)), some (.inl (x4)), none, none], [], 0, 0, ix_mem 276 I J T)) ?_
  intro x2 x3 x4 I J T hb
  unfold wb_X12_inWords_rs3_25_14_cs3 at hb
  refine ix_go 2 (x' := (28, [some (.inr (.inr (.inl (some (204))))), some (.inr (.inr (.inr 3))), some (.inl (x2)), some (.inl (x3)), some (.inl (x4)), none, none], [.inl (x4), .inr (.inr (.inr 3))], 0, 0, ix_mem 276 I J T)) rfl trivial ?_
  refine ix_sp rfl ⟨rfl, ⟨ix_le rfl, ix_le rfl, rfl⟩, ix_le rfl, Nat.le_refl _, Nat.le_refl _, tp_J_charAt_s3 hb (fun v6 I6 J6 T6 h6 => ?_)⟩
  change ix_W _ _ _ (31, [some (.inr (.inr (.inl (some (204))))), some (.inr (.inr (.inr 3))), some (.inl (x2)), some (.inl (x3)), some (.inl (x4)), none, none], [.inl (v6)], 0, 0, ix_mem 276 I6 J6 T6)
  refine ix_go 2 (x' := (if v6 = (32 : Int32) then 42 else 36, [some (.inr (.inr (.inl (some (204))))), some (.inr (.inr (.inr 3))), some (.inl (x2)), some (.inl (x3)), some (.inl (x4)), none, none], [], 0, 0, ix_mem 276 I6 J6 T6)) rfl trivial ?_
  refine ix_br (fun c7 => ?_) (fun c7 => ?_)
  · have h8 := h6.1 c7
    refine ix_go 7 (x' := (54, [some (.inr (.inr (.inl (some (204))))), some (.inr (.inr (.inr 3))), some (.inl (x2)), some (.inl (x3)), some (.inl (x4)), none, none], [.inl (I6 204 18), .inl (I6 204 19), .inl ((x4) - (x3))], 0, 0, ix_mem 276 I6 J6 T6)) rfl ⟨rfl, rfl, rfl, rfl⟩ ?_
    refine ix_go 2 (x' := (if (x4) - (x3) = (I6 204 19) - (I6 204 18) then 58 else 62, [some (.inr (.inr (.inl (some (204))))), some (.inr (.inr (.inr 3))), some (.inl (x2)), some (.inl (x3)), some (.inl (x4)), none, none], [], 0, 0, ix_mem 276 I6 J6 T6)) rfl trivial ?_
    refine ix_br (fun c9 => ?_) (fun c9 => ?_)
    · have h10 := h8.1 c9
      refine ix_go 5 (x' := (68, [some (.inr (.inr (.inl (some (204))))), some (.inr (.inr (.inr 3))), some (.inl (x2)), some (.inl (x3)), some (.inl (x4)), some (.inl ((1 : Int32))), some (.inl (x3))], [], 0, 0, ix_mem 276 I6 J6 T6)) rfl trivial ?_
      refine ix_subW ([some (.inr (.inr (.inl (some (204))))), some (.inr (.inr (.inr 3))), some (.inl (x2)), some (.inl (x3)), some (.inl (x4)), some (.inl ((1 : Int32))), some (.inl (x3))]) (ix_subS (ix_subS (ix_subS (ix_subS (ix_subS (ix_subS (ix_subS (ix_sub0)))))))) ?_
      exact tl_X12_inWords_rs3_68_14_25_cs3 h10 hV14 (fun _ _ _ I J T hv => hv) hQ
    · have h10 := h8.2 c9
      refine ix_go 4 (x' := (68, [some (.inr (.inr (.inl (some (204))))), some (.inr (.inr (.inr 3))), some (.inl (x2)), some (.inl (x3)), some (.inl (x4)), some (.inl ((0 : Int32))), some (.inl (x3))], [], 0, 0, ix_mem 276 I6 J6 T6)) rfl trivial ?_
      refine ix_subW ([some (.inr (.inr (.inl (some (204))))), some (.inr (.inr (.inr 3))), some (.inl (x2)), some (.inl (x3)), some (.inl (x4)), some (.inl ((0 : Int32))), some (.inl (x3))]) (ix_subS (ix_subS (ix_subS (ix_subS (ix_subS (ix_subS (ix_subS (ix_sub0)))))))) ?_
      exact tl_X12_inWords_rs3_68_14_25_cs3 h10 hV14 (fun _ _ _ I J T hv => hv) hQ
  · have h8 := h6.2 c7
    refine ix_go 2 (x' := (25, [some (.inr (.inr (.inl (some (204))))), some (.inr (.inr (.inr 3))), some (.inl (x2)), some (.inl (x3)), some (.inl (x4 + (1 : Int32))), none, none], [], 0, 0, ix_mem 276 I6 J6 T6)) rfl trivial ?_
    refine ix_subW ([some (.inr (.inr (.inl (some (204))))), some (.inr (.inr (.inr 3))), some (.inl (x2)), some (.inl (x3)), some (.inl (x4 + (1 : Int32))), none, none]) (ix_subS (ix_subS (ix_subS (ix_subS (ix_subS (ix_subS (ix_subS (ix_sub0)))))))) ?_
    exact h8
def wb_X12_inWords_rs3_14_cs3 (x2 : Int32) (x3 : Int32) (I : Nat → Nat → Int32) (J : Nat → Nat → Int64) (T : Option Nat) (V14 : Int32 → Int32 → (Nat → Nat → Int32) → (Nat → Nat → Int64) → Option Nat → Prop) (P : Int32 → (Nat → Nat → Int32) → (Nat → Nat → Int64) → Option Nat → Prop) : Prop := wp_J_length_s3 I J T (fun v3 I3 J3 T3 => ((x3 < v3 → wl_X12_inWords_rs3_25_14_cs3 (x2) (x3) (x3) I3 J3 T3 V14 P) ∧ (¬ (x3 < v3) → P ((-1 : Int32)) I3 J3 T3)))
def wl_X12_inWords_rs3_14_cs3 (x2 : Int32) (x3 : Int32) (I : Nat → Nat → Int32) (J : Nat → Nat → Int64) (T : Option Nat) (P : Int32 → (Nat → Nat → Int32) → (Nat → Nat → Int64) → Option Nat → Prop) : Prop := ∀ V : Int32 → Int32 → (Nat → Nat → Int32) → (Nat → Nat → Int64) → Option Nat → Prop, (∀ (x2 : Int32) (x3 : Int32) (I : Nat → Nat → Int32) (J : Nat → Nat → Int64) (T : Option Nat), wb_X12_inWords_rs3_14_cs3 x2 x3 I J T V P → V x2 x3 I J T) → V x2 x3 I J T
set_option maxRecDepth 20000 in
theorem tl_X12_inWords_rs3_14_cs3 {d : Nat} {x2 : Int32} {x3 : Int32} {I : Nat → Nat → Int32} {J : Nat → Nat → Int64} {T : Option Nat} {P : Int32 → (Nat → Nat → Int32) → (Nat → Nat → Int64) → Option Nat → Prop} {Q : ix_Q} (h : wl_X12_inWords_rs3_14_cs3 x2 x3 I J T P) (hQ : ∀ v I J T, P v I J T → Q (some (.inl v)) (ix_mem 276 I J T)) : ix_W (ix_C (d + 2)) (12, ix_lk ix_l258, (some .int), 0, 0, Nat.blt 0 0, none) Q (14, [some (.inr (.inr (.inl (some (204))))), some (.inr (.inr (.inr 3))), some (.inl (x2)), some (.inl (x3)), none, none, none], [], 0, 0, ix_mem 276 I J T) := by
  refine h (fun x2 x3 I J T => ix_W (ix_C (d + 2)) (12, ix_lk ix_l258, (some .int), 0, 0, Nat.blt 0 0, none) Q (14, [some (.inr (.inr (.inl (some (204))))), some (.inr (.inr (.inr 3))), some (.inl (x2)), some (.inl (x3)), none, none, none], [], 0, 0, ix_mem 276 I J T)) ?_
  intro x2 x3 I J T hb
  unfold wb_X12_inWords_rs3_14_cs3 at hb
  refine ix_go 2 (x' := (16, [some (.inr (.inr (.inl (some (204))))), some (.inr (.inr (.inr 3))), some (.inl (x2)), some (.inl (x3)), none, none, none], [.inr (.inr (.inr 3)), .inl (x3)], 0, 0, ix_mem 276 I J T)) rfl trivial ?_
  refine ix_sp rfl ⟨rfl, ⟨ix_le rfl, ix_le rfl, rfl⟩, ix_le rfl, Nat.le_refl _, Nat.le_refl _, tp_J_length_s3 hb (fun v3 I3 J3 T3 h3 => ?_)⟩
  change ix_W _ _ _ (19, [some (.inr (.inr (.inl (some (204))))), some (.inr (.inr (.inr 3))), some (.inl (x2)), some (.inl (x3)), none, none, none], [.inl (v3), .inl (x3)], 0, 0, ix_mem 276 I3 J3 T3)
  refine ix_go 1 (x' := (if x3 < v3 then 22 else 133, [some (.inr (.inr (.inl (some (204))))), some (.inr (.inr (.inr 3))), some (.inl (x2)), some (.inl (x3)), none, none, none], [], 0, 0, ix_mem 276 I3 J3 T3)) rfl trivial ?_
  refine ix_br (fun c4 => ?_) (fun c4 => ?_)
  · have h5 := h3.1 c4
    refine ix_go 2 (x' := (25, [some (.inr (.inr (.inl (some (204))))), some (.inr (.inr (.inr 3))), some (.inl (x2)), some (.inl (x3)), some (.inl (x3)), none, none], [], 0, 0, ix_mem 276 I3 J3 T3)) rfl trivial ?_
    refine ix_subW ([some (.inr (.inr (.inl (some (204))))), some (.inr (.inr (.inr 3))), some (.inl (x2)), some (.inl (x3)), some (.inl (x3)), none, none]) (ix_subS (ix_subS (ix_subS (ix_subS (ix_subS (ix_subS (ix_subS (ix_sub0)))))))) ?_
    exact tl_X12_inWords_rs3_25_14_cs3 h5 (fun _ _ I J T hv => hv) hQ
  · have h5 := h3.2 c4
    refine ix_go 1 (x' := (134, [some (.inr (.inr (.inl (some (204))))), some (.inr (.inr (.inr 3))), some (.inl (x2)), some (.inl (x3)), none, none, none], [.inl ((-1 : Int32))], 0, 0, ix_mem 276 I3 J3 T3)) rfl trivial ?_
    exact ix_sp rfl ⟨Nat.le_refl _, Nat.le_refl _, trivial, hQ _ _ _ _ h5⟩
def wp_X12_inWords_rs3 (I : Nat → Nat → Int32) (J : Nat → Nat → Int64) (T : Option Nat) (P : Int32 → (Nat → Nat → Int32) → (Nat → Nat → Int64) → Option Nat → Prop) : Prop := ((I 204 17 = (2 : Int32) → wl_X12_inWords_rs3_14_cs3 ((0 : Int32)) ((1 : Int32)) I J T P) ∧ (¬ (I 204 17 = (2 : Int32)) → P ((-1 : Int32)) I J T))
set_option maxRecDepth 20000 in
theorem tp_X12_inWords_rs3 {d : Nat} {I : Nat → Nat → Int32} {J : Nat → Nat → Int64} {T : Option Nat} {P : Int32 → (Nat → Nat → Int32) → (Nat → Nat → Int64) → Option Nat → Prop} {Q : ix_Q} (h : wp_X12_inWords_rs3 I J T P) (hQ : ∀ v I J T, P v I J T → Q (some (.inl v)) (ix_mem 276 I J T)) : ix_C (d + 3) 258 [.inr (.inr (.inl (some (204)))), .inr (.inr (.inr 3))] (ix_mem 276 I J T) Q := by
  unfold wp_X12_inWords_rs3 at h
  refine ix_enter (ls := [some (.inr (.inr (.inl (some (204))))), some (.inr (.inr (.inr 3))), none, none, none, none, none]) rfl rfl rfl (Nat.le_of_ble_eq_true rfl) ?_
  refine ix_go 4 (x' := (if I 204 17 = (2 : Int32) then 10 else 8, [some (.inr (.inr (.inl (some (204))))), some (.inr (.inr (.inr 3))), none, none, none, none, none], [], 0, 0, ix_mem 276 I J T)) rfl ⟨rfl, rfl⟩ ?_
  refine ix_br (fun c1 => ?_) (fun c1 => ?_)
  · have h2 := h.1 c1
    refine ix_go 4 (x' := (14, [some (.inr (.inr (.inl (some (204))))), some (.inr (.inr (.inr 3))), some (.inl ((0 : Int32))), some (.inl ((1 : Int32))), none, none, none], [], 0, 0, ix_mem 276 I J T)) rfl trivial ?_
    refine ix_subW ([some (.inr (.inr (.inl (some (204))))), some (.inr (.inr (.inr 3))), some (.inl ((0 : Int32))), some (.inl ((1 : Int32))), none, none, none]) (ix_subS (ix_subS (ix_subS (ix_subS (ix_subS (ix_subS (ix_subS (ix_sub0)))))))) ?_
    exact tl_X12_inWords_rs3_14_cs3 h2 hQ
  · have h2 := h.2 c1
    refine ix_go 1 (x' := (9, [some (.inr (.inr (.inl (some (204))))), some (.inr (.inr (.inr 3))), none, none, none, none, none], [.inl ((-1 : Int32))], 0, 0, ix_mem 276 I J T)) rfl trivial ?_
    exact ix_sp rfl ⟨Nat.le_refl _, Nat.le_refl _, trivial, hQ _ _ _ _ h2⟩
def wp_X12_isKey (a0 : Int32) (I : Nat → Nat → Int32) (J : Nat → Nat → Int64) (T : Option Nat) (P : Int32 → (Nat → Nat → Int32) → (Nat → Nat → Int64) → Option Nat → Prop) : Prop := wp_X12_inWords_rs3 I J T (fun v1 I1 J1 T1 => ((v1 = a0 → P ((1 : Int32)) I1 J1 T1) ∧ (¬ (v1 = a0) → P ((0 : Int32)) I1 J1 T1)))
set_option maxRecDepth 20000 in
theorem tp_X12_isKey {d : Nat} {a0 : Int32} {I : Nat → Nat → Int32} {J : Nat → Nat → Int64} {T : Option Nat} {P : Int32 → (Nat → Nat → Int32) → (Nat → Nat → Int64) → Option Nat → Prop} {Q : ix_Q} (h : wp_X12_isKey a0 I J T P) (hQ : ∀ v I J T, P v I J T → Q (some (.inl v)) (ix_mem 276 I J T)) : ix_C (d + 4) 259 [.inr (.inr (.inl (some (204)))), .inl (a0)] (ix_mem 276 I J T) Q := by
  unfold wp_X12_isKey at h
  refine ix_enter (ls := [some (.inr (.inr (.inl (some (204))))), some (.inl (a0))]) rfl rfl rfl (Nat.le_of_ble_eq_true rfl) ?_
  refine ix_go 2 (x' := (4, [some (.inr (.inr (.inl (some (204))))), some (.inl (a0))], [.inr (.inr (.inr 3)), .inr (.inr (.inl (some (204))))], 0, 0, ix_mem 276 I J T)) rfl trivial ?_
  refine ix_sp rfl ⟨rfl, ⟨ix_lt rfl, ix_eq rfl, ix_lt rfl⟩, ix_le rfl, Nat.le_refl _, Nat.le_refl _, tp_X12_inWords_rs3 h (fun v1 I1 J1 T1 h1 => ?_)⟩
  change ix_W _ _ _ (7, [some (.inr (.inr (.inl (some (204))))), some (.inl (a0))], [.inl (v1)], 0, 0, ix_mem 276 I1 J1 T1)
  refine ix_go 2 (x' := (if v1 = a0 then 11 else 15, [some (.inr (.inr (.inl (some (204))))), some (.inl (a0))], [], 0, 0, ix_mem 276 I1 J1 T1)) rfl trivial ?_
  refine ix_br (fun c2 => ?_) (fun c2 => ?_)
  · have h3 := h1.1 c2
    refine ix_go 2 (x' := (16, [some (.inr (.inr (.inl (some (204))))), some (.inl (a0))], [.inl ((1 : Int32))], 0, 0, ix_mem 276 I1 J1 T1)) rfl trivial ?_
    exact ix_sp rfl ⟨Nat.le_refl _, Nat.le_refl _, ix_01_ok rfl, hQ _ _ _ _ h3⟩
  · have h3 := h1.2 c2
    refine ix_go 1 (x' := (16, [some (.inr (.inr (.inl (some (204))))), some (.inl (a0))], [.inl ((0 : Int32))], 0, 0, ix_mem 276 I1 J1 T1)) rfl trivial ?_
    exact ix_sp rfl ⟨Nat.le_refl _, Nat.le_refl _, ix_01_ok rfl, hQ _ _ _ _ h3⟩
def wp_X12_fail (a0 : Int32) (I : Nat → Nat → Int32) (J : Nat → Nat → Int64) (T : Option Nat) (P : Int32 → (Nat → Nat → Int32) → (Nat → Nat → Int64) → Option Nat → Prop) : Prop := ((I 204 22 = 0 → ((I 204 17 = (1 : Int32) → P ((0 : Int32)) (ix_u2 (ix_u2 I 204 22 ((1 : Int32))) 204 21 (I 204 18)) J T) ∧ (¬ (I 204 17 = (1 : Int32)) → P ((0 : Int32)) (ix_u2 (ix_u2 I 204 22 (a0)) 204 21 (I 204 18)) J T))) ∧ (¬ (I 204 22 = 0) → P ((0 : Int32)) I J T))
set_option maxRecDepth 20000 in
theorem tp_X12_fail {d : Nat} {a0 : Int32} {I : Nat → Nat → Int32} {J : Nat → Nat → Int64} {T : Option Nat} {P : Int32 → (Nat → Nat → Int32) → (Nat → Nat → Int64) → Option Nat → Prop} {Q : ix_Q} (h : wp_X12_fail a0 I J T P) (hQ : ∀ v I J T, P v I J T → Q (some (.inl v)) (ix_mem 276 I J T)) : ix_C (d + 1) 260 [.inr (.inr (.inl (some (204)))), .inl (a0)] (ix_mem 276 I J T) Q := by
  unfold wp_X12_fail at h
  refine ix_enter (ls := [some (.inr (.inr (.inl (some (204))))), some (.inl (a0))]) rfl rfl rfl (Nat.le_of_ble_eq_true rfl) ?_
  refine ix_go 3 (x' := (if I 204 22 = 0 then 7 else 32, [some (.inr (.inr (.inl (some (204))))), some (.inl (a0))], [], 0, 0, ix_mem 276 I J T)) rfl ⟨rfl, rfl⟩ ?_
  refine ix_br (fun c1 => ?_) (fun c1 => ?_)
  · have h2 := h.1 c1
    refine ix_go 5 (x' := (if I 204 17 = (1 : Int32) then 16 else 20, [some (.inr (.inr (.inl (some (204))))), some (.inl (a0))], [.inr (.inr (.inl (some (204))))], 0, 0, ix_mem 276 I J T)) rfl ⟨rfl, rfl⟩ ?_
    refine ix_br (fun c3 => ?_) (fun c3 => ?_)
    · have h4 := h2.1 c3
      refine ix_go 7 (x' := (32, [some (.inr (.inr (.inl (some (204))))), some (.inl (a0))], [], 0, 0, ix_mem 276 (ix_u2 (ix_u2 I 204 22 ((1 : Int32))) 204 21 (I 204 18)) J T)) rfl ⟨rfl, rfl, rfl, rfl, rfl, rfl⟩ ?_
      refine ix_go 1 (x' := (33, [some (.inr (.inr (.inl (some (204))))), some (.inl (a0))], [.inl ((0 : Int32))], 0, 0, ix_mem 276 (ix_u2 (ix_u2 I 204 22 ((1 : Int32))) 204 21 (I 204 18)) J T)) rfl trivial ?_
      exact ix_sp rfl ⟨Nat.le_refl _, Nat.le_refl _, ix_01_ok rfl, hQ _ _ _ _ h4⟩
    · have h4 := h2.2 c3
      refine ix_go 7 (x' := (33, [some (.inr (.inr (.inl (some (204))))), some (.inl (a0))], [.inl ((0 : Int32))], 0, 0, ix_mem 276 (ix_u2 (ix_u2 I 204 22 (a0)) 204 21 (I 204 18)) J T)) rfl ⟨rfl, rfl, rfl, rfl, rfl, rfl⟩ ?_
      exact ix_sp rfl ⟨Nat.le_refl _, Nat.le_refl _, ix_01_ok rfl, hQ _ _ _ _ h4⟩
  · have h2 := h.2 c1
    refine ix_go 1 (x' := (33, [some (.inr (.inr (.inl (some (204))))), some (.inl (a0))], [.inl ((0 : Int32))], 0, 0, ix_mem 276 I J T)) rfl trivial ?_
    exact ix_sp rfl ⟨Nat.le_refl _, Nat.le_refl _, ix_01_ok rfl, hQ _ _ _ _ h2⟩
def wp_X12_want (a0 : Int32) (I : Nat → Nat → Int32) (J : Nat → Nat → Int64) (T : Option Nat) (P : Int32 → (Nat → Nat → Int32) → (Nat → Nat → Int64) → Option Nat → Prop) : Prop := wp_X12_isSign (a0) I J T (fun v1 I1 J1 T1 => ((v1 = 0 → wp_X12_fail ((2 : Int32)) I1 J1 T1 (fun v4 I4 J4 T4 => ix_01 (v4) = true ∧ P (v4) I4 J4 T4)) ∧ (¬ (v1 = 0) → wp_X12_next I1 J1 T1 (fun I5 J5 T5 => P ((1 : Int32)) I5 J5 T5))))
set_option maxRecDepth 20000 in
theorem tp_X12_want {d : Nat} {a0 : Int32} {I : Nat → Nat → Int32} {J : Nat → Nat → Int64} {T : Option Nat} {P : Int32 → (Nat → Nat → Int32) → (Nat → Nat → Int64) → Option Nat → Prop} {Q : ix_Q} (h : wp_X12_want a0 I J T P) (hQ : ∀ v I J T, P v I J T → Q (some (.inl v)) (ix_mem 276 I J T)) : ix_C (d + 3) 261 [.inr (.inr (.inl (some (204)))), .inl (a0)] (ix_mem 276 I J T) Q := by
  unfold wp_X12_want at h
  refine ix_enter (ls := [some (.inr (.inr (.inl (some (204))))), some (.inl (a0))]) rfl rfl rfl (Nat.le_of_ble_eq_true rfl) ?_
  refine ix_go 2 (x' := (2, [some (.inr (.inr (.inl (some (204))))), some (.inl (a0))], [.inl (a0), .inr (.inr (.inl (some (204))))], 0, 0, ix_mem 276 I J T)) rfl trivial ?_
  refine ix_sp rfl ⟨rfl, ⟨ix_lt rfl, ix_eq rfl, ix_lt rfl⟩, ix_le rfl, Nat.le_refl _, Nat.le_refl _, tp_X12_isSign h (fun v1 I1 J1 T1 h1 => ?_)⟩
  change ix_W _ _ _ (5, [some (.inr (.inr (.inl (some (204))))), some (.inl (a0))], [.inl (v1)], 0, 0, ix_mem 276 I1 J1 T1)
  refine ix_go 1 (x' := (if v1 = 0 then 8 else 14, [some (.inr (.inr (.inl (some (204))))), some (.inl (a0))], [], 0, 0, ix_mem 276 I1 J1 T1)) rfl trivial ?_
  refine ix_br (fun c2 => ?_) (fun c2 => ?_)
  · have h3 := h1.1 c2
    refine ix_go 2 (x' := (10, [some (.inr (.inr (.inl (some (204))))), some (.inl (a0))], [.inl ((2 : Int32)), .inr (.inr (.inl (some (204))))], 0, 0, ix_mem 276 I1 J1 T1)) rfl trivial ?_
    refine ix_sp rfl ⟨rfl, ⟨ix_lt rfl, ix_eq rfl, ix_lt rfl⟩, ix_le rfl, Nat.le_refl _, Nat.le_refl _, tp_X12_fail h3 (fun v4 I4 J4 T4 h4 => ?_)⟩
    change ix_W _ _ _ (13, [some (.inr (.inr (.inl (some (204))))), some (.inl (a0))], [.inl (v4)], 0, 0, ix_mem 276 I4 J4 T4)
    exact ix_sp rfl ⟨Nat.le_refl _, Nat.le_refl _, ix_01_ok h4.1, hQ _ _ _ _ h4.2⟩
  · have h3 := h1.2 c2
    refine ix_go 1 (x' := (15, [some (.inr (.inr (.inl (some (204))))), some (.inl (a0))], [.inr (.inr (.inl (some (204))))], 0, 0, ix_mem 276 I1 J1 T1)) rfl trivial ?_
    refine ix_sp rfl ⟨rfl, ⟨ix_lt rfl, ix_eq rfl, ix_lt rfl⟩, ix_le rfl, Nat.le_refl _, Nat.le_refl _, tp_X12_next h3 (fun I5 J5 T5 h5 => ?_)⟩
    change ix_W _ _ _ (18, [some (.inr (.inr (.inl (some (204))))), some (.inl (a0))], [], 0, 0, ix_mem 276 I5 J5 T5)
    refine ix_go 1 (x' := (19, [some (.inr (.inr (.inl (some (204))))), some (.inl (a0))], [.inl ((1 : Int32))], 0, 0, ix_mem 276 I5 J5 T5)) rfl trivial ?_
    exact ix_sp rfl ⟨Nat.le_refl _, Nat.le_refl _, ix_01_ok rfl, hQ _ _ _ _ h5⟩
def wp_X12_puts (a0 : Int32) (a1 : Int64) (I : Nat → Nat → Int32) (J : Nat → Nat → Int64) (T : Option Nat) (P : (Nat → Nat → Int32) → (Nat → Nat → Int64) → Option Nat → Prop) : Prop := ix_inb (I 204 44) 3500 = true ∧ ix_inb (I 204 44) 3500 = true ∧ P (ix_u2 (ix_u2 I 232 (I 204 44).toNatClampNeg (a0)) 204 44 ((I 204 44) + ((1 : Int32)))) (ix_u2 J 233 (I 204 44).toNatClampNeg (a1)) T
set_option maxRecDepth 20000 in
theorem tp_X12_puts {d : Nat} {a0 : Int32} {a1 : Int64} {I : Nat → Nat → Int32} {J : Nat → Nat → Int64} {T : Option Nat} {P : (Nat → Nat → Int32) → (Nat → Nat → Int64) → Option Nat → Prop} {Q : ix_Q} (h : wp_X12_puts a0 a1 I J T P) (hQ : ∀ I J T, P I J T → Q none (ix_mem 276 I J T)) : ix_C (d + 1) 262 [.inr (.inr (.inl (some (204)))), .inl (a0), .inr (.inl (a1))] (ix_mem 276 I J T) Q := by
  unfold wp_X12_puts at h
  refine ix_enter (ls := [some (.inr (.inr (.inl (some (204))))), some (.inl (a0)), some (.inr (.inl (a1))), none]) rfl rfl rfl (Nat.le_of_ble_eq_true rfl) ?_
  obtain ⟨p1, h2⟩ := h
  refine ix_go 7 (x' := (11, [some (.inr (.inr (.inl (some (204))))), some (.inl (a0)), some (.inr (.inl (a1))), none], [.inr (.inr (.inl (some (204))))], 0, 0, ix_mem 276 (ix_u2 I 232 (I 204 44).toNatClampNeg (a0)) J T)) rfl ⟨rfl, rfl, rfl, rfl, rfl, rfl, p1⟩ ?_
  obtain ⟨p3, h4⟩ := h2
  refine ix_go 7 (x' := (22, [some (.inr (.inr (.inl (some (204))))), some (.inl (a0)), some (.inr (.inl (a1))), none], [.inr (.inr (.inl (some (204)))), .inr (.inr (.inl (some (204))))], 0, 0, ix_mem 276 (ix_u2 I 232 (I 204 44).toNatClampNeg (a0)) (ix_u2 J 233 (I 204 44).toNatClampNeg (a1)) T)) rfl ⟨rfl, rfl, rfl, rfl, rfl, rfl, p3⟩ ?_
  refine ix_go 4 (x' := (30, [some (.inr (.inr (.inl (some (204))))), some (.inl (a0)), some (.inr (.inl (a1))), none], [], 0, 0, ix_mem 276 (ix_u2 (ix_u2 I 232 (I 204 44).toNatClampNeg (a0)) 204 44 ((I 204 44) + ((1 : Int32)))) (ix_u2 J 233 (I 204 44).toNatClampNeg (a1)) T)) rfl ⟨rfl, rfl, rfl, rfl⟩ ?_
  exact ix_sp rfl ⟨Nat.le_refl _, Nat.le_refl _, rfl, hQ _ _ _ h4⟩
def wp_X12_opens (a0 : Int32) (a1 : Int32) (I : Nat → Nat → Int32) (J : Nat → Nat → Int64) (T : Option Nat) (P : (Nat → Nat → Int32) → (Nat → Nat → Int64) → Option Nat → Prop) : Prop := ix_inb (a0) 16 = true ∧ ix_inb (a0) 16 = true ∧ ix_inb (a0) 16 = true ∧ P (ix_u2 (ix_u2 (ix_u2 I 234 (a0).toNatClampNeg (a1)) 235 (a0).toNatClampNeg ((0 : Int32))) 236 (a0).toNatClampNeg ((0 : Int32))) J T
set_option maxRecDepth 20000 in
theorem tp_X12_opens {d : Nat} {a0 : Int32} {a1 : Int32} {I : Nat → Nat → Int32} {J : Nat → Nat → Int64} {T : Option Nat} {P : (Nat → Nat → Int32) → (Nat → Nat → Int64) → Option Nat → Prop} {Q : ix_Q} (h : wp_X12_opens a0 a1 I J T P) (hQ : ∀ I J T, P I J T → Q none (ix_mem 276 I J T)) : ix_C (d + 1) 263 [.inr (.inr (.inl (some (204)))), .inl (a0), .inl (a1)] (ix_mem 276 I J T) Q := by
  unfold wp_X12_opens at h
  refine ix_enter (ls := [some (.inr (.inr (.inl (some (204))))), some (.inl (a0)), some (.inl (a1))]) rfl rfl rfl (Nat.le_of_ble_eq_true rfl) ?_
  obtain ⟨p1, h2⟩ := h
  refine ix_go 7 (x' := (11, [some (.inr (.inr (.inl (some (204))))), some (.inl (a0)), some (.inl (a1))], [.inr (.inr (.inl (some (235))))], 0, 0, ix_mem 276 (ix_u2 I 234 (a0).toNatClampNeg (a1)) J T)) rfl ⟨rfl, rfl, rfl, rfl, p1, rfl, rfl⟩ ?_
  obtain ⟨p3, h4⟩ := h2
  refine ix_go 7 (x' := (20, [some (.inr (.inr (.inl (some (204))))), some (.inl (a0)), some (.inl (a1))], [.inl ((0 : Int32)), .inl (a0), .inr (.inr (.inl (some (236))))], 0, 0, ix_mem 276 (ix_u2 (ix_u2 I 234 (a0).toNatClampNeg (a1)) 235 (a0).toNatClampNeg ((0 : Int32))) J T)) rfl ⟨rfl, rfl, p3, rfl, rfl⟩ ?_
  obtain ⟨p5, h6⟩ := h4
  refine ix_go 1 (x' := (21, [some (.inr (.inr (.inl (some (204))))), some (.inl (a0)), some (.inl (a1))], [], 0, 0, ix_mem 276 (ix_u2 (ix_u2 (ix_u2 I 234 (a0).toNatClampNeg (a1)) 235 (a0).toNatClampNeg ((0 : Int32))) 236 (a0).toNatClampNeg ((0 : Int32))) J T)) rfl ⟨rfl, rfl, p5⟩ ?_
  exact ix_sp rfl ⟨Nat.le_refl _, Nat.le_refl _, rfl, hQ _ _ _ h6⟩
def wp_J_coder_s4 (I : Nat → Nat → Int32) (J : Nat → Nat → Int64) (T : Option Nat) (P : Int32 → (Nat → Nat → Int32) → (Nat → Nat → Int64) → Option Nat → Prop) : Prop := ((0 : Int32)).toInt8.toInt32 = (0 : Int32) ∧ P ((0 : Int32)) I J T
set_option maxRecDepth 20000 in
theorem tp_J_coder_s4 {d : Nat} {I : Nat → Nat → Int32} {J : Nat → Nat → Int64} {T : Option Nat} {P : Int32 → (Nat → Nat → Int32) → (Nat → Nat → Int64) → Option Nat → Prop} {Q : ix_Q} (h : wp_J_coder_s4 I J T P) (hQ : ∀ v I J T, P v I J T → Q (some (.inl v)) (ix_mem 276 I J T)) : ix_C (d + 1) 352 [.inr (.inr (.inr 4))] (ix_mem 276 I J T) Q := by
  unfold wp_J_coder_s4 at h
  refine ix_enter (ls := [some (.inr (.inr (.inr 4)))]) rfl rfl rfl (Nat.le_of_ble_eq_true rfl) ?_
  refine ix_go 5 (x' := (14, [some (.inr (.inr (.inr 4)))], [.inl ((0 : Int32))], 0, 0, ix_mem 276 I J T)) rfl ⟨rfl, rfl⟩ ?_
  exact ix_sp rfl ⟨Nat.le_refl _, Nat.le_refl _, h.1, hQ _ _ _ _ h.2⟩
def wp_J_length_s4 (I : Nat → Nat → Int32) (J : Nat → Nat → Int64) (T : Option Nat) (P : Int32 → (Nat → Nat → Int32) → (Nat → Nat → Int64) → Option Nat → Prop) : Prop := wp_J_coder_s4 I J T (fun v1 I1 J1 T1 => P (((41 : Int32)) >>> ((v1) &&& 31)) I1 J1 T1)
set_option maxRecDepth 20000 in
theorem tp_J_length_s4 {d : Nat} {I : Nat → Nat → Int32} {J : Nat → Nat → Int64} {T : Option Nat} {P : Int32 → (Nat → Nat → Int32) → (Nat → Nat → Int64) → Option Nat → Prop} {Q : ix_Q} (h : wp_J_length_s4 I J T P) (hQ : ∀ v I J T, P v I J T → Q (some (.inl v)) (ix_mem 276 I J T)) : ix_C (d + 2) 351 [.inr (.inr (.inr 4))] (ix_mem 276 I J T) Q := by
  unfold wp_J_length_s4 at h
  refine ix_enter (ls := [some (.inr (.inr (.inr 4)))]) rfl rfl rfl (Nat.le_of_ble_eq_true rfl) ?_
  refine ix_go 4 (x' := (6, [some (.inr (.inr (.inr 4)))], [.inr (.inr (.inr 4)), .inl ((41 : Int32))], 0, 0, ix_mem 276 I J T)) rfl ⟨rfl, rfl, rfl, rfl⟩ ?_
  refine ix_sp rfl ⟨rfl, ⟨ix_le rfl, ix_le rfl, rfl⟩, ix_le rfl, Nat.le_refl _, Nat.le_refl _, tp_J_coder_s4 h (fun v1 I1 J1 T1 h1 => ?_)⟩
  change ix_W _ _ _ (9, [some (.inr (.inr (.inr 4)))], [.inl (v1), .inl ((41 : Int32))], 0, 0, ix_mem 276 I1 J1 T1)
  refine ix_go 1 (x' := (10, [some (.inr (.inr (.inr 4)))], [.inl (((41 : Int32)) >>> ((v1) &&& 31))], 0, 0, ix_mem 276 I1 J1 T1)) rfl trivial ?_
  exact ix_sp rfl ⟨Nat.le_refl _, Nat.le_refl _, trivial, hQ _ _ _ _ h1⟩
def wp_J_isLatin1_s4 (I : Nat → Nat → Int32) (J : Nat → Nat → Int64) (T : Option Nat) (P : Int32 → (Nat → Nat → Int32) → (Nat → Nat → Int64) → Option Nat → Prop) : Prop := P ((1 : Int32)) I J T
set_option maxRecDepth 20000 in
theorem tp_J_isLatin1_s4 {d : Nat} {I : Nat → Nat → Int32} {J : Nat → Nat → Int64} {T : Option Nat} {P : Int32 → (Nat → Nat → Int32) → (Nat → Nat → Int64) → Option Nat → Prop} {Q : ix_Q} (h : wp_J_isLatin1_s4 I J T P) (hQ : ∀ v I J T, P v I J T → Q (some (.inl v)) (ix_mem 276 I J T)) : ix_C (d + 1) 347 [.inr (.inr (.inr 4))] (ix_mem 276 I J T) Q := by
  unfold wp_J_isLatin1_s4 at h
  refine ix_enter (ls := [some (.inr (.inr (.inr 4)))]) rfl rfl rfl (Nat.le_of_ble_eq_true rfl) ?_
  refine ix_go 7 (x' := (18, [some (.inr (.inr (.inr 4)))], [.inl ((1 : Int32))], 0, 0, ix_mem 276 I J T)) rfl ⟨rfl, rfl⟩ ?_
  exact ix_sp rfl ⟨Nat.le_refl _, Nat.le_refl _, ix_01_ok rfl, hQ _ _ _ _ h⟩
def wp_J_lcharAt_rs8 (a1 : Int32) (I : Nat → Nat → Int32) (J : Nat → Nat → Int64) (T : Option Nat) (P : Int32 → (Nat → Nat → Int32) → (Nat → Nat → Int64) → Option Nat → Prop) : Prop := (¬ (a1) < 0 ∧ (a1) < ((41 : Int32))) ∧ ix_inb (a1) 41 = true ∧ (((((ix_sbyt.getD 3 []).getD (a1).toNatClampNeg 0) &&& ((255 : Int32))).toUInt32 % 65536).toInt32).toUInt32.toUInt16.toUInt32.toInt32 = ((((ix_sbyt.getD 3 []).getD (a1).toNatClampNeg 0) &&& ((255 : Int32))).toUInt32 % 65536).toInt32 ∧ P (((((ix_sbyt.getD 3 []).getD (a1).toNatClampNeg 0) &&& ((255 : Int32))).toUInt32 % 65536).toInt32) I J T
set_option maxRecDepth 20000 in
theorem tp_J_lcharAt_rs8 {d : Nat} {a1 : Int32} {I : Nat → Nat → Int32} {J : Nat → Nat → Int64} {T : Option Nat} {P : Int32 → (Nat → Nat → Int32) → (Nat → Nat → Int64) → Option Nat → Prop} {Q : ix_Q} (h : wp_J_lcharAt_rs8 a1 I J T P) (hQ : ∀ v I J T, P v I J T → Q (some (.inl v)) (ix_mem 276 I J T)) : ix_C (d + 1) 348 [.inr (.inr (.inr 8)), .inl (a1)] (ix_mem 276 I J T) Q := by
  unfold wp_J_lcharAt_rs8 at h
  refine ix_enter (ls := [some (.inr (.inr (.inr 8))), some (.inl (a1))]) rfl rfl rfl (Nat.le_of_ble_eq_true rfl) ?_
  refine ix_go 3 (x' := (3, [some (.inr (.inr (.inr 8))), some (.inl (a1))], [.inl ((41 : Int32)), .inl (a1)], 0, 0, ix_mem 276 I J T)) rfl ⟨rfl, rfl⟩ ?_
  obtain ⟨p1, h2⟩ := h
  refine ix_sp rfl ⟨ix_le rfl, ⟨Nat.zero_le _, Nat.zero_le _⟩, p1, ?_⟩
  change ix_W _ _ _ (6, [some (.inr (.inr (.inr 8))), some (.inl (a1))], [], 0, 0, ix_mem 276 I J T)
  obtain ⟨p3, h4⟩ := h2
  refine ix_go 6 (x' := (14, [some (.inr (.inr (.inr 8))), some (.inl (a1))], [.inl (((((ix_sbyt.getD 3 []).getD (a1).toNatClampNeg 0) &&& ((255 : Int32))).toUInt32 % 65536).toInt32)], 0, 0, ix_mem 276 I J T)) rfl ⟨rfl, rfl, p3⟩ ?_
  exact ix_sp rfl ⟨Nat.le_refl _, Nat.le_refl _, h4.1, hQ _ _ _ _ h4.2⟩
def wp_J_charAt_s4 (a0 : Int32) (I : Nat → Nat → Int32) (J : Nat → Nat → Int64) (T : Option Nat) (P : Int32 → (Nat → Nat → Int32) → (Nat → Nat → Int64) → Option Nat → Prop) : Prop := wp_J_isLatin1_s4 I J T (fun v1 I1 J1 T1 => ((v1 = 0 → False) ∧ (¬ (v1 = 0) → wp_J_lcharAt_rs8 (a0) I1 J1 T1 (fun v4 I4 J4 T4 => (v4).toUInt32.toUInt16.toUInt32.toInt32 = v4 ∧ P (v4) I4 J4 T4))))
set_option maxRecDepth 20000 in
theorem tp_J_charAt_s4 {d : Nat} {a0 : Int32} {I : Nat → Nat → Int32} {J : Nat → Nat → Int64} {T : Option Nat} {P : Int32 → (Nat → Nat → Int32) → (Nat → Nat → Int64) → Option Nat → Prop} {Q : ix_Q} (h : wp_J_charAt_s4 a0 I J T P) (hQ : ∀ v I J T, P v I J T → Q (some (.inl v)) (ix_mem 276 I J T)) : ix_C (d + 2) 346 [.inr (.inr (.inr 4)), .inl (a0)] (ix_mem 276 I J T) Q := by
  unfold wp_J_charAt_s4 at h
  refine ix_enter (ls := [some (.inr (.inr (.inr 4))), some (.inl (a0))]) rfl rfl rfl (Nat.le_of_ble_eq_true rfl) ?_
  refine ix_go 1 (x' := (1, [some (.inr (.inr (.inr 4))), some (.inl (a0))], [.inr (.inr (.inr 4))], 0, 0, ix_mem 276 I J T)) rfl trivial ?_
  refine ix_sp rfl ⟨rfl, ⟨ix_le rfl, ix_le rfl, rfl⟩, ix_le rfl, Nat.le_refl _, Nat.le_refl _, tp_J_isLatin1_s4 h (fun v1 I1 J1 T1 h1 => ?_)⟩
  change ix_W _ _ _ (4, [some (.inr (.inr (.inr 4))), some (.inl (a0))], [.inl (v1)], 0, 0, ix_mem 276 I1 J1 T1)
  refine ix_go 1 (x' := (if v1 = 0 then 16 else 7, [some (.inr (.inr (.inr 4))), some (.inl (a0))], [], 0, 0, ix_mem 276 I1 J1 T1)) rfl trivial ?_
  refine ix_br (fun c2 => ?_) (fun c2 => ?_)
  · have h3 := h1.1 c2
    refine ix_go 3 (x' := (21, [some (.inr (.inr (.inr 4))), some (.inl (a0))], [.inl (a0), .inr (.inr (.inr 8))], 0, 0, ix_mem 276 I1 J1 T1)) rfl ⟨rfl, rfl⟩ ?_
    exact h3.elim
  · have h3 := h1.2 c2
    refine ix_go 3 (x' := (12, [some (.inr (.inr (.inr 4))), some (.inl (a0))], [.inl (a0), .inr (.inr (.inr 8))], 0, 0, ix_mem 276 I1 J1 T1)) rfl ⟨rfl, rfl⟩ ?_
    refine ix_sp rfl ⟨rfl, trivial, ix_le rfl, Nat.le_refl _, Nat.le_refl _, tp_J_lcharAt_rs8 h3 (fun v4 I4 J4 T4 h4 => ?_)⟩
    change ix_W _ _ _ (15, [some (.inr (.inr (.inr 4))), some (.inl (a0))], [.inl (v4)], 0, 0, ix_mem 276 I4 J4 T4)
    exact ix_sp rfl ⟨Nat.le_refl _, Nat.le_refl _, h4.1, hQ _ _ _ _ h4.2⟩
def wb_X12_inWords_rs4_68_14_25_cs4 (x2 : Int32) (x3 : Int32) (x4 : Int32) (x5 : Int32) (x6 : Int32) (I : Nat → Nat → Int32) (J : Nat → Nat → Int64) (T : Option Nat) (V68 : Int32 → Int32 → Int32 → Int32 → Int32 → (Nat → Nat → Int32) → (Nat → Nat → Int64) → Option Nat → Prop) (V14 : Int32 → Int32 → (Nat → Nat → Int32) → (Nat → Nat → Int64) → Option Nat → Prop) (V25 : Int32 → Int32 → Int32 → (Nat → Nat → Int32) → (Nat → Nat → Int64) → Option Nat → Prop) (P : Int32 → (Nat → Nat → Int32) → (Nat → Nat → Int64) → Option Nat → Prop) : Prop := ((x6 < x4 → ((x5 = 0 → ((x5 = 0 → V14 (x2 + (1 : Int32)) ((x4) + ((1 : Int32))) I J T) ∧ (¬ (x5 = 0) → P (x2) I J T))) ∧ (¬ (x5 = 0) → wp_J_charAt_s4 (x6) I J T (fun v17 I17 J17 T17 => wp_X12_at (((I17 204 18) + (x6)) - (x3)) I17 J17 T17 (fun v18 I18 J18 T18 => ((v17 = v18 → V68 (x2) (x3) (x4) ((1 : Int32)) (x6 + (1 : Int32)) I18 J18 T18) ∧ (¬ (v17 = v18) → V68 (x2) (x3) (x4) ((0 : Int32)) (x6 + (1 : Int32)) I18 J18 T18))))))) ∧ (¬ (x6 < x4) → ((x5 = 0 → V14 (x2 + (1 : Int32)) ((x4) + ((1 : Int32))) I J T) ∧ (¬ (x5 = 0) → P (x2) I J T))))
def wl_X12_inWords_rs4_68_14_25_cs4 (x2 : Int32) (x3 : Int32) (x4 : Int32) (x5 : Int32) (x6 : Int32) (I : Nat → Nat → Int32) (J : Nat → Nat → Int64) (T : Option Nat) (V14 : Int32 → Int32 → (Nat → Nat → Int32) → (Nat → Nat → Int64) → Option Nat → Prop) (V25 : Int32 → Int32 → Int32 → (Nat → Nat → Int32) → (Nat → Nat → Int64) → Option Nat → Prop) (P : Int32 → (Nat → Nat → Int32) → (Nat → Nat → Int64) → Option Nat → Prop) : Prop := ∀ V : Int32 → Int32 → Int32 → Int32 → Int32 → (Nat → Nat → Int32) → (Nat → Nat → Int64) → Option Nat → Prop, (∀ (x2 : Int32) (x3 : Int32) (x4 : Int32) (x5 : Int32) (x6 : Int32) (I : Nat → Nat → Int32) (J : Nat → Nat → Int64) (T : Option Nat), wb_X12_inWords_rs4_68_14_25_cs4 x2 x3 x4 x5 x6 I J T V V14 V25 P → V x2 x3 x4 x5 x6 I J T) → V x2 x3 x4 x5 x6 I J T
set_option maxRecDepth 20000 in
theorem tl_X12_inWords_rs4_68_14_25_cs4 {d : Nat} {x2 : Int32} {x3 : Int32} {x4 : Int32} {x5 : Int32} {x6 : Int32} {I : Nat → Nat → Int32} {J : Nat → Nat → Int64} {T : Option Nat} {V14 : Int32 → Int32 → (Nat → Nat → Int32) → (Nat → Nat → Int64) → Option Nat → Prop} {V25 : Int32 → Int32 → Int32 → (Nat → Nat → Int32) → (Nat → Nat → Int64) → Option Nat → Prop} {P : Int32 → (Nat → Nat → Int32) → (Nat → Nat → Int64) → Option Nat → Prop} {Q : ix_Q} (h : wl_X12_inWords_rs4_68_14_25_cs4 x2 x3 x4 x5 x6 I J T V14 V25 P) (hV14 : ∀ (x2 : Int32) (x3 : Int32) I J T, V14 x2 x3 I J T → ix_W (ix_C (d + 2)) (12, ix_lk ix_l258, (some .int), 0, 0, Nat.blt 0 0, none) Q (14, [some (.inr (.inr (.inl (some (204))))), some (.inr (.inr (.inr 4))), some (.inl (x2)), some (.inl (x3)), none, none, none], [], 0, 0, ix_mem 276 I J T)) (hV25 : ∀ (x2 : Int32) (x3 : Int32) (x4 : Int32) I J T, V25 x2 x3 x4 I J T → ix_W (ix_C (d + 2)) (12, ix_lk ix_l258, (some .int), 0, 0, Nat.blt 0 0, none) Q (25, [some (.inr (.inr (.inl (some (204))))), some (.inr (.inr (.inr 4))), some (.inl (x2)), some (.inl (x3)), some (.inl (x4)), none, none], [], 0, 0, ix_mem 276 I J T)) (hQ : ∀ v I J T, P v I J T → Q (some (.inl v)) (ix_mem 276 I J T)) : ix_W (ix_C (d + 2)) (12, ix_lk ix_l258, (some .int), 0, 0, Nat.blt 0 0, none) Q (68, [some (.inr (.inr (.inl (some (204))))), some (.inr (.inr (.inr 4))), some (.inl (x2)), some (.inl (x3)), some (.inl (x4)), some (.inl (x5)), some (.inl (x6))], [], 0, 0, ix_mem 276 I J T) := by
  refine h (fun x2 x3 x4 x5 x6 I J T => ix_W (ix_C (d + 2)) (12, ix_lk ix_l258, (some .int), 0, 0, Nat.blt 0 0, none) Q (68, [some (.inr (.inr (.inl (some (204))))), some (.inr (.inr (.inr 4))), some (.inl (x2)), some (.inl (x3)), some (.inl (x4)), some (.inl (x5)), some (.inl (x6))], [], 0, 0, ix_mem 276 I J T)) ?_
  intro x2 x3 x4 x5 x6 I J T hb
  unfold wb_X12_inWords_rs4_68_14_25_cs4 at hb
  refine ix_go 3 (x' := (if x6 < x4 then 75 else 115, [some (.inr (.inr (.inl (some (204))))), some (.inr (.inr (.inr 4))), some (.inl (x2)), some (.inl (x3)), some (.inl (x4)), some (.inl (x5)), some (.inl (x6))], [], 0, 0, ix_mem 276 I J T)) rfl trivial ?_
  refine ix_br (fun c11 => ?_) (fun c11 => ?_)
  · have h12 := hb.1 c11
    refine ix_go 2 (x' := (if x5 = 0 then 115 else 80, [some (.inr (.inr (.inl (some (204))))), some (.inr (.inr (.inr 4))), some (.inl (x2)), some (.inl (x3)), some (.inl (x4)), some (.inl (x5)), some (.inl (x6))], [], 0, 0, ix_mem 276 I J T)) rfl trivial ?_
    refine ix_br (fun c13 => ?_) (fun c13 => ?_)
    · have h14 := h12.1 c13
      refine ix_go 2 (x' := (if x5 = 0 then 122 else 120, [some (.inr (.inr (.inl (some (204))))), some (.inr (.inr (.inr 4))), some (.inl (x2)), some (.inl (x3)), some (.inl (x4)), some (.inl (x5)), some (.inl (x6))], [], 0, 0, ix_mem 276 I J T)) rfl trivial ?_
      refine ix_br (fun c15 => ?_) (fun c15 => ?_)
      · have h16 := h14.1 c15
        refine ix_go 6 (x' := (14, [some (.inr (.inr (.inl (some (204))))), some (.inr (.inr (.inr 4))), some (.inl (x2 + (1 : Int32))), some (.inl ((x4) + ((1 : Int32)))), some (.inl (x4)), some (.inl (x5)), some (.inl (x6))], [], 0, 0, ix_mem 276 I J T)) rfl trivial ?_
        refine ix_subW ([some (.inr (.inr (.inl (some (204))))), some (.inr (.inr (.inr 4))), some (.inl (x2 + (1 : Int32))), some (.inl ((x4) + ((1 : Int32)))), none, none, none]) (ix_subS (ix_subS (ix_subS (ix_subS (ix_subN (ix_subN (ix_subN (ix_sub0)))))))) ?_
        exact hV14 _ _ _ _ _ h16
      · have h16 := h14.2 c15
        refine ix_go 1 (x' := (121, [some (.inr (.inr (.inl (some (204))))), some (.inr (.inr (.inr 4))), some (.inl (x2)), some (.inl (x3)), some (.inl (x4)), some (.inl (x5)), some (.inl (x6))], [.inl (x2)], 0, 0, ix_mem 276 I J T)) rfl trivial ?_
        exact ix_sp rfl ⟨Nat.le_refl _, Nat.le_refl _, trivial, hQ _ _ _ _ h16⟩
    · have h14 := h12.2 c13
      refine ix_go 2 (x' := (83, [some (.inr (.inr (.inl (some (204))))), some (.inr (.inr (.inr 4))), some (.inl (x2)), some (.inl (x3)), some (.inl (x4)), some (.inl (x5)), some (.inl (x6))], [.inl (x6), .inr (.inr (.inr 4))], 0, 0, ix_mem 276 I J T)) rfl trivial ?_
      refine ix_sp rfl ⟨rfl, ⟨ix_le rfl, ix_le rfl, rfl⟩, ix_le rfl, Nat.le_refl _, Nat.le_refl _, tp_J_charAt_s4 h14 (fun v17 I17 J17 T17 h17 => ?_)⟩
      change ix_W _ _ _ (86, [some (.inr (.inr (.inl (some (204))))), some (.inr (.inr (.inr 4))), some (.inl (x2)), some (.inl (x3)), some (.inl (x4)), some (.inl (x5)), some (.inl (x6))], [.inl (v17)], 0, 0, ix_mem 276 I17 J17 T17)
      refine ix_go 7 (x' := (96, [some (.inr (.inr (.inl (some (204))))), some (.inr (.inr (.inr 4))), some (.inl (x2)), some (.inl (x3)), some (.inl (x4)), some (.inl (x5)), some (.inl (x6))], [.inl (((I17 204 18) + (x6)) - (x3)), .inr (.inr (.inl (some (204)))), .inl (v17)], 0, 0, ix_mem 276 I17 J17 T17)) rfl ⟨rfl, rfl⟩ ?_
      refine ix_sp rfl ⟨rfl, ⟨ix_lt rfl, ix_eq rfl, ix_lt rfl⟩, ix_le rfl, Nat.le_refl _, Nat.le_refl _, tp_X12_at h17 (fun v18 I18 J18 T18 h18 => ?_)⟩
      change ix_W _ _ _ (99, [some (.inr (.inr (.inl (some (204))))), some (.inr (.inr (.inr 4))), some (.inl (x2)), some (.inl (x3)), some (.inl (x4)), some (.inl (x5)), some (.inl (x6))], [.inl (v18), .inl (v17)], 0, 0, ix_mem 276 I18 J18 T18)
      refine ix_go 1 (x' := (if v17 = v18 then 102 else 106, [some (.inr (.inr (.inl (some (204))))), some (.inr (.inr (.inr 4))), some (.inl (x2)), some (.inl (x3)), some (.inl (x4)), some (.inl (x5)), some (.inl (x6))], [], 0, 0, ix_mem 276 I18 J18 T18)) rfl trivial ?_
      refine ix_br (fun c19 => ?_) (fun c19 => ?_)
      · have h20 := h18.1 c19
        refine ix_go 5 (x' := (68, [some (.inr (.inr (.inl (some (204))))), some (.inr (.inr (.inr 4))), some (.inl (x2)), some (.inl (x3)), some (.inl (x4)), some (.inl ((1 : Int32))), some (.inl (x6 + (1 : Int32)))], [], 0, 0, ix_mem 276 I18 J18 T18)) rfl trivial ?_
        refine ix_subW ([some (.inr (.inr (.inl (some (204))))), some (.inr (.inr (.inr 4))), some (.inl (x2)), some (.inl (x3)), some (.inl (x4)), some (.inl ((1 : Int32))), some (.inl (x6 + (1 : Int32)))]) (ix_subS (ix_subS (ix_subS (ix_subS (ix_subS (ix_subS (ix_subS (ix_sub0)))))))) ?_
        exact h20
      · have h20 := h18.2 c19
        refine ix_go 4 (x' := (68, [some (.inr (.inr (.inl (some (204))))), some (.inr (.inr (.inr 4))), some (.inl (x2)), some (.inl (x3)), some (.inl (x4)), some (.inl ((0 : Int32))), some (.inl (x6 + (1 : Int32)))], [], 0, 0, ix_mem 276 I18 J18 T18)) rfl trivial ?_
        refine ix_subW ([some (.inr (.inr (.inl (some (204))))), some (.inr (.inr (.inr 4))), some (.inl (x2)), some (.inl (x3)), some (.inl (x4)), some (.inl ((0 : Int32))), some (.inl (x6 + (1 : Int32)))]) (ix_subS (ix_subS (ix_subS (ix_subS (ix_subS (ix_subS (ix_subS (ix_sub0)))))))) ?_
        exact h20
  · have h12 := hb.2 c11
    refine ix_go 2 (x' := (if x5 = 0 then 122 else 120, [some (.inr (.inr (.inl (some (204))))), some (.inr (.inr (.inr 4))), some (.inl (x2)), some (.inl (x3)), some (.inl (x4)), some (.inl (x5)), some (.inl (x6))], [], 0, 0, ix_mem 276 I J T)) rfl trivial ?_
    refine ix_br (fun c21 => ?_) (fun c21 => ?_)
    · have h22 := h12.1 c21
      refine ix_go 6 (x' := (14, [some (.inr (.inr (.inl (some (204))))), some (.inr (.inr (.inr 4))), some (.inl (x2 + (1 : Int32))), some (.inl ((x4) + ((1 : Int32)))), some (.inl (x4)), some (.inl (x5)), some (.inl (x6))], [], 0, 0, ix_mem 276 I J T)) rfl trivial ?_
      refine ix_subW ([some (.inr (.inr (.inl (some (204))))), some (.inr (.inr (.inr 4))), some (.inl (x2 + (1 : Int32))), some (.inl ((x4) + ((1 : Int32)))), none, none, none]) (ix_subS (ix_subS (ix_subS (ix_subS (ix_subN (ix_subN (ix_subN (ix_sub0)))))))) ?_
      exact hV14 _ _ _ _ _ h22
    · have h22 := h12.2 c21
      refine ix_go 1 (x' := (121, [some (.inr (.inr (.inl (some (204))))), some (.inr (.inr (.inr 4))), some (.inl (x2)), some (.inl (x3)), some (.inl (x4)), some (.inl (x5)), some (.inl (x6))], [.inl (x2)], 0, 0, ix_mem 276 I J T)) rfl trivial ?_
      exact ix_sp rfl ⟨Nat.le_refl _, Nat.le_refl _, trivial, hQ _ _ _ _ h22⟩
def wb_X12_inWords_rs4_25_14_cs4 (x2 : Int32) (x3 : Int32) (x4 : Int32) (I : Nat → Nat → Int32) (J : Nat → Nat → Int64) (T : Option Nat) (V25 : Int32 → Int32 → Int32 → (Nat → Nat → Int32) → (Nat → Nat → Int64) → Option Nat → Prop) (V14 : Int32 → Int32 → (Nat → Nat → Int32) → (Nat → Nat → Int64) → Option Nat → Prop) (P : Int32 → (Nat → Nat → Int32) → (Nat → Nat → Int64) → Option Nat → Prop) : Prop := wp_J_charAt_s4 (x4) I J T (fun v6 I6 J6 T6 => ((v6 = (32 : Int32) → (((x4) - (x3) = (I6 204 19) - (I6 204 18) → wl_X12_inWords_rs4_68_14_25_cs4 (x2) (x3) (x4) ((1 : Int32)) (x3) I6 J6 T6 V14 V25 P) ∧ (¬ ((x4) - (x3) = (I6 204 19) - (I6 204 18)) → wl_X12_inWords_rs4_68_14_25_cs4 (x2) (x3) (x4) ((0 : Int32)) (x3) I6 J6 T6 V14 V25 P))) ∧ (¬ (v6 = (32 : Int32)) → V25 (x2) (x3) (x4 + (1 : Int32)) I6 J6 T6)))
def wl_X12_inWords_rs4_25_14_cs4 (x2 : Int32) (x3 : Int32) (x4 : Int32) (I : Nat → Nat → Int32) (J : Nat → Nat → Int64) (T : Option Nat) (V14 : Int32 → Int32 → (Nat → Nat → Int32) → (Nat → Nat → Int64) → Option Nat → Prop) (P : Int32 → (Nat → Nat → Int32) → (Nat → Nat → Int64) → Option Nat → Prop) : Prop := ∀ V : Int32 → Int32 → Int32 → (Nat → Nat → Int32) → (Nat → Nat → Int64) → Option Nat → Prop, (∀ (x2 : Int32) (x3 : Int32) (x4 : Int32) (I : Nat → Nat → Int32) (J : Nat → Nat → Int64) (T : Option Nat), wb_X12_inWords_rs4_25_14_cs4 x2 x3 x4 I J T V V14 P → V x2 x3 x4 I J T) → V x2 x3 x4 I J T
set_option maxRecDepth 20000 in
theorem tl_X12_inWords_rs4_25_14_cs4 {d : Nat} {x2 : Int32} {x3 : Int32} {x4 : Int32} {I : Nat → Nat → Int32} {J : Nat → Nat → Int64} {T : Option Nat} {V14 : Int32 → Int32 → (Nat → Nat → Int32) → (Nat → Nat → Int64) → Option Nat → Prop} {P : Int32 → (Nat → Nat → Int32) → (Nat → Nat → Int64) → Option Nat → Prop} {Q : ix_Q} (h : wl_X12_inWords_rs4_25_14_cs4 x2 x3 x4 I J T V14 P) (hV14 : ∀ (x2 : Int32) (x3 : Int32) I J T, V14 x2 x3 I J T → ix_W (ix_C (d + 2)) (12, ix_lk ix_l258, (some .int), 0, 0, Nat.blt 0 0, none) Q (14, [some (.inr (.inr (.inl (some (204))))), some (.inr (.inr (.inr 4))), some (.inl (x2)), some (.inl (x3)), none, none, none], [], 0, 0, ix_mem 276 I J T)) (hQ : ∀ v I J T, P v I J T → Q (some (.inl v)) (ix_mem 276 I J T)) : ix_W (ix_C (d + 2)) (12, ix_lk ix_l258, (some .int), 0, 0, Nat.blt 0 0, none) Q (25, [some (.inr (.inr (.inl (some (204))))), some (.inr (.inr (.inr 4))), some (.inl (x2)), some (.inl (x3)), some (.inl (x4)), none, none], [], 0, 0, ix_mem 276 I J T) := by
  refine h (fun x2 x3 x4 I J T => ix_W (ix_C (d + 2)) (12, ix_lk ix_l258, (some .int), 0, 0, Nat.blt 0 0, none) Q (25, [some (.inr (.inr (.inl (some (204))))), some (.inr (.inr (.inr 4))), some (.inl (x2)), some (.inl (x3)), some (.inl (x4)), none, none], [], 0, 0, ix_mem 276 I J T)) ?_
  intro x2 x3 x4 I J T hb
  unfold wb_X12_inWords_rs4_25_14_cs4 at hb
  refine ix_go 2 (x' := (28, [some (.inr (.inr (.inl (some (204))))), some (.inr (.inr (.inr 4))), some (.inl (x2)), some (.inl (x3)), some (.inl (x4)), none, none], [.inl (x4), .inr (.inr (.inr 4))], 0, 0, ix_mem 276 I J T)) rfl trivial ?_
  refine ix_sp rfl ⟨rfl, ⟨ix_le rfl, ix_le rfl, rfl⟩, ix_le rfl, Nat.le_refl _, Nat.le_refl _, tp_J_charAt_s4 hb (fun v6 I6 J6 T6 h6 => ?_)⟩
  change ix_W _ _ _ (31, [some (.inr (.inr (.inl (some (204))))), some (.inr (.inr (.inr 4))), some (.inl (x2)), some (.inl (x3)), some (.inl (x4)), none, none], [.inl (v6)], 0, 0, ix_mem 276 I6 J6 T6)
  refine ix_go 2 (x' := (if v6 = (32 : Int32) then 42 else 36, [some (.inr (.inr (.inl (some (204))))), some (.inr (.inr (.inr 4))), some (.inl (x2)), some (.inl (x3)), some (.inl (x4)), none, none], [], 0, 0, ix_mem 276 I6 J6 T6)) rfl trivial ?_
  refine ix_br (fun c7 => ?_) (fun c7 => ?_)
  · have h8 := h6.1 c7
    refine ix_go 7 (x' := (54, [some (.inr (.inr (.inl (some (204))))), some (.inr (.inr (.inr 4))), some (.inl (x2)), some (.inl (x3)), some (.inl (x4)), none, none], [.inl (I6 204 18), .inl (I6 204 19), .inl ((x4) - (x3))], 0, 0, ix_mem 276 I6 J6 T6)) rfl ⟨rfl, rfl, rfl, rfl⟩ ?_
    refine ix_go 2 (x' := (if (x4) - (x3) = (I6 204 19) - (I6 204 18) then 58 else 62, [some (.inr (.inr (.inl (some (204))))), some (.inr (.inr (.inr 4))), some (.inl (x2)), some (.inl (x3)), some (.inl (x4)), none, none], [], 0, 0, ix_mem 276 I6 J6 T6)) rfl trivial ?_
    refine ix_br (fun c9 => ?_) (fun c9 => ?_)
    · have h10 := h8.1 c9
      refine ix_go 5 (x' := (68, [some (.inr (.inr (.inl (some (204))))), some (.inr (.inr (.inr 4))), some (.inl (x2)), some (.inl (x3)), some (.inl (x4)), some (.inl ((1 : Int32))), some (.inl (x3))], [], 0, 0, ix_mem 276 I6 J6 T6)) rfl trivial ?_
      refine ix_subW ([some (.inr (.inr (.inl (some (204))))), some (.inr (.inr (.inr 4))), some (.inl (x2)), some (.inl (x3)), some (.inl (x4)), some (.inl ((1 : Int32))), some (.inl (x3))]) (ix_subS (ix_subS (ix_subS (ix_subS (ix_subS (ix_subS (ix_subS (ix_sub0)))))))) ?_
      exact tl_X12_inWords_rs4_68_14_25_cs4 h10 hV14 (fun _ _ _ I J T hv => hv) hQ
    · have h10 := h8.2 c9
      refine ix_go 4 (x' := (68, [some (.inr (.inr (.inl (some (204))))), some (.inr (.inr (.inr 4))), some (.inl (x2)), some (.inl (x3)), some (.inl (x4)), some (.inl ((0 : Int32))), some (.inl (x3))], [], 0, 0, ix_mem 276 I6 J6 T6)) rfl trivial ?_
      refine ix_subW ([some (.inr (.inr (.inl (some (204))))), some (.inr (.inr (.inr 4))), some (.inl (x2)), some (.inl (x3)), some (.inl (x4)), some (.inl ((0 : Int32))), some (.inl (x3))]) (ix_subS (ix_subS (ix_subS (ix_subS (ix_subS (ix_subS (ix_subS (ix_sub0)))))))) ?_
      exact tl_X12_inWords_rs4_68_14_25_cs4 h10 hV14 (fun _ _ _ I J T hv => hv) hQ
  · have h8 := h6.2 c7
    refine ix_go 2 (x' := (25, [some (.inr (.inr (.inl (some (204))))), some (.inr (.inr (.inr 4))), some (.inl (x2)), some (.inl (x3)), some (.inl (x4 + (1 : Int32))), none, none], [], 0, 0, ix_mem 276 I6 J6 T6)) rfl trivial ?_
    refine ix_subW ([some (.inr (.inr (.inl (some (204))))), some (.inr (.inr (.inr 4))), some (.inl (x2)), some (.inl (x3)), some (.inl (x4 + (1 : Int32))), none, none]) (ix_subS (ix_subS (ix_subS (ix_subS (ix_subS (ix_subS (ix_subS (ix_sub0)))))))) ?_
    exact h8
def wb_X12_inWords_rs4_14_cs4 (x2 : Int32) (x3 : Int32) (I : Nat → Nat → Int32) (J : Nat → Nat → Int64) (T : Option Nat) (V14 : Int32 → Int32 → (Nat → Nat → Int32) → (Nat → Nat → Int64) → Option Nat → Prop) (P : Int32 → (Nat → Nat → Int32) → (Nat → Nat → Int64) → Option Nat → Prop) : Prop := wp_J_length_s4 I J T (fun v3 I3 J3 T3 => ((x3 < v3 → wl_X12_inWords_rs4_25_14_cs4 (x2) (x3) (x3) I3 J3 T3 V14 P) ∧ (¬ (x3 < v3) → P ((-1 : Int32)) I3 J3 T3)))
def wl_X12_inWords_rs4_14_cs4 (x2 : Int32) (x3 : Int32) (I : Nat → Nat → Int32) (J : Nat → Nat → Int64) (T : Option Nat) (P : Int32 → (Nat → Nat → Int32) → (Nat → Nat → Int64) → Option Nat → Prop) : Prop := ∀ V : Int32 → Int32 → (Nat → Nat → Int32) → (Nat → Nat → Int64) → Option Nat → Prop, (∀ (x2 : Int32) (x3 : Int32) (I : Nat → Nat → Int32) (J : Nat → Nat → Int64) (T : Option Nat), wb_X12_inWords_rs4_14_cs4 x2 x3 I J T V P → V x2 x3 I J T) → V x2 x3 I J T
set_option maxRecDepth 20000 in
theorem tl_X12_inWords_rs4_14_cs4 {d : Nat} {x2 : Int32} {x3 : Int32} {I : Nat → Nat → Int32} {J : Nat → Nat → Int64} {T : Option Nat} {P : Int32 → (Nat → Nat → Int32) → (Nat → Nat → Int64) → Option Nat → Prop} {Q : ix_Q} (h : wl_X12_inWords_rs4_14_cs4 x2 x3 I J T P) (hQ : ∀ v I J T, P v I J T → Q (some (.inl v)) (ix_mem 276 I J T)) : ix_W (ix_C (d + 2)) (12, ix_lk ix_l258, (some .int), 0, 0, Nat.blt 0 0, none) Q (14, [some (.inr (.inr (.inl (some (204))))), some (.inr (.inr (.inr 4))), some (.inl (x2)), some (.inl (x3)), none, none, none], [], 0, 0, ix_mem 276 I J T) := by
  refine h (fun x2 x3 I J T => ix_W (ix_C (d + 2)) (12, ix_lk ix_l258, (some .int), 0, 0, Nat.blt 0 0, none) Q (14, [some (.inr (.inr (.inl (some (204))))), some (.inr (.inr (.inr 4))), some (.inl (x2)), some (.inl (x3)), none, none, none], [], 0, 0, ix_mem 276 I J T)) ?_
  intro x2 x3 I J T hb
  unfold wb_X12_inWords_rs4_14_cs4 at hb
  refine ix_go 2 (x' := (16, [some (.inr (.inr (.inl (some (204))))), some (.inr (.inr (.inr 4))), some (.inl (x2)), some (.inl (x3)), none, none, none], [.inr (.inr (.inr 4)), .inl (x3)], 0, 0, ix_mem 276 I J T)) rfl trivial ?_
  refine ix_sp rfl ⟨rfl, ⟨ix_le rfl, ix_le rfl, rfl⟩, ix_le rfl, Nat.le_refl _, Nat.le_refl _, tp_J_length_s4 hb (fun v3 I3 J3 T3 h3 => ?_)⟩
  change ix_W _ _ _ (19, [some (.inr (.inr (.inl (some (204))))), some (.inr (.inr (.inr 4))), some (.inl (x2)), some (.inl (x3)), none, none, none], [.inl (v3), .inl (x3)], 0, 0, ix_mem 276 I3 J3 T3)
  refine ix_go 1 (x' := (if x3 < v3 then 22 else 133, [some (.inr (.inr (.inl (some (204))))), some (.inr (.inr (.inr 4))), some (.inl (x2)), some (.inl (x3)), none, none, none], [], 0, 0, ix_mem 276 I3 J3 T3)) rfl trivial ?_
  refine ix_br (fun c4 => ?_) (fun c4 => ?_)
  · have h5 := h3.1 c4
    refine ix_go 2 (x' := (25, [some (.inr (.inr (.inl (some (204))))), some (.inr (.inr (.inr 4))), some (.inl (x2)), some (.inl (x3)), some (.inl (x3)), none, none], [], 0, 0, ix_mem 276 I3 J3 T3)) rfl trivial ?_
    refine ix_subW ([some (.inr (.inr (.inl (some (204))))), some (.inr (.inr (.inr 4))), some (.inl (x2)), some (.inl (x3)), some (.inl (x3)), none, none]) (ix_subS (ix_subS (ix_subS (ix_subS (ix_subS (ix_subS (ix_subS (ix_sub0)))))))) ?_
    exact tl_X12_inWords_rs4_25_14_cs4 h5 (fun _ _ I J T hv => hv) hQ
  · have h5 := h3.2 c4
    refine ix_go 1 (x' := (134, [some (.inr (.inr (.inl (some (204))))), some (.inr (.inr (.inr 4))), some (.inl (x2)), some (.inl (x3)), none, none, none], [.inl ((-1 : Int32))], 0, 0, ix_mem 276 I3 J3 T3)) rfl trivial ?_
    exact ix_sp rfl ⟨Nat.le_refl _, Nat.le_refl _, trivial, hQ _ _ _ _ h5⟩
def wp_X12_inWords_rs4 (I : Nat → Nat → Int32) (J : Nat → Nat → Int64) (T : Option Nat) (P : Int32 → (Nat → Nat → Int32) → (Nat → Nat → Int64) → Option Nat → Prop) : Prop := ((I 204 17 = (2 : Int32) → wl_X12_inWords_rs4_14_cs4 ((0 : Int32)) ((1 : Int32)) I J T P) ∧ (¬ (I 204 17 = (2 : Int32)) → P ((-1 : Int32)) I J T))
set_option maxRecDepth 20000 in
theorem tp_X12_inWords_rs4 {d : Nat} {I : Nat → Nat → Int32} {J : Nat → Nat → Int64} {T : Option Nat} {P : Int32 → (Nat → Nat → Int32) → (Nat → Nat → Int64) → Option Nat → Prop} {Q : ix_Q} (h : wp_X12_inWords_rs4 I J T P) (hQ : ∀ v I J T, P v I J T → Q (some (.inl v)) (ix_mem 276 I J T)) : ix_C (d + 3) 258 [.inr (.inr (.inl (some (204)))), .inr (.inr (.inr 4))] (ix_mem 276 I J T) Q := by
  unfold wp_X12_inWords_rs4 at h
  refine ix_enter (ls := [some (.inr (.inr (.inl (some (204))))), some (.inr (.inr (.inr 4))), none, none, none, none, none]) rfl rfl rfl (Nat.le_of_ble_eq_true rfl) ?_
  refine ix_go 4 (x' := (if I 204 17 = (2 : Int32) then 10 else 8, [some (.inr (.inr (.inl (some (204))))), some (.inr (.inr (.inr 4))), none, none, none, none, none], [], 0, 0, ix_mem 276 I J T)) rfl ⟨rfl, rfl⟩ ?_
  refine ix_br (fun c1 => ?_) (fun c1 => ?_)
  · have h2 := h.1 c1
    refine ix_go 4 (x' := (14, [some (.inr (.inr (.inl (some (204))))), some (.inr (.inr (.inr 4))), some (.inl ((0 : Int32))), some (.inl ((1 : Int32))), none, none, none], [], 0, 0, ix_mem 276 I J T)) rfl trivial ?_
    refine ix_subW ([some (.inr (.inr (.inl (some (204))))), some (.inr (.inr (.inr 4))), some (.inl ((0 : Int32))), some (.inl ((1 : Int32))), none, none, none]) (ix_subS (ix_subS (ix_subS (ix_subS (ix_subS (ix_subS (ix_subS (ix_sub0)))))))) ?_
    exact tl_X12_inWords_rs4_14_cs4 h2 hQ
  · have h2 := h.2 c1
    refine ix_go 1 (x' := (9, [some (.inr (.inr (.inl (some (204))))), some (.inr (.inr (.inr 4))), none, none, none, none, none], [.inl ((-1 : Int32))], 0, 0, ix_mem 276 I J T)) rfl trivial ?_
    exact ix_sp rfl ⟨Nat.le_refl _, Nat.le_refl _, trivial, hQ _ _ _ _ h2⟩
