def wp_J9_min_7cf53 (a0 : Int32) (a1 : Int32) (I : Nat → Nat → Int32) (J : Nat → Nat → Int64) (T : Option Nat) (P : Int32 → (Nat → Nat → Int32) → (Nat → Nat → Int64) → Option Nat → Prop) : Prop := ((a0 ≤ a1 → P (a0) I J T) ∧ (¬ (a0 ≤ a1) → P (a1) I J T))
set_option maxRecDepth 20000 in
theorem tp_J9_min_7cf53 {d : Nat} {a0 : Int32} {a1 : Int32} {I : Nat → Nat → Int32} {J : Nat → Nat → Int64} {T : Option Nat} {P : Int32 → (Nat → Nat → Int32) → (Nat → Nat → Int64) → Option Nat → Prop} {Q : ix_Q} (h : wp_J9_min_7cf53 a0 a1 I J T P) (hQ : ∀ v I J T, P v I J T → Q (some (.inl v)) (ix_mem 276 I J T)) : ix_C (d + 1) 344 [.inl (a0), .inl (a1)] (ix_mem 276 I J T) Q := by
  unfold wp_J9_min_7cf53 at h
  refine ix_enter (ls := [some (.inl (a0)), some (.inl (a1))]) rfl rfl rfl (Nat.le_of_ble_eq_true rfl) ?_
  refine ix_go 3 (x' := (if a0 ≤ a1 then 5 else 9, [some (.inl (a0)), some (.inl (a1))], [], 0, 0, ix_mem 276 I J T)) rfl trivial ?_
  refine ix_br (fun c1 => ?_) (fun c1 => ?_)
  · have h2 := h.1 c1
    refine ix_go 2 (x' := (10, [some (.inl (a0)), some (.inl (a1))], [.inl (a0)], 0, 0, ix_mem 276 I J T)) rfl trivial ?_
    exact ix_sp rfl ⟨Nat.le_refl _, Nat.le_refl _, trivial, hQ _ _ _ _ h2⟩
  · have h2 := h.2 c1
    refine ix_go 1 (x' := (10, [some (.inl (a0)), some (.inl (a1))], [.inl (a1)], 0, 0, ix_mem 276 I J T)) rfl trivial ?_
    exact ix_sp rfl ⟨Nat.le_refl _, Nat.le_refl _, trivial, hQ _ _ _ _ h2⟩
def wp_X2_cost (a0 : Int32) (a1 : Int32) (I : Nat → Nat → Int32) (J : Nat → Nat → Int64) (T : Option Nat) (P : Int32 → (Nat → Nat → Int32) → (Nat → Nat → Int64) → Option Nat → Prop) : Prop := ix_inb (a0) 12 = true ∧ ix_inb (a1) 12 = true ∧ ((I 184 (a0).toNatClampNeg = I 185 (a1).toNatClampNeg → ix_inb (a0) 12 = true ∧ ix_inb (a1) 12 = true ∧ wp_J9_abs_0f7a4 ((I 187 (a0).toNatClampNeg) - (I 188 (a1).toNatClampNeg)) I J T (fun v11 I11 J11 T11 => wp_J9_min_7cf53 ((10 : Int32)) (v11) I11 J11 T11 (fun v12 I12 J12 T12 => ix_inb (a0) 12 = true ∧ ix_inb (a1) 12 = true ∧ wp_J9_abs_0f7a4 ((I12 190 (a0).toNatClampNeg) - (I12 191 (a1).toNatClampNeg)) I12 J12 T12 (fun v17 I17 J17 T17 => wp_J9_min_7cf53 ((20 : Int32)) ((v17) / ((100 : Int32))) I17 J17 T17 (fun v18 I18 J18 T18 => P ((((0 : Int32)) + (v12)) + (v18)) I18 J18 T18))))) ∧ (¬ (I 184 (a0).toNatClampNeg = I 185 (a1).toNatClampNeg) → ix_inb (a0) 12 = true ∧ ix_inb (a1) 12 = true ∧ wp_J9_abs_0f7a4 ((I 187 (a0).toNatClampNeg) - (I 188 (a1).toNatClampNeg)) I J T (fun v23 I23 J23 T23 => wp_J9_min_7cf53 ((10 : Int32)) (v23) I23 J23 T23 (fun v24 I24 J24 T24 => ix_inb (a0) 12 = true ∧ ix_inb (a1) 12 = true ∧ wp_J9_abs_0f7a4 ((I24 190 (a0).toNatClampNeg) - (I24 191 (a1).toNatClampNeg)) I24 J24 T24 (fun v29 I29 J29 T29 => wp_J9_min_7cf53 ((20 : Int32)) ((v29) / ((100 : Int32))) I29 J29 T29 (fun v30 I30 J30 T30 => P ((((20 : Int32)) + (v24)) + (v30)) I30 J30 T30))))))
set_option maxRecDepth 20000 in
theorem tp_X2_cost {d : Nat} {a0 : Int32} {a1 : Int32} {I : Nat → Nat → Int32} {J : Nat → Nat → Int64} {T : Option Nat} {P : Int32 → (Nat → Nat → Int32) → (Nat → Nat → Int64) → Option Nat → Prop} {Q : ix_Q} (h : wp_X2_cost a0 a1 I J T P) (hQ : ∀ v I J T, P v I J T → Q (some (.inl v)) (ix_mem 276 I J T)) : ix_C (d + 2) 34 [.inr (.inr (.inl (some (181)))), .inl (a0), .inl (a1)] (ix_mem 276 I J T) Q := by
  unfold wp_X2_cost at h
  refine ix_enter (ls := [some (.inr (.inr (.inl (some (181))))), some (.inl (a0)), some (.inl (a1)), none, none, none]) rfl rfl rfl (Nat.le_of_ble_eq_true rfl) ?_
  obtain ⟨p1, h2⟩ := h
  obtain ⟨p3, h4⟩ := h2
  refine ix_go 13 (x' := (if I 184 (a0).toNatClampNeg = I 185 (a1).toNatClampNeg then 19 else 23, [some (.inr (.inr (.inl (some (181))))), some (.inl (a0)), some (.inl (a1)), none, none, none], [], 0, 0, ix_mem 276 I J T)) rfl ⟨rfl, rfl, rfl, rfl, rfl, rfl, rfl, rfl, rfl, p1, rfl, rfl, rfl, rfl, rfl, rfl, rfl, rfl, rfl, p3⟩ ?_
  refine ix_br (fun c5 => ?_) (fun c5 => ?_)
  · have h6 := h4.1 c5
    obtain ⟨p7, h8⟩ := h6
    obtain ⟨p9, h10⟩ := h8
    refine ix_go 17 (x' := (45, [some (.inr (.inr (.inl (some (181))))), some (.inl (a0)), some (.inl (a1)), some (.inl ((0 : Int32))), none, none], [.inl ((I 187 (a0).toNatClampNeg) - (I 188 (a1).toNatClampNeg)), .inl ((10 : Int32))], 0, 0, ix_mem 276 I J T)) rfl ⟨rfl, rfl, rfl, rfl, rfl, rfl, rfl, rfl, rfl, p7, rfl, rfl, rfl, rfl, rfl, rfl, rfl, rfl, rfl, p9⟩ ?_
    refine ix_sp rfl ⟨rfl, trivial, ix_le rfl, Nat.le_refl _, Nat.le_refl _, tp_J9_abs_0f7a4 h10 (fun v11 I11 J11 T11 h11 => ?_)⟩
    change ix_W _ _ _ (48, [some (.inr (.inr (.inl (some (181))))), some (.inl (a0)), some (.inl (a1)), some (.inl ((0 : Int32))), none, none], [.inl (v11), .inl ((10 : Int32))], 0, 0, ix_mem 276 I11 J11 T11)
    refine ix_sp rfl ⟨rfl, trivial, ix_le rfl, Nat.le_refl _, Nat.le_refl _, tp_J9_min_7cf53 h11 (fun v12 I12 J12 T12 h12 => ?_)⟩
    change ix_W _ _ _ (51, [some (.inr (.inr (.inl (some (181))))), some (.inl (a0)), some (.inl (a1)), some (.inl ((0 : Int32))), none, none], [.inl (v12)], 0, 0, ix_mem 276 I12 J12 T12)
    obtain ⟨p13, h14⟩ := h12
    obtain ⟨p15, h16⟩ := h14
    refine ix_go 15 (x' := (72, [some (.inr (.inr (.inl (some (181))))), some (.inl (a0)), some (.inl (a1)), some (.inl ((0 : Int32))), some (.inl (v12)), none], [.inl ((I12 190 (a0).toNatClampNeg) - (I12 191 (a1).toNatClampNeg)), .inl ((20 : Int32))], 0, 0, ix_mem 276 I12 J12 T12)) rfl ⟨rfl, rfl, rfl, rfl, rfl, rfl, rfl, rfl, rfl, p13, rfl, rfl, rfl, rfl, rfl, rfl, rfl, rfl, rfl, p15⟩ ?_
    refine ix_sp rfl ⟨rfl, trivial, ix_le rfl, Nat.le_refl _, Nat.le_refl _, tp_J9_abs_0f7a4 h16 (fun v17 I17 J17 T17 h17 => ?_)⟩
    change ix_W _ _ _ (75, [some (.inr (.inr (.inl (some (181))))), some (.inl (a0)), some (.inl (a1)), some (.inl ((0 : Int32))), some (.inl (v12)), none], [.inl (v17), .inl ((20 : Int32))], 0, 0, ix_mem 276 I17 J17 T17)
    refine ix_go 2 (x' := (78, [some (.inr (.inr (.inl (some (181))))), some (.inl (a0)), some (.inl (a1)), some (.inl ((0 : Int32))), some (.inl (v12)), none], [.inl ((v17) / ((100 : Int32))), .inl ((20 : Int32))], 0, 0, ix_mem 276 I17 J17 T17)) rfl rfl ?_
    refine ix_sp rfl ⟨rfl, trivial, ix_le rfl, Nat.le_refl _, Nat.le_refl _, tp_J9_min_7cf53 h17 (fun v18 I18 J18 T18 h18 => ?_)⟩
    change ix_W _ _ _ (81, [some (.inr (.inr (.inl (some (181))))), some (.inl (a0)), some (.inl (a1)), some (.inl ((0 : Int32))), some (.inl (v12)), none], [.inl (v18)], 0, 0, ix_mem 276 I18 J18 T18)
    refine ix_go 6 (x' := (90, [some (.inr (.inr (.inl (some (181))))), some (.inl (a0)), some (.inl (a1)), some (.inl ((0 : Int32))), some (.inl (v12)), some (.inl (v18))], [.inl ((((0 : Int32)) + (v12)) + (v18))], 0, 0, ix_mem 276 I18 J18 T18)) rfl trivial ?_
    exact ix_sp rfl ⟨Nat.le_refl _, Nat.le_refl _, trivial, hQ _ _ _ _ h18⟩
  · have h6 := h4.2 c5
    obtain ⟨p19, h20⟩ := h6
    obtain ⟨p21, h22⟩ := h20
    refine ix_go 16 (x' := (45, [some (.inr (.inr (.inl (some (181))))), some (.inl (a0)), some (.inl (a1)), some (.inl ((20 : Int32))), none, none], [.inl ((I 187 (a0).toNatClampNeg) - (I 188 (a1).toNatClampNeg)), .inl ((10 : Int32))], 0, 0, ix_mem 276 I J T)) rfl ⟨rfl, rfl, rfl, rfl, rfl, rfl, rfl, rfl, rfl, p19, rfl, rfl, rfl, rfl, rfl, rfl, rfl, rfl, rfl, p21⟩ ?_
    refine ix_sp rfl ⟨rfl, trivial, ix_le rfl, Nat.le_refl _, Nat.le_refl _, tp_J9_abs_0f7a4 h22 (fun v23 I23 J23 T23 h23 => ?_)⟩
    change ix_W _ _ _ (48, [some (.inr (.inr (.inl (some (181))))), some (.inl (a0)), some (.inl (a1)), some (.inl ((20 : Int32))), none, none], [.inl (v23), .inl ((10 : Int32))], 0, 0, ix_mem 276 I23 J23 T23)
    refine ix_sp rfl ⟨rfl, trivial, ix_le rfl, Nat.le_refl _, Nat.le_refl _, tp_J9_min_7cf53 h23 (fun v24 I24 J24 T24 h24 => ?_)⟩
    change ix_W _ _ _ (51, [some (.inr (.inr (.inl (some (181))))), some (.inl (a0)), some (.inl (a1)), some (.inl ((20 : Int32))), none, none], [.inl (v24)], 0, 0, ix_mem 276 I24 J24 T24)
    obtain ⟨p25, h26⟩ := h24
    obtain ⟨p27, h28⟩ := h26
    refine ix_go 15 (x' := (72, [some (.inr (.inr (.inl (some (181))))), some (.inl (a0)), some (.inl (a1)), some (.inl ((20 : Int32))), some (.inl (v24)), none], [.inl ((I24 190 (a0).toNatClampNeg) - (I24 191 (a1).toNatClampNeg)), .inl ((20 : Int32))], 0, 0, ix_mem 276 I24 J24 T24)) rfl ⟨rfl, rfl, rfl, rfl, rfl, rfl, rfl, rfl, rfl, p25, rfl, rfl, rfl, rfl, rfl, rfl, rfl, rfl, rfl, p27⟩ ?_
    refine ix_sp rfl ⟨rfl, trivial, ix_le rfl, Nat.le_refl _, Nat.le_refl _, tp_J9_abs_0f7a4 h28 (fun v29 I29 J29 T29 h29 => ?_)⟩
    change ix_W _ _ _ (75, [some (.inr (.inr (.inl (some (181))))), some (.inl (a0)), some (.inl (a1)), some (.inl ((20 : Int32))), some (.inl (v24)), none], [.inl (v29), .inl ((20 : Int32))], 0, 0, ix_mem 276 I29 J29 T29)
    refine ix_go 2 (x' := (78, [some (.inr (.inr (.inl (some (181))))), some (.inl (a0)), some (.inl (a1)), some (.inl ((20 : Int32))), some (.inl (v24)), none], [.inl ((v29) / ((100 : Int32))), .inl ((20 : Int32))], 0, 0, ix_mem 276 I29 J29 T29)) rfl rfl ?_
    refine ix_sp rfl ⟨rfl, trivial, ix_le rfl, Nat.le_refl _, Nat.le_refl _, tp_J9_min_7cf53 h29 (fun v30 I30 J30 T30 h30 => ?_)⟩
    change ix_W _ _ _ (81, [some (.inr (.inr (.inl (some (181))))), some (.inl (a0)), some (.inl (a1)), some (.inl ((20 : Int32))), some (.inl (v24)), none], [.inl (v30)], 0, 0, ix_mem 276 I30 J30 T30)
    refine ix_go 6 (x' := (90, [some (.inr (.inr (.inl (some (181))))), some (.inl (a0)), some (.inl (a1)), some (.inl ((20 : Int32))), some (.inl (v24)), some (.inl (v30))], [.inl ((((20 : Int32)) + (v24)) + (v30))], 0, 0, ix_mem 276 I30 J30 T30)) rfl trivial ?_
    exact ix_sp rfl ⟨Nat.le_refl _, Nat.le_refl _, trivial, hQ _ _ _ _ h30⟩
def wp_X2_weightOf (a0 : Int32) (a1 : Int32) (I : Nat → Nat → Int32) (J : Nat → Nat → Int64) (T : Option Nat) (P : Int64 → (Nat → Nat → Int32) → (Nat → Nat → Int64) → Option Nat → Prop) : Prop := ((a1 < I 182 ((1 : Int32)).toNatClampNeg → wp_X2_cost (a0) (a1) I J T (fun v3 I3 J3 T3 => ix_inb (a0) 12 = true ∧ P (((((v3) - ((25 : Int32))).toInt64) * ((23298085122481 : Int64))) + (((a1).toInt64) * (J3 193 (a0).toNatClampNeg))) I3 J3 T3)) ∧ (¬ (a1 < I 182 ((1 : Int32)).toNatClampNeg) → ix_inb (a0) 12 = true ∧ P (((582452128062025 : Int64)) + (((12 : Int64)) * (J 193 (a0).toNatClampNeg))) I J T))
set_option maxRecDepth 20000 in
theorem tp_X2_weightOf {d : Nat} {a0 : Int32} {a1 : Int32} {I : Nat → Nat → Int32} {J : Nat → Nat → Int64} {T : Option Nat} {P : Int64 → (Nat → Nat → Int32) → (Nat → Nat → Int64) → Option Nat → Prop} {Q : ix_Q} (h : wp_X2_weightOf a0 a1 I J T P) (hQ : ∀ v I J T, P v I J T → Q (some (.inr (.inl v))) (ix_mem 276 I J T)) : ix_C (d + 3) 35 [.inr (.inr (.inl (some (181)))), .inl (a0), .inl (a1)] (ix_mem 276 I J T) Q := by
  unfold wp_X2_weightOf at h
  refine ix_enter (ls := [some (.inr (.inr (.inl (some (181))))), some (.inl (a0)), some (.inl (a1))]) rfl rfl rfl (Nat.le_of_ble_eq_true rfl) ?_
  refine ix_go 6 (x' := (if a1 < I 182 ((1 : Int32)).toNatClampNeg then 10 else 35, [some (.inr (.inr (.inl (some (181))))), some (.inl (a0)), some (.inl (a1))], [], 0, 0, ix_mem 276 I J T)) rfl ⟨rfl, rfl, rfl, rfl, rfl⟩ ?_
  refine ix_br (fun c1 => ?_) (fun c1 => ?_)
  · have h2 := h.1 c1
    refine ix_go 3 (x' := (13, [some (.inr (.inr (.inl (some (181))))), some (.inl (a0)), some (.inl (a1))], [.inl (a1), .inl (a0), .inr (.inr (.inl (some (181))))], 0, 0, ix_mem 276 I J T)) rfl trivial ?_
    refine ix_sp rfl ⟨rfl, ⟨ix_lt rfl, ix_eq rfl, ix_lt rfl⟩, ix_le rfl, Nat.le_refl _, Nat.le_refl _, tp_X2_cost h2 (fun v3 I3 J3 T3 h3 => ?_)⟩
    change ix_W _ _ _ (16, [some (.inr (.inr (.inl (some (181))))), some (.inl (a0)), some (.inl (a1))], [.inl (v3)], 0, 0, ix_mem 276 I3 J3 T3)
    obtain ⟨p4, h5⟩ := h3
    refine ix_go 13 (x' := (34, [some (.inr (.inr (.inl (some (181))))), some (.inl (a0)), some (.inl (a1))], [.inr (.inl (((((v3) - ((25 : Int32))).toInt64) * ((23298085122481 : Int64))) + (((a1).toInt64) * (J3 193 (a0).toNatClampNeg))))], 0, 0, ix_mem 276 I3 J3 T3)) rfl ⟨rfl, rfl, rfl, rfl, p4⟩ ?_
    exact ix_sp rfl ⟨Nat.le_refl _, Nat.le_refl _, rfl, hQ _ _ _ _ h5⟩
  · have h2 := h.2 c1
    obtain ⟨p6, h7⟩ := h2
    refine ix_go 8 (x' := (49, [some (.inr (.inr (.inl (some (181))))), some (.inl (a0)), some (.inl (a1))], [.inr (.inl (((582452128062025 : Int64)) + (((12 : Int64)) * (J 193 (a0).toNatClampNeg))))], 0, 0, ix_mem 276 I J T)) rfl ⟨rfl, rfl, rfl, rfl, p6⟩ ?_
    exact ix_sp rfl ⟨Nat.le_refl _, Nat.le_refl _, rfl, hQ _ _ _ _ h7⟩
def wb_X2_nearestFrom_18 (x1 : Int32) (x2 : Int32) (x3 : Int32) (x4 : Int32) (x5 : Int64) (x7 : Int32) (I : Nat → Nat → Int32) (J : Nat → Nat → Int64) (T : Option Nat) (V18 : Int32 → Int32 → Int32 → Int32 → Int64 → Int32 → (Nat → Nat → Int32) → (Nat → Nat → Int64) → Option Nat → Prop) (P : Int32 → (Nat → Nat → Int32) → (Nat → Nat → Int64) → Option Nat → Prop) : Prop := ((x7 ≤ x2 → ix_inb (x7) 25 = true ∧ ((I 199 (x7).toNatClampNeg = 0 → wp_X2_weightOf ((x4) - ((1 : Int32))) ((x7) - ((1 : Int32))) I J T (fun v9 I9 J9 T9 => ix_inb (x4) 13 = true ∧ ix_inb (x7) 25 = true ∧ ix_inb (x7) 25 = true ∧ ((lg_cmp (((v9) - (J9 194 (x4).toNatClampNeg)) - (J9 195 (x7).toNatClampNeg)) (J9 196 (x7).toNatClampNeg) < 0 → ix_inb (x7) 25 = true ∧ ix_inb (x7) 25 = true ∧ ix_inb (x7) 25 = true ∧ ((lg_cmp ((ix_u2 J9 196 (x7).toNatClampNeg (((v9) - (J9 194 (x4).toNatClampNeg)) - (J9 195 (x7).toNatClampNeg))) 196 (x7).toNatClampNeg) (x5) < 0 → ix_inb (x7) 25 = true ∧ V18 (x1) (x2) (x7) (x4) ((ix_u2 J9 196 (x7).toNatClampNeg (((v9) - (J9 194 (x4).toNatClampNeg)) - (J9 195 (x7).toNatClampNeg))) 196 (x7).toNatClampNeg) (x7 + (1 : Int32)) (ix_u2 I9 198 (x7).toNatClampNeg (x1)) (ix_u2 J9 196 (x7).toNatClampNeg (((v9) - (J9 194 (x4).toNatClampNeg)) - (J9 195 (x7).toNatClampNeg))) T9) ∧ (¬ (lg_cmp ((ix_u2 J9 196 (x7).toNatClampNeg (((v9) - (J9 194 (x4).toNatClampNeg)) - (J9 195 (x7).toNatClampNeg))) 196 (x7).toNatClampNeg) (x5) < 0) → V18 (x1) (x2) (x3) (x4) (x5) (x7 + (1 : Int32)) (ix_u2 I9 198 (x7).toNatClampNeg (x1)) (ix_u2 J9 196 (x7).toNatClampNeg (((v9) - (J9 194 (x4).toNatClampNeg)) - (J9 195 (x7).toNatClampNeg))) T9))) ∧ (¬ (lg_cmp (((v9) - (J9 194 (x4).toNatClampNeg)) - (J9 195 (x7).toNatClampNeg)) (J9 196 (x7).toNatClampNeg) < 0) → ix_inb (x7) 25 = true ∧ ((lg_cmp (J9 196 (x7).toNatClampNeg) (x5) < 0 → ix_inb (x7) 25 = true ∧ V18 (x1) (x2) (x7) (x4) (J9 196 (x7).toNatClampNeg) (x7 + (1 : Int32)) I9 J9 T9) ∧ (¬ (lg_cmp (J9 196 (x7).toNatClampNeg) (x5) < 0) → V18 (x1) (x2) (x3) (x4) (x5) (x7 + (1 : Int32)) I9 J9 T9)))))) ∧ (¬ (I 199 (x7).toNatClampNeg = 0) → V18 (x1) (x2) (x3) (x4) (x5) (x7 + (1 : Int32)) I J T))) ∧ (¬ (x7 ≤ x2) → P (x3) I J T))
def wl_X2_nearestFrom_18 (x1 : Int32) (x2 : Int32) (x3 : Int32) (x4 : Int32) (x5 : Int64) (x7 : Int32) (I : Nat → Nat → Int32) (J : Nat → Nat → Int64) (T : Option Nat) (P : Int32 → (Nat → Nat → Int32) → (Nat → Nat → Int64) → Option Nat → Prop) : Prop := ∀ V : Int32 → Int32 → Int32 → Int32 → Int64 → Int32 → (Nat → Nat → Int32) → (Nat → Nat → Int64) → Option Nat → Prop, (∀ (x1 : Int32) (x2 : Int32) (x3 : Int32) (x4 : Int32) (x5 : Int64) (x7 : Int32) (I : Nat → Nat → Int32) (J : Nat → Nat → Int64) (T : Option Nat), wb_X2_nearestFrom_18 x1 x2 x3 x4 x5 x7 I J T V P → V x1 x2 x3 x4 x5 x7 I J T) → V x1 x2 x3 x4 x5 x7 I J T
set_option maxRecDepth 20000 in
theorem tl_X2_nearestFrom_18 {d : Nat} {x1 : Int32} {x2 : Int32} {x3 : Int32} {x4 : Int32} {x5 : Int64} {x7 : Int32} {I : Nat → Nat → Int32} {J : Nat → Nat → Int64} {T : Option Nat} {P : Int32 → (Nat → Nat → Int32) → (Nat → Nat → Int64) → Option Nat → Prop} {Q : ix_Q} (h : wl_X2_nearestFrom_18 x1 x2 x3 x4 x5 x7 I J T P) (hQ : ∀ v I J T, P v I J T → Q (some (.inl v)) (ix_mem 276 I J T)) : ix_W (ix_C (d + 3)) (2, ix_lk ix_l36, (some .int), 0, 0, Nat.blt 0 0, none) Q (18, [some (.inr (.inr (.inl (some (181))))), some (.inl (x1)), some (.inl (x2)), some (.inl (x3)), some (.inl (x4)), some (.inr (.inl (x5))), none, some (.inl (x7)), none, none], [], 0, 0, ix_mem 276 I J T) := by
  refine h (fun x1 x2 x3 x4 x5 x7 I J T => ix_W (ix_C (d + 3)) (2, ix_lk ix_l36, (some .int), 0, 0, Nat.blt 0 0, none) Q (18, [some (.inr (.inr (.inl (some (181))))), some (.inl (x1)), some (.inl (x2)), some (.inl (x3)), some (.inl (x4)), some (.inr (.inl (x5))), none, some (.inl (x7)), none, none], [], 0, 0, ix_mem 276 I J T)) ?_
  intro x1 x2 x3 x4 x5 x7 I J T hb
  unfold wb_X2_nearestFrom_18 at hb
  refine ix_go 3 (x' := (if x7 ≤ x2 then 24 else 128, [some (.inr (.inr (.inl (some (181))))), some (.inl (x1)), some (.inl (x2)), some (.inl (x3)), some (.inl (x4)), some (.inr (.inl (x5))), none, some (.inl (x7)), none, none], [], 0, 0, ix_mem 276 I J T)) rfl trivial ?_
  refine ix_br (fun c3 => ?_) (fun c3 => ?_)
  · have h4 := hb.1 c3
    obtain ⟨p5, h6⟩ := h4
    refine ix_go 5 (x' := (if I 199 (x7).toNatClampNeg = 0 then 37 else 34, [some (.inr (.inr (.inl (some (181))))), some (.inl (x1)), some (.inl (x2)), some (.inl (x3)), some (.inl (x4)), some (.inr (.inl (x5))), none, some (.inl (x7)), none, none], [], 0, 0, ix_mem 276 I J T)) rfl ⟨rfl, rfl, rfl, rfl, p5⟩ ?_
    refine ix_br (fun c7 => ?_) (fun c7 => ?_)
    · have h8 := h6.1 c7
      refine ix_go 7 (x' := (46, [some (.inr (.inr (.inl (some (181))))), some (.inl (x1)), some (.inl (x2)), some (.inl (x3)), some (.inl (x4)), some (.inr (.inl (x5))), none, some (.inl (x7)), none, none], [.inl ((x7) - ((1 : Int32))), .inl ((x4) - ((1 : Int32))), .inr (.inr (.inl (some (181))))], 0, 0, ix_mem 276 I J T)) rfl trivial ?_
      refine ix_sp rfl ⟨rfl, ⟨ix_lt rfl, ix_eq rfl, ix_lt rfl⟩, ix_le rfl, Nat.le_refl _, Nat.le_refl _, tp_X2_weightOf h8 (fun v9 I9 J9 T9 h9 => ?_)⟩
      change ix_W _ _ _ (49, [some (.inr (.inr (.inl (some (181))))), some (.inl (x1)), some (.inl (x2)), some (.inl (x3)), some (.inl (x4)), some (.inr (.inl (x5))), none, some (.inl (x7)), none, none], [.inr (.inl (v9))], 0, 0, ix_mem 276 I9 J9 T9)
      obtain ⟨p10, h11⟩ := h9
      obtain ⟨p12, h13⟩ := h11
      obtain ⟨p14, h15⟩ := h13
      refine ix_go 18 (x' := (if lg_cmp (((v9) - (J9 194 (x4).toNatClampNeg)) - (J9 195 (x7).toNatClampNeg)) (J9 196 (x7).toNatClampNeg) < 0 then 80 else 97, [some (.inr (.inr (.inl (some (181))))), some (.inl (x1)), some (.inl (x2)), some (.inl (x3)), some (.inl (x4)), some (.inr (.inl (x5))), none, some (.inl (x7)), some (.inr (.inl (((v9) - (J9 194 (x4).toNatClampNeg)) - (J9 195 (x7).toNatClampNeg)))), none], [], 0, 0, ix_mem 276 I9 J9 T9)) rfl ⟨rfl, rfl, rfl, rfl, p10, rfl, rfl, rfl, rfl, p12, rfl, rfl, rfl, rfl, p14⟩ ?_
      refine ix_br (fun c16 => ?_) (fun c16 => ?_)
      · have h17 := h15.1 c16
        obtain ⟨p18, h19⟩ := h17
        obtain ⟨p20, h21⟩ := h19
        obtain ⟨p22, h23⟩ := h21
        refine ix_go 17 (x' := (if lg_cmp ((ix_u2 J9 196 (x7).toNatClampNeg (((v9) - (J9 194 (x4).toNatClampNeg)) - (J9 195 (x7).toNatClampNeg))) 196 (x7).toNatClampNeg) (x5) < 0 then 110 else 122, [some (.inr (.inr (.inl (some (181))))), some (.inl (x1)), some (.inl (x2)), some (.inl (x3)), some (.inl (x4)), some (.inr (.inl (x5))), none, some (.inl (x7)), some (.inr (.inl (((v9) - (J9 194 (x4).toNatClampNeg)) - (J9 195 (x7).toNatClampNeg)))), none], [], 0, 0, ix_mem 276 (ix_u2 I9 198 (x7).toNatClampNeg (x1)) (ix_u2 J9 196 (x7).toNatClampNeg (((v9) - (J9 194 (x4).toNatClampNeg)) - (J9 195 (x7).toNatClampNeg))) T9)) rfl ⟨rfl, rfl, rfl, rfl, p18, rfl, rfl, rfl, rfl, p20, rfl, rfl, rfl, rfl, p22⟩ ?_
        refine ix_br (fun c24 => ?_) (fun c24 => ?_)
        · have h25 := h23.1 c24
          obtain ⟨p26, h27⟩ := h25
          refine ix_go 9 (x' := (18, [some (.inr (.inr (.inl (some (181))))), some (.inl (x1)), some (.inl (x2)), some (.inl (x7)), some (.inl (x4)), some (.inr (.inl ((ix_u2 J9 196 (x7).toNatClampNeg (((v9) - (J9 194 (x4).toNatClampNeg)) - (J9 195 (x7).toNatClampNeg))) 196 (x7).toNatClampNeg))), none, some (.inl (x7 + (1 : Int32))), some (.inr (.inl (((v9) - (J9 194 (x4).toNatClampNeg)) - (J9 195 (x7).toNatClampNeg)))), none], [], 0, 0, ix_mem 276 (ix_u2 I9 198 (x7).toNatClampNeg (x1)) (ix_u2 J9 196 (x7).toNatClampNeg (((v9) - (J9 194 (x4).toNatClampNeg)) - (J9 195 (x7).toNatClampNeg))) T9)) rfl ⟨rfl, rfl, rfl, rfl, p26⟩ ?_
          refine ix_subW ([some (.inr (.inr (.inl (some (181))))), some (.inl (x1)), some (.inl (x2)), some (.inl (x7)), some (.inl (x4)), some (.inr (.inl ((ix_u2 J9 196 (x7).toNatClampNeg (((v9) - (J9 194 (x4).toNatClampNeg)) - (J9 195 (x7).toNatClampNeg))) 196 (x7).toNatClampNeg))), none, some (.inl (x7 + (1 : Int32))), none, none]) (ix_subS (ix_subS (ix_subS (ix_subS (ix_subS (ix_subS (ix_subS (ix_subS (ix_subN (ix_subS (ix_sub0))))))))))) ?_
          exact h27
        · have h25 := h23.2 c24
          refine ix_go 2 (x' := (18, [some (.inr (.inr (.inl (some (181))))), some (.inl (x1)), some (.inl (x2)), some (.inl (x3)), some (.inl (x4)), some (.inr (.inl (x5))), none, some (.inl (x7 + (1 : Int32))), some (.inr (.inl (((v9) - (J9 194 (x4).toNatClampNeg)) - (J9 195 (x7).toNatClampNeg)))), none], [], 0, 0, ix_mem 276 (ix_u2 I9 198 (x7).toNatClampNeg (x1)) (ix_u2 J9 196 (x7).toNatClampNeg (((v9) - (J9 194 (x4).toNatClampNeg)) - (J9 195 (x7).toNatClampNeg))) T9)) rfl trivial ?_
          refine ix_subW ([some (.inr (.inr (.inl (some (181))))), some (.inl (x1)), some (.inl (x2)), some (.inl (x3)), some (.inl (x4)), some (.inr (.inl (x5))), none, some (.inl (x7 + (1 : Int32))), none, none]) (ix_subS (ix_subS (ix_subS (ix_subS (ix_subS (ix_subS (ix_subS (ix_subS (ix_subN (ix_subS (ix_sub0))))))))))) ?_
          exact h25
      · have h17 := h15.2 c16
        obtain ⟨p28, h29⟩ := h17
        refine ix_go 7 (x' := (if lg_cmp (J9 196 (x7).toNatClampNeg) (x5) < 0 then 110 else 122, [some (.inr (.inr (.inl (some (181))))), some (.inl (x1)), some (.inl (x2)), some (.inl (x3)), some (.inl (x4)), some (.inr (.inl (x5))), none, some (.inl (x7)), some (.inr (.inl (((v9) - (J9 194 (x4).toNatClampNeg)) - (J9 195 (x7).toNatClampNeg)))), none], [], 0, 0, ix_mem 276 I9 J9 T9)) rfl ⟨rfl, rfl, rfl, rfl, p28⟩ ?_
        refine ix_br (fun c30 => ?_) (fun c30 => ?_)
        · have h31 := h29.1 c30
          obtain ⟨p32, h33⟩ := h31
          refine ix_go 9 (x' := (18, [some (.inr (.inr (.inl (some (181))))), some (.inl (x1)), some (.inl (x2)), some (.inl (x7)), some (.inl (x4)), some (.inr (.inl (J9 196 (x7).toNatClampNeg))), none, some (.inl (x7 + (1 : Int32))), some (.inr (.inl (((v9) - (J9 194 (x4).toNatClampNeg)) - (J9 195 (x7).toNatClampNeg)))), none], [], 0, 0, ix_mem 276 I9 J9 T9)) rfl ⟨rfl, rfl, rfl, rfl, p32⟩ ?_
          refine ix_subW ([some (.inr (.inr (.inl (some (181))))), some (.inl (x1)), some (.inl (x2)), some (.inl (x7)), some (.inl (x4)), some (.inr (.inl (J9 196 (x7).toNatClampNeg))), none, some (.inl (x7 + (1 : Int32))), none, none]) (ix_subS (ix_subS (ix_subS (ix_subS (ix_subS (ix_subS (ix_subS (ix_subS (ix_subN (ix_subS (ix_sub0))))))))))) ?_
          exact h33
        · have h31 := h29.2 c30
          refine ix_go 2 (x' := (18, [some (.inr (.inr (.inl (some (181))))), some (.inl (x1)), some (.inl (x2)), some (.inl (x3)), some (.inl (x4)), some (.inr (.inl (x5))), none, some (.inl (x7 + (1 : Int32))), some (.inr (.inl (((v9) - (J9 194 (x4).toNatClampNeg)) - (J9 195 (x7).toNatClampNeg)))), none], [], 0, 0, ix_mem 276 I9 J9 T9)) rfl trivial ?_
          refine ix_subW ([some (.inr (.inr (.inl (some (181))))), some (.inl (x1)), some (.inl (x2)), some (.inl (x3)), some (.inl (x4)), some (.inr (.inl (x5))), none, some (.inl (x7 + (1 : Int32))), none, none]) (ix_subS (ix_subS (ix_subS (ix_subS (ix_subS (ix_subS (ix_subS (ix_subS (ix_subN (ix_subS (ix_sub0))))))))))) ?_
          exact h31
    · have h8 := h6.2 c7
      refine ix_go 3 (x' := (18, [some (.inr (.inr (.inl (some (181))))), some (.inl (x1)), some (.inl (x2)), some (.inl (x3)), some (.inl (x4)), some (.inr (.inl (x5))), none, some (.inl (x7 + (1 : Int32))), none, none], [], 0, 0, ix_mem 276 I J T)) rfl trivial ?_
      refine ix_subW ([some (.inr (.inr (.inl (some (181))))), some (.inl (x1)), some (.inl (x2)), some (.inl (x3)), some (.inl (x4)), some (.inr (.inl (x5))), none, some (.inl (x7 + (1 : Int32))), none, none]) (ix_subS (ix_subS (ix_subS (ix_subS (ix_subS (ix_subS (ix_subS (ix_subS (ix_subS (ix_subS (ix_sub0))))))))))) ?_
      exact h8
  · have h4 := hb.2 c3
    refine ix_go 1 (x' := (129, [some (.inr (.inr (.inl (some (181))))), some (.inl (x1)), some (.inl (x2)), some (.inl (x3)), some (.inl (x4)), some (.inr (.inl (x5))), none, some (.inl (x7)), none, none], [.inl (x3)], 0, 0, ix_mem 276 I J T)) rfl trivial ?_
    exact ix_sp rfl ⟨Nat.le_refl _, Nat.le_refl _, trivial, hQ _ _ _ _ h4⟩
def wp_X2_nearestFrom (a0 : Int32) (a1 : Int32) (I : Nat → Nat → Int32) (J : Nat → Nat → Int64) (T : Option Nat) (P : Int32 → (Nat → Nat → Int32) → (Nat → Nat → Int64) → Option Nat → Prop) : Prop := ix_inb (a0) 25 = true ∧ wl_X2_nearestFrom_18 (a0) (a1) ((0 : Int32)) (I 197 (a0).toNatClampNeg) ((2305843009213693951 : Int64)) ((1 : Int32)) I J T P
set_option maxRecDepth 20000 in
theorem tp_X2_nearestFrom {d : Nat} {a0 : Int32} {a1 : Int32} {I : Nat → Nat → Int32} {J : Nat → Nat → Int64} {T : Option Nat} {P : Int32 → (Nat → Nat → Int32) → (Nat → Nat → Int64) → Option Nat → Prop} {Q : ix_Q} (h : wp_X2_nearestFrom a0 a1 I J T P) (hQ : ∀ v I J T, P v I J T → Q (some (.inl v)) (ix_mem 276 I J T)) : ix_C (d + 4) 36 [.inr (.inr (.inl (some (181)))), .inl (a0), .inl (a1)] (ix_mem 276 I J T) Q := by
  unfold wp_X2_nearestFrom at h
  refine ix_enter (ls := [some (.inr (.inr (.inl (some (181))))), some (.inl (a0)), some (.inl (a1)), none, none, none, none, none, none, none]) rfl rfl rfl (Nat.le_of_ble_eq_true rfl) ?_
  obtain ⟨p1, h2⟩ := h
  refine ix_go 11 (x' := (18, [some (.inr (.inr (.inl (some (181))))), some (.inl (a0)), some (.inl (a1)), some (.inl ((0 : Int32))), some (.inl (I 197 (a0).toNatClampNeg)), some (.inr (.inl ((2305843009213693951 : Int64)))), none, some (.inl ((1 : Int32))), none, none], [], 0, 0, ix_mem 276 I J T)) rfl ⟨rfl, rfl, rfl, rfl, p1⟩ ?_
  refine ix_subW ([some (.inr (.inr (.inl (some (181))))), some (.inl (a0)), some (.inl (a1)), some (.inl ((0 : Int32))), some (.inl (I 197 (a0).toNatClampNeg)), some (.inr (.inl ((2305843009213693951 : Int64)))), none, some (.inl ((1 : Int32))), none, none]) (ix_subS (ix_subS (ix_subS (ix_subS (ix_subS (ix_subS (ix_subS (ix_subS (ix_subS (ix_subS (ix_sub0))))))))))) ?_
  exact tl_X2_nearestFrom_18 h2 hQ
def wb_X2_putIn_83_2_41 (x2 : Int32) (x4 : Int32) (x5 : Int32) (x6 : Int64) (x8 : Int32) (I : Nat → Nat → Int32) (J : Nat → Nat → Int64) (T : Option Nat) (V83 : Int32 → Int32 → Int32 → Int64 → Int32 → (Nat → Nat → Int32) → (Nat → Nat → Int64) → Option Nat → Prop) (V2 : Int32 → Int32 → Int32 → (Nat → Nat → Int32) → (Nat → Nat → Int64) → Option Nat → Prop) (V41 : Int32 → Int32 → Int32 → (Nat → Nat → Int32) → (Nat → Nat → Int64) → Option Nat → Prop) (P : Int32 → (Nat → Nat → Int32) → (Nat → Nat → Int64) → Option Nat → Prop) : Prop := ((x8 ≤ x2 → ix_inb (x8) 25 = true ∧ ((I 199 (x8).toNatClampNeg = 0 → ix_inb (x8) 25 = true ∧ ix_inb (x8) 25 = true ∧ V83 (x2) (x4) (x5) (x6) (x8 + (1 : Int32)) I (ix_u2 J 196 (x8).toNatClampNeg ((J 196 (x8).toNatClampNeg) - (x6))) T) ∧ (¬ (I 199 (x8).toNatClampNeg = 0) → ix_inb (x8) 25 = true ∧ ix_inb (I 197 (x8).toNatClampNeg) 13 = true ∧ ix_inb (I 197 (x8).toNatClampNeg) 13 = true ∧ ix_inb (x8) 25 = true ∧ ix_inb (x8) 25 = true ∧ V83 (x2) (x4) (x5) (x6) (x8 + (1 : Int32)) I (ix_u2 (ix_u2 J 194 (I 197 (x8).toNatClampNeg).toNatClampNeg ((J 194 (I 197 (x8).toNatClampNeg).toNatClampNeg) + (x6))) 195 (x8).toNatClampNeg ((J 195 (x8).toNatClampNeg) - (x6))) T))) ∧ (¬ (x8 ≤ x2) → V41 (x2) (x5) (x4 + (1 : Int32)) I J T))
def wl_X2_putIn_83_2_41 (x2 : Int32) (x4 : Int32) (x5 : Int32) (x6 : Int64) (x8 : Int32) (I : Nat → Nat → Int32) (J : Nat → Nat → Int64) (T : Option Nat) (V2 : Int32 → Int32 → Int32 → (Nat → Nat → Int32) → (Nat → Nat → Int64) → Option Nat → Prop) (V41 : Int32 → Int32 → Int32 → (Nat → Nat → Int32) → (Nat → Nat → Int64) → Option Nat → Prop) (P : Int32 → (Nat → Nat → Int32) → (Nat → Nat → Int64) → Option Nat → Prop) : Prop := ∀ V : Int32 → Int32 → Int32 → Int64 → Int32 → (Nat → Nat → Int32) → (Nat → Nat → Int64) → Option Nat → Prop, (∀ (x2 : Int32) (x4 : Int32) (x5 : Int32) (x6 : Int64) (x8 : Int32) (I : Nat → Nat → Int32) (J : Nat → Nat → Int64) (T : Option Nat), wb_X2_putIn_83_2_41 x2 x4 x5 x6 x8 I J T V V2 V41 P → V x2 x4 x5 x6 x8 I J T) → V x2 x4 x5 x6 x8 I J T
set_option maxRecDepth 20000 in
theorem tl_X2_putIn_83_2_41 {d : Nat} {x2 : Int32} {x4 : Int32} {x5 : Int32} {x6 : Int64} {x8 : Int32} {I : Nat → Nat → Int32} {J : Nat → Nat → Int64} {T : Option Nat} {V2 : Int32 → Int32 → Int32 → (Nat → Nat → Int32) → (Nat → Nat → Int64) → Option Nat → Prop} {V41 : Int32 → Int32 → Int32 → (Nat → Nat → Int32) → (Nat → Nat → Int64) → Option Nat → Prop} {P : Int32 → (Nat → Nat → Int32) → (Nat → Nat → Int64) → Option Nat → Prop} {Q : ix_Q} (h : wl_X2_putIn_83_2_41 x2 x4 x5 x6 x8 I J T V2 V41 P) (hV2 : ∀ (x1 : Int32) (x2 : Int32) (x3 : Int32) I J T, V2 x1 x2 x3 I J T → ix_W (ix_C d) (2, ix_lk ix_l37, (some .int), 0, 0, Nat.blt 0 0, none) Q (2, [some (.inr (.inr (.inl (some (181))))), some (.inl (x1)), some (.inl (x2)), some (.inl (x3)), none, none, none, none, none], [], 0, 0, ix_mem 276 I J T)) (hV41 : ∀ (x2 : Int32) (x3 : Int32) (x4 : Int32) I J T, V41 x2 x3 x4 I J T → ix_W (ix_C d) (2, ix_lk ix_l37, (some .int), 0, 0, Nat.blt 0 0, none) Q (41, [some (.inr (.inr (.inl (some (181))))), none, some (.inl (x2)), some (.inl (x3)), some (.inl (x4)), none, none, none, none], [], 0, 0, ix_mem 276 I J T)) (hQ : ∀ v I J T, P v I J T → Q (some (.inl v)) (ix_mem 276 I J T)) : ix_W (ix_C d) (2, ix_lk ix_l37, (some .int), 0, 0, Nat.blt 0 0, none) Q (83, [some (.inr (.inr (.inl (some (181))))), none, some (.inl (x2)), none, some (.inl (x4)), some (.inl (x5)), some (.inr (.inl (x6))), none, some (.inl (x8))], [], 0, 0, ix_mem 276 I J T) := by
  refine h (fun x2 x4 x5 x6 x8 I J T => ix_W (ix_C d) (2, ix_lk ix_l37, (some .int), 0, 0, Nat.blt 0 0, none) Q (83, [some (.inr (.inr (.inl (some (181))))), none, some (.inl (x2)), none, some (.inl (x4)), some (.inl (x5)), some (.inr (.inl (x6))), none, some (.inl (x8))], [], 0, 0, ix_mem 276 I J T)) ?_
  intro x2 x4 x5 x6 x8 I J T hb
  unfold wb_X2_putIn_83_2_41 at hb
  refine ix_go 3 (x' := (if x8 ≤ x2 then 89 else 149, [some (.inr (.inr (.inl (some (181))))), none, some (.inl (x2)), none, some (.inl (x4)), some (.inl (x5)), some (.inr (.inl (x6))), none, some (.inl (x8))], [], 0, 0, ix_mem 276 I J T)) rfl trivial ?_
  refine ix_br (fun c18 => ?_) (fun c18 => ?_)
  · have h19 := hb.1 c18
    obtain ⟨p20, h21⟩ := h19
    refine ix_go 5 (x' := (if I 199 (x8).toNatClampNeg = 0 then 131 else 99, [some (.inr (.inr (.inl (some (181))))), none, some (.inl (x2)), none, some (.inl (x4)), some (.inl (x5)), some (.inr (.inl (x6))), none, some (.inl (x8))], [], 0, 0, ix_mem 276 I J T)) rfl ⟨rfl, rfl, rfl, rfl, p20⟩ ?_
    refine ix_br (fun c22 => ?_) (fun c22 => ?_)
    · have h23 := h21.1 c22
      obtain ⟨p24, h25⟩ := h23
      obtain ⟨p26, h27⟩ := h25
      refine ix_go 10 (x' := (83, [some (.inr (.inr (.inl (some (181))))), none, some (.inl (x2)), none, some (.inl (x4)), some (.inl (x5)), some (.inr (.inl (x6))), none, some (.inl (x8 + (1 : Int32)))], [], 0, 0, ix_mem 276 I (ix_u2 J 196 (x8).toNatClampNeg ((J 196 (x8).toNatClampNeg) - (x6))) T)) rfl ⟨rfl, rfl, rfl, rfl, p24, rfl, rfl, p26⟩ ?_
      refine ix_subW ([some (.inr (.inr (.inl (some (181))))), none, some (.inl (x2)), none, some (.inl (x4)), some (.inl (x5)), some (.inr (.inl (x6))), none, some (.inl (x8 + (1 : Int32)))]) (ix_subS (ix_subS (ix_subS (ix_subS (ix_subS (ix_subS (ix_subS (ix_subS (ix_subS (ix_sub0)))))))))) ?_
      exact h27
    · have h23 := h21.2 c22
      obtain ⟨p28, h29⟩ := h23
      obtain ⟨p30, h31⟩ := h29
      obtain ⟨p32, h33⟩ := h31
      obtain ⟨p34, h35⟩ := h33
      obtain ⟨p36, h37⟩ := h35
      refine ix_go 22 (x' := (83, [some (.inr (.inr (.inl (some (181))))), none, some (.inl (x2)), none, some (.inl (x4)), some (.inl (x5)), some (.inr (.inl (x6))), none, some (.inl (x8 + (1 : Int32)))], [], 0, 0, ix_mem 276 I (ix_u2 (ix_u2 J 194 (I 197 (x8).toNatClampNeg).toNatClampNeg ((J 194 (I 197 (x8).toNatClampNeg).toNatClampNeg) + (x6))) 195 (x8).toNatClampNeg ((J 195 (x8).toNatClampNeg) - (x6))) T)) rfl ⟨rfl, rfl, rfl, rfl, rfl, rfl, p28, rfl, rfl, p30, rfl, rfl, p32, rfl, rfl, rfl, rfl, p34, rfl, rfl, p36⟩ ?_
      refine ix_subW ([some (.inr (.inr (.inl (some (181))))), none, some (.inl (x2)), none, some (.inl (x4)), some (.inl (x5)), some (.inr (.inl (x6))), none, some (.inl (x8 + (1 : Int32)))]) (ix_subS (ix_subS (ix_subS (ix_subS (ix_subS (ix_subS (ix_subS (ix_subS (ix_subS (ix_sub0)))))))))) ?_
      exact h37
  · have h19 := hb.2 c18
    refine ix_go 4 (x' := (41, [some (.inr (.inr (.inl (some (181))))), none, some (.inl (x2)), some (.inl (x5)), some (.inl (x4 + (1 : Int32))), some (.inl (x5)), some (.inr (.inl (x6))), none, some (.inl (x8))], [], 0, 0, ix_mem 276 I J T)) rfl trivial ?_
    refine ix_subW ([some (.inr (.inr (.inl (some (181))))), none, some (.inl (x2)), some (.inl (x5)), some (.inl (x4 + (1 : Int32))), none, none, none, none]) (ix_subS (ix_subS (ix_subS (ix_subS (ix_subS (ix_subN (ix_subN (ix_subS (ix_subN (ix_sub0)))))))))) ?_
    exact hV41 _ _ _ _ _ _ h19
def wb_X2_putIn_41_2 (x2 : Int32) (x3 : Int32) (x4 : Int32) (I : Nat → Nat → Int32) (J : Nat → Nat → Int64) (T : Option Nat) (V41 : Int32 → Int32 → Int32 → (Nat → Nat → Int32) → (Nat → Nat → Int64) → Option Nat → Prop) (V2 : Int32 → Int32 → Int32 → (Nat → Nat → Int32) → (Nat → Nat → Int64) → Option Nat → Prop) (P : Int32 → (Nat → Nat → Int32) → (Nat → Nat → Int64) → Option Nat → Prop) : Prop := ((x4 ≤ x2 → ix_inb (x3) 25 = true ∧ ((I 197 (x3).toNatClampNeg = 0 → P (x3) I J T) ∧ (¬ (I 197 (x3).toNatClampNeg = 0) → ix_inb (x3) 25 = true ∧ wp_X2_nearestFrom (x3) (x2) (ix_u2 I 199 (x3).toNatClampNeg ((1 : Int32))) J T (fun v15 I15 J15 T15 => ix_inb (v15) 25 = true ∧ wl_X2_putIn_83_2_41 (x2) (x4) (v15) (J15 196 (v15).toNatClampNeg) ((0 : Int32)) I15 J15 T15 V2 V41 P)))) ∧ (¬ (x4 ≤ x2) → P (x3) I J T))
def wl_X2_putIn_41_2 (x2 : Int32) (x3 : Int32) (x4 : Int32) (I : Nat → Nat → Int32) (J : Nat → Nat → Int64) (T : Option Nat) (V2 : Int32 → Int32 → Int32 → (Nat → Nat → Int32) → (Nat → Nat → Int64) → Option Nat → Prop) (P : Int32 → (Nat → Nat → Int32) → (Nat → Nat → Int64) → Option Nat → Prop) : Prop := ∀ V : Int32 → Int32 → Int32 → (Nat → Nat → Int32) → (Nat → Nat → Int64) → Option Nat → Prop, (∀ (x2 : Int32) (x3 : Int32) (x4 : Int32) (I : Nat → Nat → Int32) (J : Nat → Nat → Int64) (T : Option Nat), wb_X2_putIn_41_2 x2 x3 x4 I J T V V2 P → V x2 x3 x4 I J T) → V x2 x3 x4 I J T
set_option maxRecDepth 20000 in
theorem tl_X2_putIn_41_2 {d : Nat} {x2 : Int32} {x3 : Int32} {x4 : Int32} {I : Nat → Nat → Int32} {J : Nat → Nat → Int64} {T : Option Nat} {V2 : Int32 → Int32 → Int32 → (Nat → Nat → Int32) → (Nat → Nat → Int64) → Option Nat → Prop} {P : Int32 → (Nat → Nat → Int32) → (Nat → Nat → Int64) → Option Nat → Prop} {Q : ix_Q} (h : wl_X2_putIn_41_2 x2 x3 x4 I J T V2 P) (hV2 : ∀ (x1 : Int32) (x2 : Int32) (x3 : Int32) I J T, V2 x1 x2 x3 I J T → ix_W (ix_C (d + 4)) (2, ix_lk ix_l37, (some .int), 0, 0, Nat.blt 0 0, none) Q (2, [some (.inr (.inr (.inl (some (181))))), some (.inl (x1)), some (.inl (x2)), some (.inl (x3)), none, none, none, none, none], [], 0, 0, ix_mem 276 I J T)) (hQ : ∀ v I J T, P v I J T → Q (some (.inl v)) (ix_mem 276 I J T)) : ix_W (ix_C (d + 4)) (2, ix_lk ix_l37, (some .int), 0, 0, Nat.blt 0 0, none) Q (41, [some (.inr (.inr (.inl (some (181))))), none, some (.inl (x2)), some (.inl (x3)), some (.inl (x4)), none, none, none, none], [], 0, 0, ix_mem 276 I J T) := by
  refine h (fun x2 x3 x4 I J T => ix_W (ix_C (d + 4)) (2, ix_lk ix_l37, (some .int), 0, 0, Nat.blt 0 0, none) Q (41, [some (.inr (.inr (.inl (some (181))))), none, some (.inl (x2)), some (.inl (x3)), some (.inl (x4)), none, none, none, none], [], 0, 0, ix_mem 276 I J T)) ?_
  intro x2 x3 x4 I J T hb
  unfold wb_X2_putIn_41_2 at hb
  refine ix_go 3 (x' := (if x4 ≤ x2 then 47 else 158, [some (.inr (.inr (.inl (some (181))))), none, some (.inl (x2)), some (.inl (x3)), some (.inl (x4)), none, none, none, none], [], 0, 0, ix_mem 276 I J T)) rfl trivial ?_
  refine ix_br (fun c7 => ?_) (fun c7 => ?_)
  · have h8 := hb.1 c7
    obtain ⟨p9, h10⟩ := h8
    refine ix_go 5 (x' := (if I 197 (x3).toNatClampNeg = 0 then 158 else 56, [some (.inr (.inr (.inl (some (181))))), none, some (.inl (x2)), some (.inl (x3)), some (.inl (x4)), none, none, none, none], [], 0, 0, ix_mem 276 I J T)) rfl ⟨rfl, rfl, rfl, rfl, p9⟩ ?_
    refine ix_br (fun c11 => ?_) (fun c11 => ?_)
    · have h12 := h10.1 c11
      refine ix_go 1 (x' := (159, [some (.inr (.inr (.inl (some (181))))), none, some (.inl (x2)), some (.inl (x3)), some (.inl (x4)), none, none, none, none], [.inl (x3)], 0, 0, ix_mem 276 I J T)) rfl trivial ?_
      exact ix_sp rfl ⟨Nat.le_refl _, Nat.le_refl _, trivial, hQ _ _ _ _ h12⟩
    · have h12 := h10.2 c11
      obtain ⟨p13, h14⟩ := h12
      refine ix_go 8 (x' := (66, [some (.inr (.inr (.inl (some (181))))), none, some (.inl (x2)), some (.inl (x3)), some (.inl (x4)), none, none, none, none], [.inl (x2), .inl (x3), .inr (.inr (.inl (some (181))))], 0, 0, ix_mem 276 (ix_u2 I 199 (x3).toNatClampNeg ((1 : Int32))) J T)) rfl ⟨rfl, rfl, rfl, rfl, p13⟩ ?_
      refine ix_sp rfl ⟨rfl, ⟨ix_lt rfl, ix_eq rfl, ix_lt rfl⟩, ix_le rfl, Nat.le_refl _, Nat.le_refl _, tp_X2_nearestFrom h14 (fun v15 I15 J15 T15 h15 => ?_)⟩
      change ix_W _ _ _ (69, [some (.inr (.inr (.inl (some (181))))), none, some (.inl (x2)), some (.inl (x3)), some (.inl (x4)), none, none, none, none], [.inl (v15)], 0, 0, ix_mem 276 I15 J15 T15)
      obtain ⟨p16, h17⟩ := h15
      refine ix_go 8 (x' := (83, [some (.inr (.inr (.inl (some (181))))), none, some (.inl (x2)), some (.inl (x3)), some (.inl (x4)), some (.inl (v15)), some (.inr (.inl (J15 196 (v15).toNatClampNeg))), none, some (.inl ((0 : Int32)))], [], 0, 0, ix_mem 276 I15 J15 T15)) rfl ⟨rfl, rfl, rfl, rfl, p16⟩ ?_
      refine ix_subW ([some (.inr (.inr (.inl (some (181))))), none, some (.inl (x2)), none, some (.inl (x4)), some (.inl (v15)), some (.inr (.inl (J15 196 (v15).toNatClampNeg))), none, some (.inl ((0 : Int32)))]) (ix_subS (ix_subS (ix_subS (ix_subN (ix_subS (ix_subS (ix_subS (ix_subS (ix_subS (ix_sub0)))))))))) ?_
      exact tl_X2_putIn_83_2_41 h17 hV2 (fun _ _ _ I J T hv => hv) hQ
  · have h8 := hb.2 c7
    refine ix_go 1 (x' := (159, [some (.inr (.inr (.inl (some (181))))), none, some (.inl (x2)), some (.inl (x3)), some (.inl (x4)), none, none, none, none], [.inl (x3)], 0, 0, ix_mem 276 I J T)) rfl trivial ?_
    exact ix_sp rfl ⟨Nat.le_refl _, Nat.le_refl _, trivial, hQ _ _ _ _ h8⟩
def wb_X2_putIn_2 (x1 : Int32) (x2 : Int32) (x3 : Int32) (I : Nat → Nat → Int32) (J : Nat → Nat → Int64) (T : Option Nat) (V2 : Int32 → Int32 → Int32 → (Nat → Nat → Int32) → (Nat → Nat → Int64) → Option Nat → Prop) (P : Int32 → (Nat → Nat → Int32) → (Nat → Nat → Int64) → Option Nat → Prop) : Prop := ((x3 ≤ x2 → ix_inb (x3) 25 = true ∧ ix_inb (x3) 25 = true ∧ V2 (x1) (x2) (x3 + (1 : Int32)) (ix_u2 I 199 (x3).toNatClampNeg ((0 : Int32))) (ix_u2 J 196 (x3).toNatClampNeg ((2305843009213693951 : Int64))) T) ∧ (¬ (x3 ≤ x2) → wl_X2_putIn_41_2 (x2) ((0 : Int32)) ((0 : Int32)) (ix_u2 I 197 ((0 : Int32)).toNatClampNeg (x1)) J T V2 P))
def wl_X2_putIn_2 (x1 : Int32) (x2 : Int32) (x3 : Int32) (I : Nat → Nat → Int32) (J : Nat → Nat → Int64) (T : Option Nat) (P : Int32 → (Nat → Nat → Int32) → (Nat → Nat → Int64) → Option Nat → Prop) : Prop := ∀ V : Int32 → Int32 → Int32 → (Nat → Nat → Int32) → (Nat → Nat → Int64) → Option Nat → Prop, (∀ (x1 : Int32) (x2 : Int32) (x3 : Int32) (I : Nat → Nat → Int32) (J : Nat → Nat → Int64) (T : Option Nat), wb_X2_putIn_2 x1 x2 x3 I J T V P → V x1 x2 x3 I J T) → V x1 x2 x3 I J T
set_option maxRecDepth 20000 in
theorem tl_X2_putIn_2 {d : Nat} {x1 : Int32} {x2 : Int32} {x3 : Int32} {I : Nat → Nat → Int32} {J : Nat → Nat → Int64} {T : Option Nat} {P : Int32 → (Nat → Nat → Int32) → (Nat → Nat → Int64) → Option Nat → Prop} {Q : ix_Q} (h : wl_X2_putIn_2 x1 x2 x3 I J T P) (hQ : ∀ v I J T, P v I J T → Q (some (.inl v)) (ix_mem 276 I J T)) : ix_W (ix_C (d + 4)) (2, ix_lk ix_l37, (some .int), 0, 0, Nat.blt 0 0, none) Q (2, [some (.inr (.inr (.inl (some (181))))), some (.inl (x1)), some (.inl (x2)), some (.inl (x3)), none, none, none, none, none], [], 0, 0, ix_mem 276 I J T) := by
  refine h (fun x1 x2 x3 I J T => ix_W (ix_C (d + 4)) (2, ix_lk ix_l37, (some .int), 0, 0, Nat.blt 0 0, none) Q (2, [some (.inr (.inr (.inl (some (181))))), some (.inl (x1)), some (.inl (x2)), some (.inl (x3)), none, none, none, none, none], [], 0, 0, ix_mem 276 I J T)) ?_
  intro x1 x2 x3 I J T hb
  unfold wb_X2_putIn_2 at hb
  refine ix_go 3 (x' := (if x3 ≤ x2 then 7 else 29, [some (.inr (.inr (.inl (some (181))))), some (.inl (x1)), some (.inl (x2)), some (.inl (x3)), none, none, none, none, none], [], 0, 0, ix_mem 276 I J T)) rfl trivial ?_
  refine ix_br (fun c1 => ?_) (fun c1 => ?_)
  · have h2 := hb.1 c1
    obtain ⟨p3, h4⟩ := h2
    obtain ⟨p5, h6⟩ := h4
    refine ix_go 12 (x' := (2, [some (.inr (.inr (.inl (some (181))))), some (.inl (x1)), some (.inl (x2)), some (.inl (x3 + (1 : Int32))), none, none, none, none, none], [], 0, 0, ix_mem 276 (ix_u2 I 199 (x3).toNatClampNeg ((0 : Int32))) (ix_u2 J 196 (x3).toNatClampNeg ((2305843009213693951 : Int64))) T)) rfl ⟨rfl, rfl, rfl, rfl, p3, rfl, rfl, rfl, rfl, p5⟩ ?_
    refine ix_subW ([some (.inr (.inr (.inl (some (181))))), some (.inl (x1)), some (.inl (x2)), some (.inl (x3 + (1 : Int32))), none, none, none, none, none]) (ix_subS (ix_subS (ix_subS (ix_subS (ix_subS (ix_subS (ix_subS (ix_subS (ix_subS (ix_sub0)))))))))) ?_
    exact h6
  · have h2 := hb.2 c1
    refine ix_go 9 (x' := (41, [some (.inr (.inr (.inl (some (181))))), some (.inl (x1)), some (.inl (x2)), some (.inl ((0 : Int32))), some (.inl ((0 : Int32))), none, none, none, none], [], 0, 0, ix_mem 276 (ix_u2 I 197 ((0 : Int32)).toNatClampNeg (x1)) J T)) rfl ⟨rfl, rfl, rfl, rfl, rfl⟩ ?_
    refine ix_subW ([some (.inr (.inr (.inl (some (181))))), none, some (.inl (x2)), some (.inl ((0 : Int32))), some (.inl ((0 : Int32))), none, none, none, none]) (ix_subS (ix_subN (ix_subS (ix_subS (ix_subS (ix_subS (ix_subS (ix_subS (ix_subS (ix_sub0)))))))))) ?_
    exact tl_X2_putIn_41_2 h2 (fun _ _ _ I J T hv => hv) hQ
def wp_X2_putIn (a0 : Int32) (a1 : Int32) (I : Nat → Nat → Int32) (J : Nat → Nat → Int64) (T : Option Nat) (P : Int32 → (Nat → Nat → Int32) → (Nat → Nat → Int64) → Option Nat → Prop) : Prop := wl_X2_putIn_2 (a0) (a1) ((0 : Int32)) I J T P
set_option maxRecDepth 20000 in
theorem tp_X2_putIn {d : Nat} {a0 : Int32} {a1 : Int32} {I : Nat → Nat → Int32} {J : Nat → Nat → Int64} {T : Option Nat} {P : Int32 → (Nat → Nat → Int32) → (Nat → Nat → Int64) → Option Nat → Prop} {Q : ix_Q} (h : wp_X2_putIn a0 a1 I J T P) (hQ : ∀ v I J T, P v I J T → Q (some (.inl v)) (ix_mem 276 I J T)) : ix_C (d + 5) 37 [.inr (.inr (.inl (some (181)))), .inl (a0), .inl (a1)] (ix_mem 276 I J T) Q := by
  unfold wp_X2_putIn at h
  refine ix_enter (ls := [some (.inr (.inr (.inl (some (181))))), some (.inl (a0)), some (.inl (a1)), none, none, none, none, none, none]) rfl rfl rfl (Nat.le_of_ble_eq_true rfl) ?_
  refine ix_go 2 (x' := (2, [some (.inr (.inr (.inl (some (181))))), some (.inl (a0)), some (.inl (a1)), some (.inl ((0 : Int32))), none, none, none, none, none], [], 0, 0, ix_mem 276 I J T)) rfl trivial ?_
  refine ix_subW ([some (.inr (.inr (.inl (some (181))))), some (.inl (a0)), some (.inl (a1)), some (.inl ((0 : Int32))), none, none, none, none, none]) (ix_subS (ix_subS (ix_subS (ix_subS (ix_subS (ix_subS (ix_subS (ix_subS (ix_subS (ix_sub0)))))))))) ?_
  exact tl_X2_putIn_2 h hQ
def wb_X2_shift_5 (x2 : Int32) (x3 : Int32) (x4 : Int32) (I : Nat → Nat → Int32) (J : Nat → Nat → Int64) (T : Option Nat) (V5 : Int32 → Int32 → Int32 → (Nat → Nat → Int32) → (Nat → Nat → Int64) → Option Nat → Prop) (P : (Nat → Nat → Int32) → (Nat → Nat → Int64) → Option Nat → Prop) : Prop := ((x4 ≤ x2 → ((x3 = 0 → P I J T) ∧ (¬ (x3 = 0) → ix_inb (x3) 25 = true ∧ ix_inb (I 198 (x3).toNatClampNeg) 25 = true ∧ ix_inb (x3) 25 = true ∧ ix_inb (x3) 25 = true ∧ V5 (x2) (I 198 (x3).toNatClampNeg) (x4 + (1 : Int32)) (ix_u2 I 197 (x3).toNatClampNeg (I 197 (I 198 (x3).toNatClampNeg).toNatClampNeg)) J T))) ∧ (¬ (x4 ≤ x2) → P I J T))
def wl_X2_shift_5 (x2 : Int32) (x3 : Int32) (x4 : Int32) (I : Nat → Nat → Int32) (J : Nat → Nat → Int64) (T : Option Nat) (P : (Nat → Nat → Int32) → (Nat → Nat → Int64) → Option Nat → Prop) : Prop := ∀ V : Int32 → Int32 → Int32 → (Nat → Nat → Int32) → (Nat → Nat → Int64) → Option Nat → Prop, (∀ (x2 : Int32) (x3 : Int32) (x4 : Int32) (I : Nat → Nat → Int32) (J : Nat → Nat → Int64) (T : Option Nat), wb_X2_shift_5 x2 x3 x4 I J T V P → V x2 x3 x4 I J T) → V x2 x3 x4 I J T
set_option maxRecDepth 20000 in
theorem tl_X2_shift_5 {d : Nat} {x2 : Int32} {x3 : Int32} {x4 : Int32} {I : Nat → Nat → Int32} {J : Nat → Nat → Int64} {T : Option Nat} {P : (Nat → Nat → Int32) → (Nat → Nat → Int64) → Option Nat → Prop} {Q : ix_Q} (h : wl_X2_shift_5 x2 x3 x4 I J T P) (hQ : ∀ I J T, P I J T → Q none (ix_mem 276 I J T)) : ix_W (ix_C d) (2, ix_lk ix_l38, none, 0, 0, Nat.blt 0 0, none) Q (5, [some (.inr (.inr (.inl (some (181))))), none, some (.inl (x2)), some (.inl (x3)), some (.inl (x4))], [], 0, 0, ix_mem 276 I J T) := by
  refine h (fun x2 x3 x4 I J T => ix_W (ix_C d) (2, ix_lk ix_l38, none, 0, 0, Nat.blt 0 0, none) Q (5, [some (.inr (.inr (.inl (some (181))))), none, some (.inl (x2)), some (.inl (x3)), some (.inl (x4))], [], 0, 0, ix_mem 276 I J T)) ?_
  intro x2 x3 x4 I J T hb
  unfold wb_X2_shift_5 at hb
  refine ix_go 3 (x' := (if x4 ≤ x2 then 11 else 45, [some (.inr (.inr (.inl (some (181))))), none, some (.inl (x2)), some (.inl (x3)), some (.inl (x4))], [], 0, 0, ix_mem 276 I J T)) rfl trivial ?_
  refine ix_br (fun c1 => ?_) (fun c1 => ?_)
  · have h2 := hb.1 c1
    refine ix_go 2 (x' := (if x3 = 0 then 45 else 15, [some (.inr (.inr (.inl (some (181))))), none, some (.inl (x2)), some (.inl (x3)), some (.inl (x4))], [], 0, 0, ix_mem 276 I J T)) rfl trivial ?_
    refine ix_br (fun c3 => ?_) (fun c3 => ?_)
    · have h4 := h2.1 c3
      exact ix_sp rfl ⟨Nat.le_refl _, Nat.le_refl _, rfl, hQ _ _ _ h4⟩
    · have h4 := h2.2 c3
      obtain ⟨p5, h6⟩ := h4
      obtain ⟨p7, h8⟩ := h6
      obtain ⟨p9, h10⟩ := h8
      obtain ⟨p11, h12⟩ := h10
      refine ix_go 18 (x' := (5, [some (.inr (.inr (.inl (some (181))))), none, some (.inl (x2)), some (.inl (I 198 (x3).toNatClampNeg)), some (.inl (x4 + (1 : Int32)))], [], 0, 0, ix_mem 276 (ix_u2 I 197 (x3).toNatClampNeg (I 197 (I 198 (x3).toNatClampNeg).toNatClampNeg)) J T)) rfl ⟨rfl, rfl, rfl, rfl, rfl, rfl, rfl, rfl, p5, rfl, rfl, p7, rfl, rfl, p9, rfl, rfl, rfl, rfl, p11⟩ ?_
      refine ix_subW ([some (.inr (.inr (.inl (some (181))))), none, some (.inl (x2)), some (.inl (I 198 (x3).toNatClampNeg)), some (.inl (x4 + (1 : Int32)))]) (ix_subS (ix_subS (ix_subS (ix_subS (ix_subS (ix_sub0)))))) ?_
      exact h12
  · have h2 := hb.2 c1
    exact ix_sp rfl ⟨Nat.le_refl _, Nat.le_refl _, rfl, hQ _ _ _ h2⟩
def wp_X2_shift (a0 : Int32) (a1 : Int32) (I : Nat → Nat → Int32) (J : Nat → Nat → Int64) (T : Option Nat) (P : (Nat → Nat → Int32) → (Nat → Nat → Int64) → Option Nat → Prop) : Prop := wl_X2_shift_5 (a1) (a0) ((0 : Int32)) I J T P
set_option maxRecDepth 20000 in
theorem tp_X2_shift {d : Nat} {a0 : Int32} {a1 : Int32} {I : Nat → Nat → Int32} {J : Nat → Nat → Int64} {T : Option Nat} {P : (Nat → Nat → Int32) → (Nat → Nat → Int64) → Option Nat → Prop} {Q : ix_Q} (h : wp_X2_shift a0 a1 I J T P) (hQ : ∀ I J T, P I J T → Q none (ix_mem 276 I J T)) : ix_C (d + 1) 38 [.inr (.inr (.inl (some (181)))), .inl (a0), .inl (a1)] (ix_mem 276 I J T) Q := by
  unfold wp_X2_shift at h
  refine ix_enter (ls := [some (.inr (.inr (.inl (some (181))))), some (.inl (a0)), some (.inl (a1)), none, none]) rfl rfl rfl (Nat.le_of_ble_eq_true rfl) ?_
  refine ix_go 4 (x' := (5, [some (.inr (.inr (.inl (some (181))))), some (.inl (a0)), some (.inl (a1)), some (.inl (a0)), some (.inl ((0 : Int32)))], [], 0, 0, ix_mem 276 I J T)) rfl trivial ?_
  refine ix_subW ([some (.inr (.inr (.inl (some (181))))), none, some (.inl (a1)), some (.inl (a0)), some (.inl ((0 : Int32)))]) (ix_subS (ix_subN (ix_subS (ix_subS (ix_subS (ix_sub0)))))) ?_
  exact tl_X2_shift_5 h hQ
def wb_X2_joinLines_110_16_49_85 (x2 : Int32) (I : Nat → Nat → Int32) (J : Nat → Nat → Int64) (T : Option Nat) (V110 : Int32 → (Nat → Nat → Int32) → (Nat → Nat → Int64) → Option Nat → Prop) (V16 : Int32 → Int32 → (Nat → Nat → Int32) → (Nat → Nat → Int64) → Option Nat → Prop) (V49 : Int32 → Int32 → (Nat → Nat → Int32) → (Nat → Nat → Int64) → Option Nat → Prop) (V85 : Int32 → (Nat → Nat → Int32) → (Nat → Nat → Int64) → Option Nat → Prop) (P : (Nat → Nat → Int32) → (Nat → Nat → Int64) → Option Nat → Prop) : Prop := ((x2 ≤ I 182 ((1 : Int32)).toNatClampNeg → ix_inb (x2) 25 = true ∧ ((I 197 (x2).toNatClampNeg ≤ 0 → V110 (x2 + (1 : Int32)) I J T) ∧ (¬ (I 197 (x2).toNatClampNeg ≤ 0) → ix_inb (x2) 25 = true ∧ ix_inb ((I 197 (x2).toNatClampNeg) - ((1 : Int32))) 12 = true ∧ V110 (x2 + (1 : Int32)) (ix_u2 I 192 ((I 197 (x2).toNatClampNeg) - ((1 : Int32))).toNatClampNeg ((x2) - ((1 : Int32)))) J T))) ∧ (¬ (x2 ≤ I 182 ((1 : Int32)).toNatClampNeg) → P I J T))
def wl_X2_joinLines_110_16_49_85 (x2 : Int32) (I : Nat → Nat → Int32) (J : Nat → Nat → Int64) (T : Option Nat) (V16 : Int32 → Int32 → (Nat → Nat → Int32) → (Nat → Nat → Int64) → Option Nat → Prop) (V49 : Int32 → Int32 → (Nat → Nat → Int32) → (Nat → Nat → Int64) → Option Nat → Prop) (V85 : Int32 → (Nat → Nat → Int32) → (Nat → Nat → Int64) → Option Nat → Prop) (P : (Nat → Nat → Int32) → (Nat → Nat → Int64) → Option Nat → Prop) : Prop := ∀ V : Int32 → (Nat → Nat → Int32) → (Nat → Nat → Int64) → Option Nat → Prop, (∀ (x2 : Int32) (I : Nat → Nat → Int32) (J : Nat → Nat → Int64) (T : Option Nat), wb_X2_joinLines_110_16_49_85 x2 I J T V V16 V49 V85 P → V x2 I J T) → V x2 I J T
set_option maxRecDepth 20000 in
theorem tl_X2_joinLines_110_16_49_85 {d : Nat} {x2 : Int32} {I : Nat → Nat → Int32} {J : Nat → Nat → Int64} {T : Option Nat} {V16 : Int32 → Int32 → (Nat → Nat → Int32) → (Nat → Nat → Int64) → Option Nat → Prop} {V49 : Int32 → Int32 → (Nat → Nat → Int32) → (Nat → Nat → Int64) → Option Nat → Prop} {V85 : Int32 → (Nat → Nat → Int32) → (Nat → Nat → Int64) → Option Nat → Prop} {P : (Nat → Nat → Int32) → (Nat → Nat → Int64) → Option Nat → Prop} {Q : ix_Q} (h : wl_X2_joinLines_110_16_49_85 x2 I J T V16 V49 V85 P) (hV16 : ∀ (x1 : Int32) (x2 : Int32) I J T, V16 x1 x2 I J T → ix_W (ix_C d) (2, ix_lk ix_l39, none, 0, 0, Nat.blt 0 0, none) Q (16, [some (.inr (.inr (.inl (some (181))))), some (.inl (x1)), some (.inl (x2))], [], 0, 0, ix_mem 276 I J T)) (hV49 : ∀ (x1 : Int32) (x2 : Int32) I J T, V49 x1 x2 I J T → ix_W (ix_C d) (2, ix_lk ix_l39, none, 0, 0, Nat.blt 0 0, none) Q (49, [some (.inr (.inr (.inl (some (181))))), some (.inl (x1)), some (.inl (x2))], [], 0, 0, ix_mem 276 I J T)) (hV85 : ∀ (x2 : Int32) I J T, V85 x2 I J T → ix_W (ix_C d) (2, ix_lk ix_l39, none, 0, 0, Nat.blt 0 0, none) Q (85, [some (.inr (.inr (.inl (some (181))))), none, some (.inl (x2))], [], 0, 0, ix_mem 276 I J T)) (hQ : ∀ I J T, P I J T → Q none (ix_mem 276 I J T)) : ix_W (ix_C d) (2, ix_lk ix_l39, none, 0, 0, Nat.blt 0 0, none) Q (110, [some (.inr (.inr (.inl (some (181))))), none, some (.inl (x2))], [], 0, 0, ix_mem 276 I J T) := by
  refine h (fun x2 I J T => ix_W (ix_C d) (2, ix_lk ix_l39, none, 0, 0, Nat.blt 0 0, none) Q (110, [some (.inr (.inr (.inl (some (181))))), none, some (.inl (x2))], [], 0, 0, ix_mem 276 I J T)) ?_
  intro x2 I J T hb
  unfold wb_X2_joinLines_110_16_49_85 at hb
  refine ix_go 6 (x' := (if x2 ≤ I 182 ((1 : Int32)).toNatClampNeg then 120 else 151, [some (.inr (.inr (.inl (some (181))))), none, some (.inl (x2))], [], 0, 0, ix_mem 276 I J T)) rfl ⟨rfl, rfl, rfl, rfl, rfl⟩ ?_
  refine ix_br (fun c19 => ?_) (fun c19 => ?_)
  · have h20 := hb.1 c19
    obtain ⟨p21, h22⟩ := h20
    refine ix_go 5 (x' := (if I 197 (x2).toNatClampNeg ≤ 0 then 145 else 129, [some (.inr (.inr (.inl (some (181))))), none, some (.inl (x2))], [], 0, 0, ix_mem 276 I J T)) rfl ⟨rfl, rfl, rfl, rfl, p21⟩ ?_
    refine ix_br (fun c23 => ?_) (fun c23 => ?_)
    · have h24 := h22.1 c23
      refine ix_go 2 (x' := (110, [some (.inr (.inr (.inl (some (181))))), none, some (.inl (x2 + (1 : Int32)))], [], 0, 0, ix_mem 276 I J T)) rfl trivial ?_
      refine ix_subW ([some (.inr (.inr (.inl (some (181))))), none, some (.inl (x2 + (1 : Int32)))]) (ix_subS (ix_subS (ix_subS (ix_sub0)))) ?_
      exact h24
    · have h24 := h22.2 c23
      obtain ⟨p25, h26⟩ := h24
      obtain ⟨p27, h28⟩ := h26
      refine ix_go 14 (x' := (110, [some (.inr (.inr (.inl (some (181))))), none, some (.inl (x2 + (1 : Int32)))], [], 0, 0, ix_mem 276 (ix_u2 I 192 ((I 197 (x2).toNatClampNeg) - ((1 : Int32))).toNatClampNeg ((x2) - ((1 : Int32)))) J T)) rfl ⟨rfl, rfl, rfl, rfl, rfl, rfl, p25, rfl, rfl, p27⟩ ?_
      refine ix_subW ([some (.inr (.inr (.inl (some (181))))), none, some (.inl (x2 + (1 : Int32)))]) (ix_subS (ix_subS (ix_subS (ix_sub0)))) ?_
      exact h28
  · have h20 := hb.2 c19
    exact ix_sp rfl ⟨Nat.le_refl _, Nat.le_refl _, rfl, hQ _ _ _ h20⟩
def wb_X2_joinLines_85_16_49 (x2 : Int32) (I : Nat → Nat → Int32) (J : Nat → Nat → Int64) (T : Option Nat) (V85 : Int32 → (Nat → Nat → Int32) → (Nat → Nat → Int64) → Option Nat → Prop) (V16 : Int32 → Int32 → (Nat → Nat → Int32) → (Nat → Nat → Int64) → Option Nat → Prop) (V49 : Int32 → Int32 → (Nat → Nat → Int32) → (Nat → Nat → Int64) → Option Nat → Prop) (P : (Nat → Nat → Int32) → (Nat → Nat → Int64) → Option Nat → Prop) : Prop := ((x2 < I 182 ((0 : Int32)).toNatClampNeg → ix_inb (x2) 12 = true ∧ V85 (x2 + (1 : Int32)) (ix_u2 I 192 (x2).toNatClampNeg ((-1 : Int32))) J T) ∧ (¬ (x2 < I 182 ((0 : Int32)).toNatClampNeg) → wl_X2_joinLines_110_16_49_85 ((1 : Int32)) I J T V16 V49 V85 P))
def wl_X2_joinLines_85_16_49 (x2 : Int32) (I : Nat → Nat → Int32) (J : Nat → Nat → Int64) (T : Option Nat) (V16 : Int32 → Int32 → (Nat → Nat → Int32) → (Nat → Nat → Int64) → Option Nat → Prop) (V49 : Int32 → Int32 → (Nat → Nat → Int32) → (Nat → Nat → Int64) → Option Nat → Prop) (P : (Nat → Nat → Int32) → (Nat → Nat → Int64) → Option Nat → Prop) : Prop := ∀ V : Int32 → (Nat → Nat → Int32) → (Nat → Nat → Int64) → Option Nat → Prop, (∀ (x2 : Int32) (I : Nat → Nat → Int32) (J : Nat → Nat → Int64) (T : Option Nat), wb_X2_joinLines_85_16_49 x2 I J T V V16 V49 P → V x2 I J T) → V x2 I J T
set_option maxRecDepth 20000 in
theorem tl_X2_joinLines_85_16_49 {d : Nat} {x2 : Int32} {I : Nat → Nat → Int32} {J : Nat → Nat → Int64} {T : Option Nat} {V16 : Int32 → Int32 → (Nat → Nat → Int32) → (Nat → Nat → Int64) → Option Nat → Prop} {V49 : Int32 → Int32 → (Nat → Nat → Int32) → (Nat → Nat → Int64) → Option Nat → Prop} {P : (Nat → Nat → Int32) → (Nat → Nat → Int64) → Option Nat → Prop} {Q : ix_Q} (h : wl_X2_joinLines_85_16_49 x2 I J T V16 V49 P) (hV16 : ∀ (x1 : Int32) (x2 : Int32) I J T, V16 x1 x2 I J T → ix_W (ix_C d) (2, ix_lk ix_l39, none, 0, 0, Nat.blt 0 0, none) Q (16, [some (.inr (.inr (.inl (some (181))))), some (.inl (x1)), some (.inl (x2))], [], 0, 0, ix_mem 276 I J T)) (hV49 : ∀ (x1 : Int32) (x2 : Int32) I J T, V49 x1 x2 I J T → ix_W (ix_C d) (2, ix_lk ix_l39, none, 0, 0, Nat.blt 0 0, none) Q (49, [some (.inr (.inr (.inl (some (181))))), some (.inl (x1)), some (.inl (x2))], [], 0, 0, ix_mem 276 I J T)) (hQ : ∀ I J T, P I J T → Q none (ix_mem 276 I J T)) : ix_W (ix_C d) (2, ix_lk ix_l39, none, 0, 0, Nat.blt 0 0, none) Q (85, [some (.inr (.inr (.inl (some (181))))), none, some (.inl (x2))], [], 0, 0, ix_mem 276 I J T) := by
  refine h (fun x2 I J T => ix_W (ix_C d) (2, ix_lk ix_l39, none, 0, 0, Nat.blt 0 0, none) Q (85, [some (.inr (.inr (.inl (some (181))))), none, some (.inl (x2))], [], 0, 0, ix_mem 276 I J T)) ?_
  intro x2 I J T hb
  unfold wb_X2_joinLines_85_16_49 at hb
  refine ix_go 6 (x' := (if x2 < I 182 ((0 : Int32)).toNatClampNeg then 95 else 108, [some (.inr (.inr (.inl (some (181))))), none, some (.inl (x2))], [], 0, 0, ix_mem 276 I J T)) rfl ⟨rfl, rfl, rfl, rfl, rfl⟩ ?_
  refine ix_br (fun c15 => ?_) (fun c15 => ?_)
  · have h16 := hb.1 c15
    obtain ⟨p17, h18⟩ := h16
    refine ix_go 7 (x' := (85, [some (.inr (.inr (.inl (some (181))))), none, some (.inl (x2 + (1 : Int32)))], [], 0, 0, ix_mem 276 (ix_u2 I 192 (x2).toNatClampNeg ((-1 : Int32))) J T)) rfl ⟨rfl, rfl, rfl, rfl, p17⟩ ?_
    refine ix_subW ([some (.inr (.inr (.inl (some (181))))), none, some (.inl (x2 + (1 : Int32)))]) (ix_subS (ix_subS (ix_subS (ix_sub0)))) ?_
    exact h18
  · have h16 := hb.2 c15
    refine ix_go 2 (x' := (110, [some (.inr (.inr (.inl (some (181))))), none, some (.inl ((1 : Int32)))], [], 0, 0, ix_mem 276 I J T)) rfl trivial ?_
    refine ix_subW ([some (.inr (.inr (.inl (some (181))))), none, some (.inl ((1 : Int32)))]) (ix_subS (ix_subS (ix_subS (ix_sub0)))) ?_
    exact tl_X2_joinLines_110_16_49_85 h16 hV16 hV49 (fun _ I J T hv => hv) hQ
def wb_X2_joinLines_49_16 (x1 : Int32) (x2 : Int32) (I : Nat → Nat → Int32) (J : Nat → Nat → Int64) (T : Option Nat) (V49 : Int32 → Int32 → (Nat → Nat → Int32) → (Nat → Nat → Int64) → Option Nat → Prop) (V16 : Int32 → Int32 → (Nat → Nat → Int32) → (Nat → Nat → Int64) → Option Nat → Prop) (P : (Nat → Nat → Int32) → (Nat → Nat → Int64) → Option Nat → Prop) : Prop := ((x2 ≤ I 182 ((0 : Int32)).toNatClampNeg → ix_inb (x2) 13 = true ∧ wp_X2_putIn (x2) (x1) I (ix_u2 J 194 (x2).toNatClampNeg ((0 : Int64))) T (fun v13 I13 J13 T13 => wp_X2_shift (v13) (x1) I13 J13 T13 (fun I14 J14 T14 => V49 (x1) (x2 + (1 : Int32)) I14 J14 T14))) ∧ (¬ (x2 ≤ I 182 ((0 : Int32)).toNatClampNeg) → wl_X2_joinLines_85_16_49 ((0 : Int32)) I J T V16 V49 P))
def wl_X2_joinLines_49_16 (x1 : Int32) (x2 : Int32) (I : Nat → Nat → Int32) (J : Nat → Nat → Int64) (T : Option Nat) (V16 : Int32 → Int32 → (Nat → Nat → Int32) → (Nat → Nat → Int64) → Option Nat → Prop) (P : (Nat → Nat → Int32) → (Nat → Nat → Int64) → Option Nat → Prop) : Prop := ∀ V : Int32 → Int32 → (Nat → Nat → Int32) → (Nat → Nat → Int64) → Option Nat → Prop, (∀ (x1 : Int32) (x2 : Int32) (I : Nat → Nat → Int32) (J : Nat → Nat → Int64) (T : Option Nat), wb_X2_joinLines_49_16 x1 x2 I J T V V16 P → V x1 x2 I J T) → V x1 x2 I J T
set_option maxRecDepth 20000 in
theorem tl_X2_joinLines_49_16 {d : Nat} {x1 : Int32} {x2 : Int32} {I : Nat → Nat → Int32} {J : Nat → Nat → Int64} {T : Option Nat} {V16 : Int32 → Int32 → (Nat → Nat → Int32) → (Nat → Nat → Int64) → Option Nat → Prop} {P : (Nat → Nat → Int32) → (Nat → Nat → Int64) → Option Nat → Prop} {Q : ix_Q} (h : wl_X2_joinLines_49_16 x1 x2 I J T V16 P) (hV16 : ∀ (x1 : Int32) (x2 : Int32) I J T, V16 x1 x2 I J T → ix_W (ix_C (d + 5)) (2, ix_lk ix_l39, none, 0, 0, Nat.blt 0 0, none) Q (16, [some (.inr (.inr (.inl (some (181))))), some (.inl (x1)), some (.inl (x2))], [], 0, 0, ix_mem 276 I J T)) (hQ : ∀ I J T, P I J T → Q none (ix_mem 276 I J T)) : ix_W (ix_C (d + 5)) (2, ix_lk ix_l39, none, 0, 0, Nat.blt 0 0, none) Q (49, [some (.inr (.inr (.inl (some (181))))), some (.inl (x1)), some (.inl (x2))], [], 0, 0, ix_mem 276 I J T) := by
  refine h (fun x1 x2 I J T => ix_W (ix_C (d + 5)) (2, ix_lk ix_l39, none, 0, 0, Nat.blt 0 0, none) Q (49, [some (.inr (.inr (.inl (some (181))))), some (.inl (x1)), some (.inl (x2))], [], 0, 0, ix_mem 276 I J T)) ?_
  intro x1 x2 I J T hb
  unfold wb_X2_joinLines_49_16 at hb
  refine ix_go 6 (x' := (if x2 ≤ I 182 ((0 : Int32)).toNatClampNeg then 59 else 83, [some (.inr (.inr (.inl (some (181))))), some (.inl (x1)), some (.inl (x2))], [], 0, 0, ix_mem 276 I J T)) rfl ⟨rfl, rfl, rfl, rfl, rfl⟩ ?_
  refine ix_br (fun c9 => ?_) (fun c9 => ?_)
  · have h10 := hb.1 c9
    obtain ⟨p11, h12⟩ := h10
    refine ix_go 9 (x' := (70, [some (.inr (.inr (.inl (some (181))))), some (.inl (x1)), some (.inl (x2))], [.inl (x1), .inl (x2), .inr (.inr (.inl (some (181)))), .inr (.inr (.inl (some (181))))], 0, 0, ix_mem 276 I (ix_u2 J 194 (x2).toNatClampNeg ((0 : Int64))) T)) rfl ⟨rfl, rfl, rfl, rfl, p11⟩ ?_
    refine ix_sp rfl ⟨rfl, ⟨ix_lt rfl, ix_eq rfl, ix_lt rfl⟩, ix_le rfl, Nat.le_refl _, Nat.le_refl _, tp_X2_putIn h12 (fun v13 I13 J13 T13 h13 => ?_)⟩
    change ix_W _ _ _ (73, [some (.inr (.inr (.inl (some (181))))), some (.inl (x1)), some (.inl (x2))], [.inl (v13), .inr (.inr (.inl (some (181))))], 0, 0, ix_mem 276 I13 J13 T13)
    refine ix_go 1 (x' := (74, [some (.inr (.inr (.inl (some (181))))), some (.inl (x1)), some (.inl (x2))], [.inl (x1), .inl (v13), .inr (.inr (.inl (some (181))))], 0, 0, ix_mem 276 I13 J13 T13)) rfl trivial ?_
    refine ix_sp rfl ⟨rfl, ⟨ix_lt rfl, ix_eq rfl, ix_lt rfl⟩, ix_le rfl, Nat.le_refl _, Nat.le_refl _, tp_X2_shift h13 (fun I14 J14 T14 h14 => ?_)⟩
    change ix_W _ _ _ (77, [some (.inr (.inr (.inl (some (181))))), some (.inl (x1)), some (.inl (x2))], [], 0, 0, ix_mem 276 I14 J14 T14)
    refine ix_go 2 (x' := (49, [some (.inr (.inr (.inl (some (181))))), some (.inl (x1)), some (.inl (x2 + (1 : Int32)))], [], 0, 0, ix_mem 276 I14 J14 T14)) rfl trivial ?_
    refine ix_subW ([some (.inr (.inr (.inl (some (181))))), some (.inl (x1)), some (.inl (x2 + (1 : Int32)))]) (ix_subS (ix_subS (ix_subS (ix_sub0)))) ?_
    exact h14
  · have h10 := hb.2 c9
    refine ix_go 2 (x' := (85, [some (.inr (.inr (.inl (some (181))))), some (.inl (x1)), some (.inl ((0 : Int32)))], [], 0, 0, ix_mem 276 I J T)) rfl trivial ?_
    refine ix_subW ([some (.inr (.inr (.inl (some (181))))), none, some (.inl ((0 : Int32)))]) (ix_subS (ix_subN (ix_subS (ix_sub0)))) ?_
    exact tl_X2_joinLines_85_16_49 h10 hV16 (fun _ _ I J T hv => hv) hQ
def wb_X2_joinLines_16 (x1 : Int32) (x2 : Int32) (I : Nat → Nat → Int32) (J : Nat → Nat → Int64) (T : Option Nat) (V16 : Int32 → Int32 → (Nat → Nat → Int32) → (Nat → Nat → Int64) → Option Nat → Prop) (P : (Nat → Nat → Int32) → (Nat → Nat → Int64) → Option Nat → Prop) : Prop := ((x2 ≤ x1 → ((x2 ≤ (24 : Int32) → ix_inb (x2) 25 = true ∧ ix_inb (x2) 25 = true ∧ V16 (x1) (x2 + (1 : Int32)) (ix_u2 I 197 (x2).toNatClampNeg ((0 : Int32))) (ix_u2 J 195 (x2).toNatClampNeg ((0 : Int64))) T) ∧ (¬ (x2 ≤ (24 : Int32)) → wl_X2_joinLines_49_16 (x1) ((1 : Int32)) I J T V16 P))) ∧ (¬ (x2 ≤ x1) → wl_X2_joinLines_49_16 (x1) ((1 : Int32)) I J T V16 P))
def wl_X2_joinLines_16 (x1 : Int32) (x2 : Int32) (I : Nat → Nat → Int32) (J : Nat → Nat → Int64) (T : Option Nat) (P : (Nat → Nat → Int32) → (Nat → Nat → Int64) → Option Nat → Prop) : Prop := ∀ V : Int32 → Int32 → (Nat → Nat → Int32) → (Nat → Nat → Int64) → Option Nat → Prop, (∀ (x1 : Int32) (x2 : Int32) (I : Nat → Nat → Int32) (J : Nat → Nat → Int64) (T : Option Nat), wb_X2_joinLines_16 x1 x2 I J T V P → V x1 x2 I J T) → V x1 x2 I J T
set_option maxRecDepth 20000 in
theorem tl_X2_joinLines_16 {d : Nat} {x1 : Int32} {x2 : Int32} {I : Nat → Nat → Int32} {J : Nat → Nat → Int64} {T : Option Nat} {P : (Nat → Nat → Int32) → (Nat → Nat → Int64) → Option Nat → Prop} {Q : ix_Q} (h : wl_X2_joinLines_16 x1 x2 I J T P) (hQ : ∀ I J T, P I J T → Q none (ix_mem 276 I J T)) : ix_W (ix_C (d + 5)) (2, ix_lk ix_l39, none, 0, 0, Nat.blt 0 0, none) Q (16, [some (.inr (.inr (.inl (some (181))))), some (.inl (x1)), some (.inl (x2))], [], 0, 0, ix_mem 276 I J T) := by
  refine h (fun x1 x2 I J T => ix_W (ix_C (d + 5)) (2, ix_lk ix_l39, none, 0, 0, Nat.blt 0 0, none) Q (16, [some (.inr (.inr (.inl (some (181))))), some (.inl (x1)), some (.inl (x2))], [], 0, 0, ix_mem 276 I J T)) ?_
  intro x1 x2 I J T hb
  unfold wb_X2_joinLines_16 at hb
  refine ix_go 3 (x' := (if x2 ≤ x1 then 21 else 47, [some (.inr (.inr (.inl (some (181))))), some (.inl (x1)), some (.inl (x2))], [], 0, 0, ix_mem 276 I J T)) rfl trivial ?_
  refine ix_br (fun c1 => ?_) (fun c1 => ?_)
  · have h2 := hb.1 c1
    refine ix_go 3 (x' := (if x2 ≤ (24 : Int32) then 27 else 47, [some (.inr (.inr (.inl (some (181))))), some (.inl (x1)), some (.inl (x2))], [], 0, 0, ix_mem 276 I J T)) rfl trivial ?_
    refine ix_br (fun c3 => ?_) (fun c3 => ?_)
    · have h4 := h2.1 c3
      obtain ⟨p5, h6⟩ := h4
      obtain ⟨p7, h8⟩ := h6
      refine ix_go 12 (x' := (16, [some (.inr (.inr (.inl (some (181))))), some (.inl (x1)), some (.inl (x2 + (1 : Int32)))], [], 0, 0, ix_mem 276 (ix_u2 I 197 (x2).toNatClampNeg ((0 : Int32))) (ix_u2 J 195 (x2).toNatClampNeg ((0 : Int64))) T)) rfl ⟨rfl, rfl, rfl, rfl, p5, rfl, rfl, rfl, rfl, p7⟩ ?_
      refine ix_subW ([some (.inr (.inr (.inl (some (181))))), some (.inl (x1)), some (.inl (x2 + (1 : Int32)))]) (ix_subS (ix_subS (ix_subS (ix_sub0)))) ?_
      exact h8
    · have h4 := h2.2 c3
      refine ix_go 2 (x' := (49, [some (.inr (.inr (.inl (some (181))))), some (.inl (x1)), some (.inl ((1 : Int32)))], [], 0, 0, ix_mem 276 I J T)) rfl trivial ?_
      refine ix_subW ([some (.inr (.inr (.inl (some (181))))), some (.inl (x1)), some (.inl ((1 : Int32)))]) (ix_subS (ix_subS (ix_subS (ix_sub0)))) ?_
      exact tl_X2_joinLines_49_16 h4 (fun _ _ I J T hv => hv) hQ
  · have h2 := hb.2 c1
    refine ix_go 2 (x' := (49, [some (.inr (.inr (.inl (some (181))))), some (.inl (x1)), some (.inl ((1 : Int32)))], [], 0, 0, ix_mem 276 I J T)) rfl trivial ?_
    refine ix_subW ([some (.inr (.inr (.inl (some (181))))), some (.inl (x1)), some (.inl ((1 : Int32)))]) (ix_subS (ix_subS (ix_subS (ix_sub0)))) ?_
    exact tl_X2_joinLines_49_16 h2 (fun _ _ I J T hv => hv) hQ
def wp_X2_joinLines (I : Nat → Nat → Int32) (J : Nat → Nat → Int64) (T : Option Nat) (P : (Nat → Nat → Int32) → (Nat → Nat → Int64) → Option Nat → Prop) : Prop := wl_X2_joinLines_16 ((I 182 ((0 : Int32)).toNatClampNeg) + (I 182 ((1 : Int32)).toNatClampNeg)) ((0 : Int32)) I J T P
set_option maxRecDepth 20000 in
theorem tp_X2_joinLines {d : Nat} {I : Nat → Nat → Int32} {J : Nat → Nat → Int64} {T : Option Nat} {P : (Nat → Nat → Int32) → (Nat → Nat → Int64) → Option Nat → Prop} {Q : ix_Q} (h : wp_X2_joinLines I J T P) (hQ : ∀ I J T, P I J T → Q none (ix_mem 276 I J T)) : ix_C (d + 6) 39 [.inr (.inr (.inl (some (181))))] (ix_mem 276 I J T) Q := by
  unfold wp_X2_joinLines at h
  refine ix_enter (ls := [some (.inr (.inr (.inl (some (181))))), none, none]) rfl rfl rfl (Nat.le_of_ble_eq_true rfl) ?_
  refine ix_go 12 (x' := (16, [some (.inr (.inr (.inl (some (181))))), some (.inl ((I 182 ((0 : Int32)).toNatClampNeg) + (I 182 ((1 : Int32)).toNatClampNeg))), some (.inl ((0 : Int32)))], [], 0, 0, ix_mem 276 I J T)) rfl ⟨rfl, rfl, rfl, rfl, rfl, rfl, rfl, rfl, rfl, rfl⟩ ?_
  refine ix_subW ([some (.inr (.inr (.inl (some (181))))), some (.inl ((I 182 ((0 : Int32)).toNatClampNeg) + (I 182 ((1 : Int32)).toNatClampNeg))), some (.inl ((0 : Int32)))]) (ix_subS (ix_subS (ix_subS (ix_sub0)))) ?_
  exact tl_X2_joinLines_16 h hQ
