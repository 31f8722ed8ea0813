def wj_X12_road_j38 (I : Nat → Nat → Int32) (J : Nat → Nat → Int64) (T : Option Nat) (P : Int32 → (Nat → Nat → Int32) → (Nat → Nat → Int64) → Option Nat → Prop) : Prop := wp_X12_is ((1 : Int32)) I J T (fun v4 I4 J4 T4 => ix_01 (v4) = true ∧ P (v4) I4 J4 T4)
set_option maxRecDepth 20000 in
theorem tj_X12_road_j38 {d : Nat} {I : Nat → Nat → Int32} {J : Nat → Nat → Int64} {T : Option Nat} {P : Int32 → (Nat → Nat → Int32) → (Nat → Nat → Int64) → Option Nat → Prop} {Q : ix_Q} (h : wj_X12_road_j38 I J T P) (hQ : ∀ v I J T, P v I J T → Q (some (.inl v)) (ix_mem 276 I J T)) : ix_W (ix_C (d + 1)) (12, ix_lk ix_l249, (some .boolean), 0, 0, Nat.blt 0 0, none) Q (38, [some (.inr (.inr (.inl (some (204))))), none, none, none, none], [], 0, 0, ix_mem 276 I J T) := by
  unfold wj_X12_road_j38 at h
  refine ix_go 2 (x' := (40, [some (.inr (.inr (.inl (some (204))))), none, none, none, none], [.inl ((1 : Int32)), .inr (.inr (.inl (some (204))))], 0, 0, ix_mem 276 I J T)) rfl trivial ?_
  refine ix_sp rfl ⟨rfl, ⟨ix_lt rfl, ix_eq rfl, ix_lt rfl⟩, ix_le rfl, Nat.le_refl _, Nat.le_refl _, tp_X12_is h (fun v4 I4 J4 T4 h4 => ?_)⟩
  change ix_W _ _ _ (43, [some (.inr (.inr (.inl (some (204))))), none, none, none, none], [.inl (v4)], 0, 0, ix_mem 276 I4 J4 T4)
  exact ix_sp rfl ⟨Nat.le_refl _, Nat.le_refl _, ix_01_ok h4.1, hQ _ _ _ _ h4.2⟩
def wj_X12_road_j108_k211 (x1 : Int32) (x2 : Int32) (x4 : Int32) (s1 : Int32) (s2 : Int32) (I : Nat → Nat → Int32) (J : Nat → Nat → Int64) (T : Option Nat) (P : Int32 → (Nat → Nat → Int32) → (Nat → Nat → Int64) → Option Nat → Prop) : Prop := ix_inb (s1) 49 = true ∧ wp_X12_pair (x1) (x2) (ix_u2 I 211 (s1).toNatClampNeg (s2)) J T (fun v25 I25 J25 T25 => ix_inb (v25) 49 = true ∧ wp_X12_pair (x2) (x1) (ix_u2 I25 212 (v25).toNatClampNeg (x4)) J25 T25 (fun v28 I28 J28 T28 => ix_inb (v28) 49 = true ∧ wp_X12_is ((0 : Int32)) (ix_u2 I28 212 (v28).toNatClampNeg (x4)) J28 T28 (fun v31 I31 J31 T31 => ix_01 (v31) = true ∧ P (v31) I31 J31 T31)))
set_option maxRecDepth 20000 in
theorem tj_X12_road_j108_k211 {d : Nat} {x1 : Int32} {x2 : Int32} {x4 : Int32} {s1 : Int32} {s2 : Int32} {I : Nat → Nat → Int32} {J : Nat → Nat → Int64} {T : Option Nat} {P : Int32 → (Nat → Nat → Int32) → (Nat → Nat → Int64) → Option Nat → Prop} {Q : ix_Q} (h : wj_X12_road_j108_k211 x1 x2 x4 s1 s2 I J T P) (hQ : ∀ v I J T, P v I J T → Q (some (.inl v)) (ix_mem 276 I J T)) : ix_W (ix_C (d + 1)) (12, ix_lk ix_l249, (some .boolean), 0, 0, Nat.blt 0 0, none) Q (108, [some (.inr (.inr (.inl (some (204))))), some (.inl (x1)), some (.inl (x2)), none, some (.inl (x4))], [.inl (s2), .inl (s1), .inr (.inr (.inl (some (211))))], 0, 0, ix_mem 276 I J T) := by
  unfold wj_X12_road_j108_k211 at h
  obtain ⟨p23, h24⟩ := h
  refine ix_go 5 (x' := (115, [some (.inr (.inr (.inl (some (204))))), some (.inl (x1)), some (.inl (x2)), none, some (.inl (x4))], [.inl (x2), .inl (x1), .inr (.inr (.inl (some (212))))], 0, 0, ix_mem 276 (ix_u2 I 211 (s1).toNatClampNeg (s2)) J T)) rfl ⟨rfl, rfl, p23, rfl, rfl⟩ ?_
  refine ix_sp rfl ⟨rfl, trivial, ix_le rfl, Nat.le_refl _, Nat.le_refl _, tp_X12_pair h24 (fun v25 I25 J25 T25 h25 => ?_)⟩
  change ix_W _ _ _ (118, [some (.inr (.inr (.inl (some (204))))), some (.inl (x1)), some (.inl (x2)), none, some (.inl (x4))], [.inl (v25), .inr (.inr (.inl (some (212))))], 0, 0, ix_mem 276 I25 J25 T25)
  obtain ⟨p26, h27⟩ := h25
  refine ix_go 6 (x' := (127, [some (.inr (.inr (.inl (some (204))))), some (.inl (x1)), some (.inl (x2)), none, some (.inl (x4))], [.inl (x1), .inl (x2), .inr (.inr (.inl (some (212))))], 0, 0, ix_mem 276 (ix_u2 I25 212 (v25).toNatClampNeg (x4)) J25 T25)) rfl ⟨rfl, rfl, p26, rfl, rfl⟩ ?_
  refine ix_sp rfl ⟨rfl, trivial, ix_le rfl, Nat.le_refl _, Nat.le_refl _, tp_X12_pair h27 (fun v28 I28 J28 T28 h28 => ?_)⟩
  change ix_W _ _ _ (130, [some (.inr (.inr (.inl (some (204))))), some (.inl (x1)), some (.inl (x2)), none, some (.inl (x4))], [.inl (v28), .inr (.inr (.inl (some (212))))], 0, 0, ix_mem 276 I28 J28 T28)
  obtain ⟨p29, h30⟩ := h28
  refine ix_go 4 (x' := (135, [some (.inr (.inr (.inl (some (204))))), some (.inl (x1)), some (.inl (x2)), none, some (.inl (x4))], [.inl ((0 : Int32)), .inr (.inr (.inl (some (204))))], 0, 0, ix_mem 276 (ix_u2 I28 212 (v28).toNatClampNeg (x4)) J28 T28)) rfl ⟨rfl, rfl, p29⟩ ?_
  refine ix_sp rfl ⟨rfl, ⟨ix_lt rfl, ix_eq rfl, ix_lt rfl⟩, ix_le rfl, Nat.le_refl _, Nat.le_refl _, tp_X12_is h30 (fun v31 I31 J31 T31 h31 => ?_)⟩
  change ix_W _ _ _ (138, [some (.inr (.inr (.inl (some (204))))), some (.inl (x1)), some (.inl (x2)), none, some (.inl (x4))], [.inl (v31)], 0, 0, ix_mem 276 I31 J31 T31)
  exact ix_sp rfl ⟨Nat.le_refl _, Nat.le_refl _, ix_01_ok h31.1, hQ _ _ _ _ h31.2⟩
def wj_X12_road_j88_k211 (x1 : Int32) (x2 : Int32) (x3 : Int32) (x4 : Int32) (s1 : Int32) (s2 : Int32) (I : Nat → Nat → Int32) (J : Nat → Nat → Int64) (T : Option Nat) (P : Int32 → (Nat → Nat → Int32) → (Nat → Nat → Int64) → Option Nat → Prop) : Prop := ix_inb (s1) 49 = true ∧ wp_X12_pair (x2) (x1) (ix_u2 I 211 (s1).toNatClampNeg (s2)) J T (fun v20 I20 J20 T20 => ((x3 = (-1 : Int32) → wj_X12_road_j108_k211 (x1) (x2) (x4) (v20) ((0 : Int32)) I20 J20 T20 P) ∧ (¬ (x3 = (-1 : Int32)) → wj_X12_road_j108_k211 (x1) (x2) (x4) (v20) (x3) I20 J20 T20 P)))
set_option maxRecDepth 20000 in
theorem tj_X12_road_j88_k211 {d : Nat} {x1 : Int32} {x2 : Int32} {x3 : Int32} {x4 : Int32} {s1 : Int32} {s2 : Int32} {I : Nat → Nat → Int32} {J : Nat → Nat → Int64} {T : Option Nat} {P : Int32 → (Nat → Nat → Int32) → (Nat → Nat → Int64) → Option Nat → Prop} {Q : ix_Q} (h : wj_X12_road_j88_k211 x1 x2 x3 x4 s1 s2 I J T P) (hQ : ∀ v I J T, P v I J T → Q (some (.inl v)) (ix_mem 276 I J T)) : ix_W (ix_C (d + 1)) (12, ix_lk ix_l249, (some .boolean), 0, 0, Nat.blt 0 0, none) Q (88, [some (.inr (.inr (.inl (some (204))))), some (.inl (x1)), some (.inl (x2)), some (.inl (x3)), some (.inl (x4))], [.inl (s2), .inl (s1), .inr (.inr (.inl (some (211))))], 0, 0, ix_mem 276 I J T) := by
  unfold wj_X12_road_j88_k211 at h
  obtain ⟨p18, h19⟩ := h
  refine ix_go 5 (x' := (95, [some (.inr (.inr (.inl (some (204))))), some (.inl (x1)), some (.inl (x2)), some (.inl (x3)), some (.inl (x4))], [.inl (x1), .inl (x2), .inr (.inr (.inl (some (211))))], 0, 0, ix_mem 276 (ix_u2 I 211 (s1).toNatClampNeg (s2)) J T)) rfl ⟨rfl, rfl, p18, rfl, rfl⟩ ?_
  refine ix_sp rfl ⟨rfl, trivial, ix_le rfl, Nat.le_refl _, Nat.le_refl _, tp_X12_pair h19 (fun v20 I20 J20 T20 h20 => ?_)⟩
  change ix_W _ _ _ (98, [some (.inr (.inr (.inl (some (204))))), some (.inl (x1)), some (.inl (x2)), some (.inl (x3)), some (.inl (x4))], [.inl (v20), .inr (.inr (.inl (some (211))))], 0, 0, ix_mem 276 I20 J20 T20)
  refine ix_go 3 (x' := (if x3 = (-1 : Int32) then 103 else 107, [some (.inr (.inr (.inl (some (204))))), some (.inl (x1)), some (.inl (x2)), some (.inl (x3)), some (.inl (x4))], [.inl (v20), .inr (.inr (.inl (some (211))))], 0, 0, ix_mem 276 I20 J20 T20)) rfl trivial ?_
  refine ix_br (fun c21 => ?_) (fun c21 => ?_)
  · have h22 := h20.1 c21
    refine ix_go 2 (x' := (108, [some (.inr (.inr (.inl (some (204))))), some (.inl (x1)), some (.inl (x2)), some (.inl (x3)), some (.inl (x4))], [.inl ((0 : Int32)), .inl (v20), .inr (.inr (.inl (some (211))))], 0, 0, ix_mem 276 I20 J20 T20)) rfl trivial ?_
    refine ix_subW ([some (.inr (.inr (.inl (some (204))))), some (.inl (x1)), some (.inl (x2)), none, some (.inl (x4))]) (ix_subS (ix_subS (ix_subS (ix_subN (ix_subS (ix_sub0)))))) ?_
    exact tj_X12_road_j108_k211 h22 hQ
  · have h22 := h20.2 c21
    refine ix_go 1 (x' := (108, [some (.inr (.inr (.inl (some (204))))), some (.inl (x1)), some (.inl (x2)), some (.inl (x3)), some (.inl (x4))], [.inl (x3), .inl (v20), .inr (.inr (.inl (some (211))))], 0, 0, ix_mem 276 I20 J20 T20)) rfl trivial ?_
    refine ix_subW ([some (.inr (.inr (.inl (some (204))))), some (.inl (x1)), some (.inl (x2)), none, some (.inl (x4))]) (ix_subS (ix_subS (ix_subS (ix_subN (ix_subS (ix_sub0)))))) ?_
    exact tj_X12_road_j108_k211 h22 hQ
def wj_X12_road_j69 (x1 : Int32) (x2 : Int32) (x3 : Int32) (x4 : Int32) (I : Nat → Nat → Int32) (J : Nat → Nat → Int64) (T : Option Nat) (P : Int32 → (Nat → Nat → Int32) → (Nat → Nat → Int64) → Option Nat → Prop) : Prop := wp_X12_pair (x1) (x2) I J T (fun v15 I15 J15 T15 => ((x3 = (-1 : Int32) → wj_X12_road_j88_k211 (x1) (x2) (x3) (x4) (v15) ((0 : Int32)) I15 J15 T15 P) ∧ (¬ (x3 = (-1 : Int32)) → wj_X12_road_j88_k211 (x1) (x2) (x3) (x4) (v15) (x3) I15 J15 T15 P)))
set_option maxRecDepth 20000 in
theorem tj_X12_road_j69 {d : Nat} {x1 : Int32} {x2 : Int32} {x3 : Int32} {x4 : Int32} {I : Nat → Nat → Int32} {J : Nat → Nat → Int64} {T : Option Nat} {P : Int32 → (Nat → Nat → Int32) → (Nat → Nat → Int64) → Option Nat → Prop} {Q : ix_Q} (h : wj_X12_road_j69 x1 x2 x3 x4 I J T P) (hQ : ∀ v I J T, P v I J T → Q (some (.inl v)) (ix_mem 276 I J T)) : ix_W (ix_C (d + 1)) (12, ix_lk ix_l249, (some .boolean), 0, 0, Nat.blt 0 0, none) Q (69, [some (.inr (.inr (.inl (some (204))))), some (.inl (x1)), some (.inl (x2)), some (.inl (x3)), some (.inl (x4))], [], 0, 0, ix_mem 276 I J T) := by
  unfold wj_X12_road_j69 at h
  refine ix_go 4 (x' := (75, [some (.inr (.inr (.inl (some (204))))), some (.inl (x1)), some (.inl (x2)), some (.inl (x3)), some (.inl (x4))], [.inl (x2), .inl (x1), .inr (.inr (.inl (some (211))))], 0, 0, ix_mem 276 I J T)) rfl ⟨rfl, rfl⟩ ?_
  refine ix_sp rfl ⟨rfl, trivial, ix_le rfl, Nat.le_refl _, Nat.le_refl _, tp_X12_pair h (fun v15 I15 J15 T15 h15 => ?_)⟩
  change ix_W _ _ _ (78, [some (.inr (.inr (.inl (some (204))))), some (.inl (x1)), some (.inl (x2)), some (.inl (x3)), some (.inl (x4))], [.inl (v15), .inr (.inr (.inl (some (211))))], 0, 0, ix_mem 276 I15 J15 T15)
  refine ix_go 3 (x' := (if x3 = (-1 : Int32) then 83 else 87, [some (.inr (.inr (.inl (some (204))))), some (.inl (x1)), some (.inl (x2)), some (.inl (x3)), some (.inl (x4))], [.inl (v15), .inr (.inr (.inl (some (211))))], 0, 0, ix_mem 276 I15 J15 T15)) rfl trivial ?_
  refine ix_br (fun c16 => ?_) (fun c16 => ?_)
  · have h17 := h15.1 c16
    refine ix_go 2 (x' := (88, [some (.inr (.inr (.inl (some (204))))), some (.inl (x1)), some (.inl (x2)), some (.inl (x3)), some (.inl (x4))], [.inl ((0 : Int32)), .inl (v15), .inr (.inr (.inl (some (211))))], 0, 0, ix_mem 276 I15 J15 T15)) rfl trivial ?_
    refine ix_subW ([some (.inr (.inr (.inl (some (204))))), some (.inl (x1)), some (.inl (x2)), some (.inl (x3)), some (.inl (x4))]) (ix_subS (ix_subS (ix_subS (ix_subS (ix_subS (ix_sub0)))))) ?_
    exact tj_X12_road_j88_k211 h17 hQ
  · have h17 := h15.2 c16
    refine ix_go 1 (x' := (88, [some (.inr (.inr (.inl (some (204))))), some (.inl (x1)), some (.inl (x2)), some (.inl (x3)), some (.inl (x4))], [.inl (x3), .inl (v15), .inr (.inr (.inl (some (211))))], 0, 0, ix_mem 276 I15 J15 T15)) rfl trivial ?_
    refine ix_subW ([some (.inr (.inr (.inl (some (204))))), some (.inl (x1)), some (.inl (x2)), some (.inl (x3)), some (.inl (x4))]) (ix_subS (ix_subS (ix_subS (ix_subS (ix_subS (ix_sub0)))))) ?_
    exact tj_X12_road_j88_k211 h17 hQ
def wj_X12_road_j44 (x1 : Int32) (x2 : Int32) (x3 : Int32) (x4 : Int32) (I : Nat → Nat → Int32) (J : Nat → Nat → Int64) (T : Option Nat) (P : Int32 → (Nat → Nat → Int32) → (Nat → Nat → Int64) → Option Nat → Prop) : Prop := ((x3 = (-1 : Int32) → wp_X12_pair (x1) (x2) I J T (fun v9 I9 J9 T9 => ix_inb (v9) 49 = true ∧ ((I9 211 (v9).toNatClampNeg = 0 → wp_X12_is ((6 : Int32)) I9 J9 T9 (fun v14 I14 J14 T14 => ix_01 (v14) = true ∧ P (v14) I14 J14 T14)) ∧ (¬ (I9 211 (v9).toNatClampNeg = 0) → wj_X12_road_j69 (x1) (x2) (x3) (x4) I9 J9 T9 P)))) ∧ (¬ (x3 = (-1 : Int32)) → wj_X12_road_j69 (x1) (x2) (x3) (x4) I J T P))
set_option maxRecDepth 20000 in
theorem tj_X12_road_j44 {d : Nat} {x1 : Int32} {x2 : Int32} {x3 : Int32} {x4 : Int32} {I : Nat → Nat → Int32} {J : Nat → Nat → Int64} {T : Option Nat} {P : Int32 → (Nat → Nat → Int32) → (Nat → Nat → Int64) → Option Nat → Prop} {Q : ix_Q} (h : wj_X12_road_j44 x1 x2 x3 x4 I J T P) (hQ : ∀ v I J T, P v I J T → Q (some (.inl v)) (ix_mem 276 I J T)) : ix_W (ix_C (d + 1)) (12, ix_lk ix_l249, (some .boolean), 0, 0, Nat.blt 0 0, none) Q (44, [some (.inr (.inr (.inl (some (204))))), some (.inl (x1)), some (.inl (x2)), some (.inl (x3)), some (.inl (x4))], [], 0, 0, ix_mem 276 I J T) := by
  unfold wj_X12_road_j44 at h
  refine ix_go 3 (x' := (if x3 = (-1 : Int32) then 49 else 69, [some (.inr (.inr (.inl (some (204))))), some (.inl (x1)), some (.inl (x2)), some (.inl (x3)), some (.inl (x4))], [], 0, 0, ix_mem 276 I J T)) rfl trivial ?_
  refine ix_br (fun c7 => ?_) (fun c7 => ?_)
  · have h8 := h.1 c7
    refine ix_go 4 (x' := (55, [some (.inr (.inr (.inl (some (204))))), some (.inl (x1)), some (.inl (x2)), some (.inl (x3)), some (.inl (x4))], [.inl (x2), .inl (x1), .inr (.inr (.inl (some (211))))], 0, 0, ix_mem 276 I J T)) rfl ⟨rfl, rfl⟩ ?_
    refine ix_sp rfl ⟨rfl, trivial, ix_le rfl, Nat.le_refl _, Nat.le_refl _, tp_X12_pair h8 (fun v9 I9 J9 T9 h9 => ?_)⟩
    change ix_W _ _ _ (58, [some (.inr (.inr (.inl (some (204))))), some (.inl (x1)), some (.inl (x2)), some (.inl (x3)), some (.inl (x4))], [.inl (v9), .inr (.inr (.inl (some (211))))], 0, 0, ix_mem 276 I9 J9 T9)
    obtain ⟨p10, h11⟩ := h9
    refine ix_go 2 (x' := (if I9 211 (v9).toNatClampNeg = 0 then 62 else 69, [some (.inr (.inr (.inl (some (204))))), some (.inl (x1)), some (.inl (x2)), some (.inl (x3)), some (.inl (x4))], [], 0, 0, ix_mem 276 I9 J9 T9)) rfl ⟨rfl, rfl, p10⟩ ?_
    refine ix_br (fun c12 => ?_) (fun c12 => ?_)
    · have h13 := h11.1 c12
      refine ix_go 2 (x' := (65, [some (.inr (.inr (.inl (some (204))))), some (.inl (x1)), some (.inl (x2)), some (.inl (x3)), some (.inl (x4))], [.inl ((6 : Int32)), .inr (.inr (.inl (some (204))))], 0, 0, ix_mem 276 I9 J9 T9)) rfl trivial ?_
      refine ix_sp rfl ⟨rfl, ⟨ix_lt rfl, ix_eq rfl, ix_lt rfl⟩, ix_le rfl, Nat.le_refl _, Nat.le_refl _, tp_X12_is h13 (fun v14 I14 J14 T14 h14 => ?_)⟩
      change ix_W _ _ _ (68, [some (.inr (.inr (.inl (some (204))))), some (.inl (x1)), some (.inl (x2)), some (.inl (x3)), some (.inl (x4))], [.inl (v14)], 0, 0, ix_mem 276 I14 J14 T14)
      exact ix_sp rfl ⟨Nat.le_refl _, Nat.le_refl _, ix_01_ok h14.1, hQ _ _ _ _ h14.2⟩
    · have h13 := h11.2 c12
      refine ix_subW ([some (.inr (.inr (.inl (some (204))))), some (.inl (x1)), some (.inl (x2)), some (.inl (x3)), some (.inl (x4))]) (ix_subS (ix_subS (ix_subS (ix_subS (ix_subS (ix_sub0)))))) ?_
      exact tj_X12_road_j69 h13 hQ
  · have h8 := h.2 c7
    refine ix_subW ([some (.inr (.inr (.inl (some (204))))), some (.inl (x1)), some (.inl (x2)), some (.inl (x3)), some (.inl (x4))]) (ix_subS (ix_subS (ix_subS (ix_subS (ix_subS (ix_sub0)))))) ?_
    exact tj_X12_road_j69 h8 hQ
def wp_X12_road (a0 : Int32) (a1 : Int32) (a2 : Int32) (a3 : Int32) (I : Nat → Nat → Int32) (J : Nat → Nat → Int64) (T : Option Nat) (P : Int32 → (Nat → Nat → Int32) → (Nat → Nat → Int64) → Option Nat → Prop) : Prop := wp_X12_areTwo (a0) (a1) I J T (fun v1 I1 J1 T1 => ((v1 = 0 → wj_X12_road_j38 I1 J1 T1 P) ∧ (¬ (v1 = 0) → ((a2 = (-1 : Int32) → wj_X12_road_j44 (a0) (a1) (a2) (a3) I1 J1 T1 P) ∧ (¬ (a2 = (-1 : Int32)) → ((a2 < (1 : Int32) → wj_X12_road_j38 I1 J1 T1 P) ∧ (¬ (a2 < (1 : Int32)) → ((a2 ≤ (60 : Int32) → ((a3 < 0 → wj_X12_road_j38 I1 J1 T1 P) ∧ (¬ (a3 < 0) → ((a3 ≤ (10000 : Int32) → wj_X12_road_j44 (a0) (a1) (a2) (a3) I1 J1 T1 P) ∧ (¬ (a3 ≤ (10000 : Int32)) → wj_X12_road_j38 I1 J1 T1 P))))) ∧ (¬ (a2 ≤ (60 : Int32)) → wj_X12_road_j38 I1 J1 T1 P)))))))))
set_option maxRecDepth 20000 in
theorem tp_X12_road {d : Nat} {a0 : Int32} {a1 : Int32} {a2 : Int32} {a3 : Int32} {I : Nat → Nat → Int32} {J : Nat → Nat → Int64} {T : Option Nat} {P : Int32 → (Nat → Nat → Int32) → (Nat → Nat → Int64) → Option Nat → Prop} {Q : ix_Q} (h : wp_X12_road a0 a1 a2 a3 I J T P) (hQ : ∀ v I J T, P v I J T → Q (some (.inl v)) (ix_mem 276 I J T)) : ix_C (d + 3) 249 [.inr (.inr (.inl (some (204)))), .inl (a0), .inl (a1), .inl (a2), .inl (a3)] (ix_mem 276 I J T) Q := by
  unfold wp_X12_road at h
  refine ix_enter (ls := [some (.inr (.inr (.inl (some (204))))), some (.inl (a0)), some (.inl (a1)), some (.inl (a2)), some (.inl (a3))]) rfl rfl rfl (Nat.le_of_ble_eq_true rfl) ?_
  refine ix_go 3 (x' := (3, [some (.inr (.inr (.inl (some (204))))), some (.inl (a0)), some (.inl (a1)), some (.inl (a2)), some (.inl (a3))], [.inl (a1), .inl (a0), .inr (.inr (.inl (some (204))))], 0, 0, ix_mem 276 I J T)) rfl trivial ?_
  refine ix_sp rfl ⟨rfl, ⟨ix_lt rfl, ix_eq rfl, ix_lt rfl⟩, ix_le rfl, Nat.le_refl _, Nat.le_refl _, tp_X12_areTwo h (fun v1 I1 J1 T1 h1 => ?_)⟩
  change ix_W _ _ _ (6, [some (.inr (.inr (.inl (some (204))))), some (.inl (a0)), some (.inl (a1)), some (.inl (a2)), some (.inl (a3))], [.inl (v1)], 0, 0, ix_mem 276 I1 J1 T1)
  refine ix_go 1 (x' := (if v1 = 0 then 38 else 9, [some (.inr (.inr (.inl (some (204))))), some (.inl (a0)), some (.inl (a1)), some (.inl (a2)), some (.inl (a3))], [], 0, 0, ix_mem 276 I1 J1 T1)) rfl trivial ?_
  refine ix_br (fun c2 => ?_) (fun c2 => ?_)
  · have h3 := h1.1 c2
    refine ix_subW ([some (.inr (.inr (.inl (some (204))))), none, none, none, none]) (ix_subS (ix_subN (ix_subN (ix_subN (ix_subN (ix_sub0)))))) ?_
    exact tj_X12_road_j38 h3 hQ
  · have h3 := h1.2 c2
    refine ix_go 3 (x' := (if a2 = (-1 : Int32) then 44 else 14, [some (.inr (.inr (.inl (some (204))))), some (.inl (a0)), some (.inl (a1)), some (.inl (a2)), some (.inl (a3))], [], 0, 0, ix_mem 276 I1 J1 T1)) rfl trivial ?_
    refine ix_br (fun c5 => ?_) (fun c5 => ?_)
    · have h6 := h3.1 c5
      refine ix_subW ([some (.inr (.inr (.inl (some (204))))), some (.inl (a0)), some (.inl (a1)), some (.inl (a2)), some (.inl (a3))]) (ix_subS (ix_subS (ix_subS (ix_subS (ix_subS (ix_sub0)))))) ?_
      exact tj_X12_road_j44 h6 hQ
    · have h6 := h3.2 c5
      refine ix_go 3 (x' := (if a2 < (1 : Int32) then 38 else 19, [some (.inr (.inr (.inl (some (204))))), some (.inl (a0)), some (.inl (a1)), some (.inl (a2)), some (.inl (a3))], [], 0, 0, ix_mem 276 I1 J1 T1)) rfl trivial ?_
      refine ix_br (fun c32 => ?_) (fun c32 => ?_)
      · have h33 := h6.1 c32
        refine ix_subW ([some (.inr (.inr (.inl (some (204))))), none, none, none, none]) (ix_subS (ix_subN (ix_subN (ix_subN (ix_subN (ix_sub0)))))) ?_
        exact tj_X12_road_j38 h33 hQ
      · have h33 := h6.2 c32
        refine ix_go 3 (x' := (if a2 ≤ (60 : Int32) then 25 else 38, [some (.inr (.inr (.inl (some (204))))), some (.inl (a0)), some (.inl (a1)), some (.inl (a2)), some (.inl (a3))], [], 0, 0, ix_mem 276 I1 J1 T1)) rfl trivial ?_
        refine ix_br (fun c34 => ?_) (fun c34 => ?_)
        · have h35 := h33.1 c34
          refine ix_go 2 (x' := (if a3 < 0 then 38 else 30, [some (.inr (.inr (.inl (some (204))))), some (.inl (a0)), some (.inl (a1)), some (.inl (a2)), some (.inl (a3))], [], 0, 0, ix_mem 276 I1 J1 T1)) rfl trivial ?_
          refine ix_br (fun c36 => ?_) (fun c36 => ?_)
          · have h37 := h35.1 c36
            refine ix_subW ([some (.inr (.inr (.inl (some (204))))), none, none, none, none]) (ix_subS (ix_subN (ix_subN (ix_subN (ix_subN (ix_sub0)))))) ?_
            exact tj_X12_road_j38 h37 hQ
          · have h37 := h35.2 c36
            refine ix_go 3 (x' := (if a3 ≤ (10000 : Int32) then 44 else 38, [some (.inr (.inr (.inl (some (204))))), some (.inl (a0)), some (.inl (a1)), some (.inl (a2)), some (.inl (a3))], [], 0, 0, ix_mem 276 I1 J1 T1)) rfl trivial ?_
            refine ix_br (fun c38 => ?_) (fun c38 => ?_)
            · have h39 := h37.1 c38
              refine ix_subW ([some (.inr (.inr (.inl (some (204))))), some (.inl (a0)), some (.inl (a1)), some (.inl (a2)), some (.inl (a3))]) (ix_subS (ix_subS (ix_subS (ix_subS (ix_subS (ix_sub0)))))) ?_
              exact tj_X12_road_j44 h39 hQ
            · have h39 := h37.2 c38
              refine ix_subW ([some (.inr (.inr (.inl (some (204))))), none, none, none, none]) (ix_subS (ix_subN (ix_subN (ix_subN (ix_subN (ix_sub0)))))) ?_
              exact tj_X12_road_j38 h39 hQ
        · have h35 := h33.2 c34
          refine ix_subW ([some (.inr (.inr (.inl (some (204))))), none, none, none, none]) (ix_subS (ix_subN (ix_subN (ix_subN (ix_subN (ix_sub0)))))) ?_
          exact tj_X12_road_j38 h35 hQ
def wp_X12_isRoad (a0 : Int32) (a1 : Int32) (I : Nat → Nat → Int32) (J : Nat → Nat → Int64) (T : Option Nat) (P : Int32 → (Nat → Nat → Int32) → (Nat → Nat → Int64) → Option Nat → Prop) : Prop := ((a0 = a1 → P ((0 : Int32)) I J T) ∧ (¬ (a0 = a1) → wp_X12_pair (a0) (a1) I J T (fun v3 I3 J3 T3 => ix_inb (v3) 49 = true ∧ ((I3 211 (v3).toNatClampNeg ≤ 0 → P ((0 : Int32)) I3 J3 T3) ∧ (¬ (I3 211 (v3).toNatClampNeg ≤ 0) → P ((1 : Int32)) I3 J3 T3)))))
set_option maxRecDepth 20000 in
theorem tp_X12_isRoad {d : Nat} {a0 : Int32} {a1 : Int32} {I : Nat → Nat → Int32} {J : Nat → Nat → Int64} {T : Option Nat} {P : Int32 → (Nat → Nat → Int32) → (Nat → Nat → Int64) → Option Nat → Prop} {Q : ix_Q} (h : wp_X12_isRoad a0 a1 I J T P) (hQ : ∀ v I J T, P v I J T → Q (some (.inl v)) (ix_mem 276 I J T)) : ix_C (d + 2) 250 [.inr (.inr (.inl (some (204)))), .inl (a0), .inl (a1)] (ix_mem 276 I J T) Q := by
  unfold wp_X12_isRoad at h
  refine ix_enter (ls := [some (.inr (.inr (.inl (some (204))))), some (.inl (a0)), some (.inl (a1))]) rfl rfl rfl (Nat.le_of_ble_eq_true rfl) ?_
  refine ix_go 3 (x' := (if a0 = a1 then 22 else 5, [some (.inr (.inr (.inl (some (204))))), some (.inl (a0)), some (.inl (a1))], [], 0, 0, ix_mem 276 I J T)) rfl trivial ?_
  refine ix_br (fun c1 => ?_) (fun c1 => ?_)
  · have h2 := h.1 c1
    refine ix_go 1 (x' := (23, [some (.inr (.inr (.inl (some (204))))), some (.inl (a0)), some (.inl (a1))], [.inl ((0 : Int32))], 0, 0, ix_mem 276 I J T)) rfl trivial ?_
    exact ix_sp rfl ⟨Nat.le_refl _, Nat.le_refl _, ix_01_ok rfl, hQ _ _ _ _ h2⟩
  · have h2 := h.2 c1
    refine ix_go 4 (x' := (11, [some (.inr (.inr (.inl (some (204))))), some (.inl (a0)), some (.inl (a1))], [.inl (a1), .inl (a0), .inr (.inr (.inl (some (211))))], 0, 0, ix_mem 276 I J T)) rfl ⟨rfl, rfl⟩ ?_
    refine ix_sp rfl ⟨rfl, trivial, ix_le rfl, Nat.le_refl _, Nat.le_refl _, tp_X12_pair h2 (fun v3 I3 J3 T3 h3 => ?_)⟩
    change ix_W _ _ _ (14, [some (.inr (.inr (.inl (some (204))))), some (.inl (a0)), some (.inl (a1))], [.inl (v3), .inr (.inr (.inl (some (211))))], 0, 0, ix_mem 276 I3 J3 T3)
    obtain ⟨p4, h5⟩ := h3
    refine ix_go 2 (x' := (if I3 211 (v3).toNatClampNeg ≤ 0 then 22 else 18, [some (.inr (.inr (.inl (some (204))))), some (.inl (a0)), some (.inl (a1))], [], 0, 0, ix_mem 276 I3 J3 T3)) rfl ⟨rfl, rfl, p4⟩ ?_
    refine ix_br (fun c6 => ?_) (fun c6 => ?_)
    · have h7 := h5.1 c6
      refine ix_go 1 (x' := (23, [some (.inr (.inr (.inl (some (204))))), some (.inl (a0)), some (.inl (a1))], [.inl ((0 : Int32))], 0, 0, ix_mem 276 I3 J3 T3)) rfl trivial ?_
      exact ix_sp rfl ⟨Nat.le_refl _, Nat.le_refl _, ix_01_ok rfl, hQ _ _ _ _ h7⟩
    · have h7 := h5.2 c6
      refine ix_go 2 (x' := (23, [some (.inr (.inr (.inl (some (204))))), some (.inl (a0)), some (.inl (a1))], [.inl ((1 : Int32))], 0, 0, ix_mem 276 I3 J3 T3)) rfl trivial ?_
      exact ix_sp rfl ⟨Nat.le_refl _, Nat.le_refl _, ix_01_ok rfl, hQ _ _ _ _ h7⟩
def wb_X12_four_3 (x1 : Int32) (x2 : Int32) (I : Nat → Nat → Int32) (J : Nat → Nat → Int64) (T : Option Nat) (V3 : Int32 → Int32 → (Nat → Nat → Int32) → (Nat → Nat → Int64) → Option Nat → Prop) (P : (Nat → Nat → Int32) → (Nat → Nat → Int64) → Option Nat → Prop) : Prop := ((x2 < 0 → P I J T) ∧ (¬ (x2 < 0) → ix_inb (I 204 15) 600 = true ∧ V3 (x1) (x2 + (-8 : Int32)) (ix_u2 (ix_u2 I 213 (I 204 15).toNatClampNeg ((((x1) >>> ((x2) &&& 31)).toInt8.toInt32).toInt8.toInt32)) 204 15 ((I 204 15) + ((1 : Int32)))) J T))
def wl_X12_four_3 (x1 : Int32) (x2 : Int32) (I : Nat → Nat → Int32) (J : Nat → Nat → Int64) (T : Option Nat) (P : (Nat → Nat → Int32) → (Nat → Nat → Int64) → Option Nat → Prop) : Prop := ∀ V : Int32 → Int32 → (Nat → Nat → Int32) → (Nat → Nat → Int64) → Option Nat → Prop, (∀ (x1 : Int32) (x2 : Int32) (I : Nat → Nat → Int32) (J : Nat → Nat → Int64) (T : Option Nat), wb_X12_four_3 x1 x2 I J T V P → V x1 x2 I J T) → V x1 x2 I J T
set_option maxRecDepth 20000 in
theorem tl_X12_four_3 {d : Nat} {x1 : Int32} {x2 : Int32} {I : Nat → Nat → Int32} {J : Nat → Nat → Int64} {T : Option Nat} {P : (Nat → Nat → Int32) → (Nat → Nat → Int64) → Option Nat → Prop} {Q : ix_Q} (h : wl_X12_four_3 x1 x2 I J T P) (hQ : ∀ I J T, P I J T → Q none (ix_mem 276 I J T)) : ix_W (ix_C d) (12, ix_lk ix_l251, none, 0, 0, Nat.blt 0 0, none) Q (3, [some (.inr (.inr (.inl (some (204))))), some (.inl (x1)), some (.inl (x2))], [], 0, 0, ix_mem 276 I J T) := by
  refine h (fun x1 x2 I J T => ix_W (ix_C d) (12, ix_lk ix_l251, none, 0, 0, Nat.blt 0 0, none) Q (3, [some (.inr (.inr (.inl (some (204))))), some (.inl (x1)), some (.inl (x2))], [], 0, 0, ix_mem 276 I J T)) ?_
  intro x1 x2 I J T hb
  unfold wb_X12_four_3 at hb
  refine ix_go 2 (x' := (if x2 < 0 then 36 else 7, [some (.inr (.inr (.inl (some (204))))), some (.inl (x1)), some (.inl (x2))], [], 0, 0, ix_mem 276 I J T)) rfl trivial ?_
  refine ix_br (fun c1 => ?_) (fun c1 => ?_)
  · have h2 := hb.1 c1
    exact ix_sp rfl ⟨Nat.le_refl _, Nat.le_refl _, rfl, hQ _ _ _ h2⟩
  · have h2 := hb.2 c1
    refine ix_go 7 (x' := (18, [some (.inr (.inr (.inl (some (204))))), some (.inl (x1)), some (.inl (x2))], [.inl ((x1) >>> ((x2) &&& 31)), .inl (I 204 15), .inr (.inr (.inl (some (213))))], 0, 0, ix_mem 276 I J T)) rfl ⟨rfl, rfl, rfl, rfl⟩ ?_
    obtain ⟨p3, h4⟩ := h2
    refine ix_go 7 (x' := (27, [some (.inr (.inr (.inl (some (204))))), some (.inl (x1)), some (.inl (x2))], [.inl ((I 204 15) + ((1 : Int32))), .inr (.inr (.inl (some (204))))], 0, 0, ix_mem 276 (ix_u2 I 213 (I 204 15).toNatClampNeg ((((x1) >>> ((x2) &&& 31)).toInt8.toInt32).toInt8.toInt32)) J T)) rfl ⟨rfl, rfl, p3, rfl, rfl⟩ ?_
    refine ix_go 3 (x' := (3, [some (.inr (.inr (.inl (some (204))))), some (.inl (x1)), some (.inl (x2 + (-8 : Int32)))], [], 0, 0, ix_mem 276 (ix_u2 (ix_u2 I 213 (I 204 15).toNatClampNeg ((((x1) >>> ((x2) &&& 31)).toInt8.toInt32).toInt8.toInt32)) 204 15 ((I 204 15) + ((1 : Int32)))) J T)) rfl ⟨rfl, rfl⟩ ?_
    refine ix_subW ([some (.inr (.inr (.inl (some (204))))), some (.inl (x1)), some (.inl (x2 + (-8 : Int32)))]) (ix_subS (ix_subS (ix_subS (ix_sub0)))) ?_
    exact h4
def wp_X12_four (a0 : Int32) (I : Nat → Nat → Int32) (J : Nat → Nat → Int64) (T : Option Nat) (P : (Nat → Nat → Int32) → (Nat → Nat → Int64) → Option Nat → Prop) : Prop := wl_X12_four_3 (a0) ((24 : Int32)) I J T P
set_option maxRecDepth 20000 in
theorem tp_X12_four {d : Nat} {a0 : Int32} {I : Nat → Nat → Int32} {J : Nat → Nat → Int64} {T : Option Nat} {P : (Nat → Nat → Int32) → (Nat → Nat → Int64) → Option Nat → Prop} {Q : ix_Q} (h : wp_X12_four a0 I J T P) (hQ : ∀ I J T, P I J T → Q none (ix_mem 276 I J T)) : ix_C (d + 1) 251 [.inr (.inr (.inl (some (204)))), .inl (a0)] (ix_mem 276 I J T) Q := by
  unfold wp_X12_four at h
  refine ix_enter (ls := [some (.inr (.inr (.inl (some (204))))), some (.inl (a0)), none]) rfl rfl rfl (Nat.le_of_ble_eq_true rfl) ?_
  refine ix_go 2 (x' := (3, [some (.inr (.inr (.inl (some (204))))), some (.inl (a0)), some (.inl ((24 : Int32)))], [], 0, 0, ix_mem 276 I J T)) rfl trivial ?_
  refine ix_subW ([some (.inr (.inr (.inl (some (204))))), some (.inl (a0)), some (.inl ((24 : Int32)))]) (ix_subS (ix_subS (ix_subS (ix_sub0)))) ?_
  exact tl_X12_four_3 h hQ
def wp_X12_feed (a0 : Int32) (a1 : Int32) (a2 : Int32) (a3 : Int32) (a4 : Int32) (I : Nat → Nat → Int32) (J : Nat → Nat → Int64) (T : Option Nat) (P : Int32 → (Nat → Nat → Int32) → (Nat → Nat → Int64) → Option Nat → Prop) : Prop := (((I 204 15) + ((20 : Int32)) ≤ (600 : Int32) → wp_X12_four (a0) I J T (fun I3 J3 T3 => wp_X12_four (a1) I3 J3 T3 (fun I4 J4 T4 => wp_X12_four (a2) I4 J4 T4 (fun I5 J5 T5 => wp_X12_four (a3) I5 J5 T5 (fun I6 J6 T6 => wp_X12_four (a4) I6 J6 T6 (fun I7 J7 T7 => P (I7 204 15) I7 J7 T7)))))) ∧ (¬ ((I 204 15) + ((20 : Int32)) ≤ (600 : Int32)) → P ((-1 : Int32)) I J T))
set_option maxRecDepth 20000 in
theorem tp_X12_feed {d : Nat} {a0 : Int32} {a1 : Int32} {a2 : Int32} {a3 : Int32} {a4 : Int32} {I : Nat → Nat → Int32} {J : Nat → Nat → Int64} {T : Option Nat} {P : Int32 → (Nat → Nat → Int32) → (Nat → Nat → Int64) → Option Nat → Prop} {Q : ix_Q} (h : wp_X12_feed a0 a1 a2 a3 a4 I J T P) (hQ : ∀ v I J T, P v I J T → Q (some (.inl v)) (ix_mem 276 I J T)) : ix_C (d + 2) 252 [.inr (.inr (.inl (some (204)))), .inl (a0), .inl (a1), .inl (a2), .inl (a3), .inl (a4)] (ix_mem 276 I J T) Q := by
  unfold wp_X12_feed at h
  refine ix_enter (ls := [some (.inr (.inr (.inl (some (204))))), some (.inl (a0)), some (.inl (a1)), some (.inl (a2)), some (.inl (a3)), some (.inl (a4))]) rfl rfl rfl (Nat.le_of_ble_eq_true rfl) ?_
  refine ix_go 6 (x' := (if (I 204 15) + ((20 : Int32)) ≤ (600 : Int32) then 15 else 13, [some (.inr (.inr (.inl (some (204))))), some (.inl (a0)), some (.inl (a1)), some (.inl (a2)), some (.inl (a3)), some (.inl (a4))], [], 0, 0, ix_mem 276 I J T)) rfl ⟨rfl, rfl⟩ ?_
  refine ix_br (fun c1 => ?_) (fun c1 => ?_)
  · have h2 := h.1 c1
    refine ix_go 2 (x' := (17, [some (.inr (.inr (.inl (some (204))))), some (.inl (a0)), some (.inl (a1)), some (.inl (a2)), some (.inl (a3)), some (.inl (a4))], [.inl (a0), .inr (.inr (.inl (some (204))))], 0, 0, ix_mem 276 I J T)) rfl trivial ?_
    refine ix_sp rfl ⟨rfl, ⟨ix_lt rfl, ix_eq rfl, ix_lt rfl⟩, ix_le rfl, Nat.le_refl _, Nat.le_refl _, tp_X12_four h2 (fun I3 J3 T3 h3 => ?_)⟩
    change ix_W _ _ _ (20, [some (.inr (.inr (.inl (some (204))))), some (.inl (a0)), some (.inl (a1)), some (.inl (a2)), some (.inl (a3)), some (.inl (a4))], [], 0, 0, ix_mem 276 I3 J3 T3)
    refine ix_go 2 (x' := (22, [some (.inr (.inr (.inl (some (204))))), some (.inl (a0)), some (.inl (a1)), some (.inl (a2)), some (.inl (a3)), some (.inl (a4))], [.inl (a1), .inr (.inr (.inl (some (204))))], 0, 0, ix_mem 276 I3 J3 T3)) rfl trivial ?_
    refine ix_sp rfl ⟨rfl, ⟨ix_lt rfl, ix_eq rfl, ix_lt rfl⟩, ix_le rfl, Nat.le_refl _, Nat.le_refl _, tp_X12_four h3 (fun I4 J4 T4 h4 => ?_)⟩
    change ix_W _ _ _ (25, [some (.inr (.inr (.inl (some (204))))), some (.inl (a0)), some (.inl (a1)), some (.inl (a2)), some (.inl (a3)), some (.inl (a4))], [], 0, 0, ix_mem 276 I4 J4 T4)
    refine ix_go 2 (x' := (27, [some (.inr (.inr (.inl (some (204))))), some (.inl (a0)), some (.inl (a1)), some (.inl (a2)), some (.inl (a3)), some (.inl (a4))], [.inl (a2), .inr (.inr (.inl (some (204))))], 0, 0, ix_mem 276 I4 J4 T4)) rfl trivial ?_
    refine ix_sp rfl ⟨rfl, ⟨ix_lt rfl, ix_eq rfl, ix_lt rfl⟩, ix_le rfl, Nat.le_refl _, Nat.le_refl _, tp_X12_four h4 (fun I5 J5 T5 h5 => ?_)⟩
    change ix_W _ _ _ (30, [some (.inr (.inr (.inl (some (204))))), some (.inl (a0)), some (.inl (a1)), some (.inl (a2)), some (.inl (a3)), some (.inl (a4))], [], 0, 0, ix_mem 276 I5 J5 T5)
    refine ix_go 2 (x' := (33, [some (.inr (.inr (.inl (some (204))))), some (.inl (a0)), some (.inl (a1)), some (.inl (a2)), some (.inl (a3)), some (.inl (a4))], [.inl (a3), .inr (.inr (.inl (some (204))))], 0, 0, ix_mem 276 I5 J5 T5)) rfl trivial ?_
    refine ix_sp rfl ⟨rfl, ⟨ix_lt rfl, ix_eq rfl, ix_lt rfl⟩, ix_le rfl, Nat.le_refl _, Nat.le_refl _, tp_X12_four h5 (fun I6 J6 T6 h6 => ?_)⟩
    change ix_W _ _ _ (36, [some (.inr (.inr (.inl (some (204))))), some (.inl (a0)), some (.inl (a1)), some (.inl (a2)), some (.inl (a3)), some (.inl (a4))], [], 0, 0, ix_mem 276 I6 J6 T6)
    refine ix_go 2 (x' := (39, [some (.inr (.inr (.inl (some (204))))), some (.inl (a0)), some (.inl (a1)), some (.inl (a2)), some (.inl (a3)), some (.inl (a4))], [.inl (a4), .inr (.inr (.inl (some (204))))], 0, 0, ix_mem 276 I6 J6 T6)) rfl trivial ?_
    refine ix_sp rfl ⟨rfl, ⟨ix_lt rfl, ix_eq rfl, ix_lt rfl⟩, ix_le rfl, Nat.le_refl _, Nat.le_refl _, tp_X12_four h6 (fun I7 J7 T7 h7 => ?_)⟩
    change ix_W _ _ _ (42, [some (.inr (.inr (.inl (some (204))))), some (.inl (a0)), some (.inl (a1)), some (.inl (a2)), some (.inl (a3)), some (.inl (a4))], [], 0, 0, ix_mem 276 I7 J7 T7)
    refine ix_go 2 (x' := (46, [some (.inr (.inr (.inl (some (204))))), some (.inl (a0)), some (.inl (a1)), some (.inl (a2)), some (.inl (a3)), some (.inl (a4))], [.inl (I7 204 15)], 0, 0, ix_mem 276 I7 J7 T7)) rfl ⟨rfl, rfl⟩ ?_
    exact ix_sp rfl ⟨Nat.le_refl _, Nat.le_refl _, trivial, hQ _ _ _ _ h7⟩
  · have h2 := h.2 c1
    refine ix_go 1 (x' := (14, [some (.inr (.inr (.inl (some (204))))), some (.inl (a0)), some (.inl (a1)), some (.inl (a2)), some (.inl (a3)), some (.inl (a4))], [.inl ((-1 : Int32))], 0, 0, ix_mem 276 I J T)) rfl trivial ?_
    exact ix_sp rfl ⟨Nat.le_refl _, Nat.le_refl _, trivial, hQ _ _ _ _ h2⟩
def wp_X12_at (a0 : Int32) (I : Nat → Nat → Int32) (J : Nat → Nat → Int64) (T : Option Nat) (P : Int32 → (Nat → Nat → Int32) → (Nat → Nat → Int64) → Option Nat → Prop) : Prop := ((a0 < I 204 16 → ix_inb (a0) 600 = true ∧ P ((I 214 (a0).toNatClampNeg) &&& ((255 : Int32))) I J T) ∧ (¬ (a0 < I 204 16) → P ((-1 : Int32)) I J T))
set_option maxRecDepth 20000 in
theorem tp_X12_at {d : Nat} {a0 : Int32} {I : Nat → Nat → Int32} {J : Nat → Nat → Int64} {T : Option Nat} {P : Int32 → (Nat → Nat → Int32) → (Nat → Nat → Int64) → Option Nat → Prop} {Q : ix_Q} (h : wp_X12_at a0 I J T P) (hQ : ∀ v I J T, P v I J T → Q (some (.inl v)) (ix_mem 276 I J T)) : ix_C (d + 1) 253 [.inr (.inr (.inl (some (204)))), .inl (a0)] (ix_mem 276 I J T) Q := by
  unfold wp_X12_at at h
  refine ix_enter (ls := [some (.inr (.inr (.inl (some (204))))), some (.inl (a0))]) rfl rfl rfl (Nat.le_of_ble_eq_true rfl) ?_
  refine ix_go 4 (x' := (if a0 < I 204 16 then 8 else 21, [some (.inr (.inr (.inl (some (204))))), some (.inl (a0))], [], 0, 0, ix_mem 276 I J T)) rfl ⟨rfl, rfl⟩ ?_
  refine ix_br (fun c1 => ?_) (fun c1 => ?_)
  · have h2 := h.1 c1
    obtain ⟨p3, h4⟩ := h2
    refine ix_go 7 (x' := (22, [some (.inr (.inr (.inl (some (204))))), some (.inl (a0))], [.inl ((I 214 (a0).toNatClampNeg) &&& ((255 : Int32)))], 0, 0, ix_mem 276 I J T)) rfl ⟨rfl, rfl, rfl, rfl, p3⟩ ?_
    exact ix_sp rfl ⟨Nat.le_refl _, Nat.le_refl _, trivial, hQ _ _ _ _ h4⟩
  · have h2 := h.2 c1
    refine ix_go 1 (x' := (22, [some (.inr (.inr (.inl (some (204))))), some (.inl (a0))], [.inl ((-1 : Int32))], 0, 0, ix_mem 276 I J T)) rfl trivial ?_
    exact ix_sp rfl ⟨Nat.le_refl _, Nat.le_refl _, trivial, hQ _ _ _ _ h2⟩
def wp_X12_isSmall (a0 : Int32) (I : Nat → Nat → Int32) (J : Nat → Nat → Int64) (T : Option Nat) (P : Int32 → (Nat → Nat → Int32) → (Nat → Nat → Int64) → Option Nat → Prop) : Prop := ((a0 < (97 : Int32) → P ((0 : Int32)) I J T) ∧ (¬ (a0 < (97 : Int32)) → ((a0 ≤ (122 : Int32) → P ((1 : Int32)) I J T) ∧ (¬ (a0 ≤ (122 : Int32)) → P ((0 : Int32)) I J T))))
set_option maxRecDepth 20000 in
theorem tp_X12_isSmall {d : Nat} {a0 : Int32} {I : Nat → Nat → Int32} {J : Nat → Nat → Int64} {T : Option Nat} {P : Int32 → (Nat → Nat → Int32) → (Nat → Nat → Int64) → Option Nat → Prop} {Q : ix_Q} (h : wp_X12_isSmall a0 I J T P) (hQ : ∀ v I J T, P v I J T → Q (some (.inl v)) (ix_mem 276 I J T)) : ix_C (d + 1) 254 [.inl (a0)] (ix_mem 276 I J T) Q := by
  unfold wp_X12_isSmall at h
  refine ix_enter (ls := [some (.inl (a0))]) rfl rfl rfl (Nat.le_of_ble_eq_true rfl) ?_
  refine ix_go 3 (x' := (if a0 < (97 : Int32) then 16 else 6, [some (.inl (a0))], [], 0, 0, ix_mem 276 I J T)) rfl trivial ?_
  refine ix_br (fun c1 => ?_) (fun c1 => ?_)
  · have h2 := h.1 c1
    refine ix_go 1 (x' := (17, [some (.inl (a0))], [.inl ((0 : Int32))], 0, 0, ix_mem 276 I J T)) rfl trivial ?_
    exact ix_sp rfl ⟨Nat.le_refl _, Nat.le_refl _, ix_01_ok rfl, hQ _ _ _ _ h2⟩
  · have h2 := h.2 c1
    refine ix_go 3 (x' := (if a0 ≤ (122 : Int32) then 12 else 16, [some (.inl (a0))], [], 0, 0, ix_mem 276 I J T)) rfl trivial ?_
    refine ix_br (fun c3 => ?_) (fun c3 => ?_)
    · have h4 := h2.1 c3
      refine ix_go 2 (x' := (17, [some (.inl (a0))], [.inl ((1 : Int32))], 0, 0, ix_mem 276 I J T)) rfl trivial ?_
      exact ix_sp rfl ⟨Nat.le_refl _, Nat.le_refl _, ix_01_ok rfl, hQ _ _ _ _ h4⟩
    · have h4 := h2.2 c3
      refine ix_go 1 (x' := (17, [some (.inl (a0))], [.inl ((0 : Int32))], 0, 0, ix_mem 276 I J T)) rfl trivial ?_
      exact ix_sp rfl ⟨Nat.le_refl _, Nat.le_refl _, ix_01_ok rfl, hQ _ _ _ _ h4⟩
def wp_X12_isDigit (a0 : Int32) (I : Nat → Nat → Int32) (J : Nat → Nat → Int64) (T : Option Nat) (P : Int32 → (Nat → Nat → Int32) → (Nat → Nat → Int64) → Option Nat → Prop) : Prop := ((a0 < (48 : Int32) → P ((0 : Int32)) I J T) ∧ (¬ (a0 < (48 : Int32)) → ((a0 ≤ (57 : Int32) → P ((1 : Int32)) I J T) ∧ (¬ (a0 ≤ (57 : Int32)) → P ((0 : Int32)) I J T))))
set_option maxRecDepth 20000 in
theorem tp_X12_isDigit {d : Nat} {a0 : Int32} {I : Nat → Nat → Int32} {J : Nat → Nat → Int64} {T : Option Nat} {P : Int32 → (Nat → Nat → Int32) → (Nat → Nat → Int64) → Option Nat → Prop} {Q : ix_Q} (h : wp_X12_isDigit a0 I J T P) (hQ : ∀ v I J T, P v I J T → Q (some (.inl v)) (ix_mem 276 I J T)) : ix_C (d + 1) 255 [.inl (a0)] (ix_mem 276 I J T) Q := by
  unfold wp_X12_isDigit at h
  refine ix_enter (ls := [some (.inl (a0))]) rfl rfl rfl (Nat.le_of_ble_eq_true rfl) ?_
  refine ix_go 3 (x' := (if a0 < (48 : Int32) then 16 else 6, [some (.inl (a0))], [], 0, 0, ix_mem 276 I J T)) rfl trivial ?_
  refine ix_br (fun c1 => ?_) (fun c1 => ?_)
  · have h2 := h.1 c1
    refine ix_go 1 (x' := (17, [some (.inl (a0))], [.inl ((0 : Int32))], 0, 0, ix_mem 276 I J T)) rfl trivial ?_
    exact ix_sp rfl ⟨Nat.le_refl _, Nat.le_refl _, ix_01_ok rfl, hQ _ _ _ _ h2⟩
  · have h2 := h.2 c1
    refine ix_go 3 (x' := (if a0 ≤ (57 : Int32) then 12 else 16, [some (.inl (a0))], [], 0, 0, ix_mem 276 I J T)) rfl trivial ?_
    refine ix_br (fun c3 => ?_) (fun c3 => ?_)
    · have h4 := h2.1 c3
      refine ix_go 2 (x' := (17, [some (.inl (a0))], [.inl ((1 : Int32))], 0, 0, ix_mem 276 I J T)) rfl trivial ?_
      exact ix_sp rfl ⟨Nat.le_refl _, Nat.le_refl _, ix_01_ok rfl, hQ _ _ _ _ h4⟩
    · have h4 := h2.2 c3
      refine ix_go 1 (x' := (17, [some (.inl (a0))], [.inl ((0 : Int32))], 0, 0, ix_mem 276 I J T)) rfl trivial ?_
      exact ix_sp rfl ⟨Nat.le_refl _, Nat.le_refl _, ix_01_ok rfl, hQ _ _ _ _ h4⟩
def wb_X12_next_129_0 (I : Nat → Nat → Int32) (J : Nat → Nat → Int64) (T : Option Nat) (V129 : (Nat → Nat → Int32) → (Nat → Nat → Int64) → Option Nat → Prop) (V0 : (Nat → Nat → Int32) → (Nat → Nat → Int64) → Option Nat → Prop) (P : (Nat → Nat → Int32) → (Nat → Nat → Int64) → Option Nat → Prop) : Prop := wp_X12_at (I 204 19) I J T (fun v40 I40 J40 T40 => wp_X12_isDigit (v40) I40 J40 T40 (fun v41 I41 J41 T41 => ((v41 = 0 → (((I41 204 19) - (I41 204 18) ≤ (7 : Int32) → P (ix_u2 I41 204 17 ((3 : Int32))) J41 T41) ∧ (¬ ((I41 204 19) - (I41 204 18) ≤ (7 : Int32)) → P (ix_u2 I41 204 17 ((1 : Int32))) J41 T41))) ∧ (¬ (v41 = 0) → wp_X12_at (I41 204 19) I41 J41 T41 (fun v46 I46 J46 T46 => wp_J9_min_f86c9 ((100000000 : Int64)) (((((10 : Int64)) * (J41 204 23)) + ((v46).toInt64)) - ((48 : Int64))) I46 J46 T46 (fun v47 I47 J47 T47 => V129 (ix_u2 I47 204 19 ((I47 204 19) + ((1 : Int32)))) (ix_u2 J47 204 23 (v47)) T47))))))
def wl_X12_next_129_0 (I : Nat → Nat → Int32) (J : Nat → Nat → Int64) (T : Option Nat) (V0 : (Nat → Nat → Int32) → (Nat → Nat → Int64) → Option Nat → Prop) (P : (Nat → Nat → Int32) → (Nat → Nat → Int64) → Option Nat → Prop) : Prop := ∀ V : (Nat → Nat → Int32) → (Nat → Nat → Int64) → Option Nat → Prop, (∀ (I : Nat → Nat → Int32) (J : Nat → Nat → Int64) (T : Option Nat), wb_X12_next_129_0 I J T V V0 P → V I J T) → V I J T
set_option maxRecDepth 20000 in
theorem tl_X12_next_129_0 {d : Nat} {I : Nat → Nat → Int32} {J : Nat → Nat → Int64} {T : Option Nat} {V0 : (Nat → Nat → Int32) → (Nat → Nat → Int64) → Option Nat → Prop} {P : (Nat → Nat → Int32) → (Nat → Nat → Int64) → Option Nat → Prop} {Q : ix_Q} (h : wl_X12_next_129_0 I J T V0 P) (hV0 : ∀ I J T, V0 I J T → ix_W (ix_C (d + 1)) (12, ix_lk ix_l256, none, 0, 0, Nat.blt 0 0, none) Q (0, [some (.inr (.inr (.inl (some (204))))), none, none], [], 0, 0, ix_mem 276 I J T)) (hQ : ∀ I J T, P I J T → Q none (ix_mem 276 I J T)) : ix_W (ix_C (d + 1)) (12, ix_lk ix_l256, none, 0, 0, Nat.blt 0 0, none) Q (129, [some (.inr (.inr (.inl (some (204))))), none, none], [], 0, 0, ix_mem 276 I J T) := by
  refine h (fun I J T => ix_W (ix_C (d + 1)) (12, ix_lk ix_l256, none, 0, 0, Nat.blt 0 0, none) Q (129, [some (.inr (.inr (.inl (some (204))))), none, none], [], 0, 0, ix_mem 276 I J T)) ?_
  intro I J T hb
  unfold wb_X12_next_129_0 at hb
  refine ix_go 3 (x' := (134, [some (.inr (.inr (.inl (some (204))))), none, none], [.inl (I 204 19), .inr (.inr (.inl (some (204))))], 0, 0, ix_mem 276 I J T)) rfl ⟨rfl, rfl⟩ ?_
  refine ix_sp rfl ⟨rfl, ⟨ix_lt rfl, ix_eq rfl, ix_lt rfl⟩, ix_le rfl, Nat.le_refl _, Nat.le_refl _, tp_X12_at hb (fun v40 I40 J40 T40 h40 => ?_)⟩
  change ix_W _ _ _ (137, [some (.inr (.inr (.inl (some (204))))), none, none], [.inl (v40)], 0, 0, ix_mem 276 I40 J40 T40)
  refine ix_sp rfl ⟨rfl, trivial, ix_le rfl, Nat.le_refl _, Nat.le_refl _, tp_X12_isDigit h40 (fun v41 I41 J41 T41 h41 => ?_)⟩
  change ix_W _ _ _ (140, [some (.inr (.inr (.inl (some (204))))), none, none], [.inl (v41)], 0, 0, ix_mem 276 I41 J41 T41)
  refine ix_go 1 (x' := (if v41 = 0 then 188 else 143, [some (.inr (.inr (.inl (some (204))))), none, none], [], 0, 0, ix_mem 276 I41 J41 T41)) rfl trivial ?_
  refine ix_br (fun c42 => ?_) (fun c42 => ?_)
  · have h43 := h41.1 c42
    refine ix_go 7 (x' := (200, [some (.inr (.inr (.inl (some (204))))), none, none], [.inl ((7 : Int32)), .inl ((I41 204 19) - (I41 204 18)), .inr (.inr (.inl (some (204))))], 0, 0, ix_mem 276 I41 J41 T41)) rfl ⟨rfl, rfl, rfl, rfl⟩ ?_
    refine ix_go 1 (x' := (if (I41 204 19) - (I41 204 18) ≤ (7 : Int32) then 207 else 203, [some (.inr (.inr (.inl (some (204))))), none, none], [.inr (.inr (.inl (some (204))))], 0, 0, ix_mem 276 I41 J41 T41)) rfl trivial ?_
    refine ix_br (fun c44 => ?_) (fun c44 => ?_)
    · have h45 := h43.1 c44
      refine ix_go 3 (x' := (315, [some (.inr (.inr (.inl (some (204))))), none, none], [], 0, 0, ix_mem 276 (ix_u2 I41 204 17 ((3 : Int32))) J41 T41)) rfl ⟨rfl, rfl⟩ ?_
      exact ix_sp rfl ⟨Nat.le_refl _, Nat.le_refl _, rfl, hQ _ _ _ h45⟩
    · have h45 := h43.2 c44
      refine ix_go 4 (x' := (315, [some (.inr (.inr (.inl (some (204))))), none, none], [], 0, 0, ix_mem 276 (ix_u2 I41 204 17 ((1 : Int32))) J41 T41)) rfl ⟨rfl, rfl⟩ ?_
      exact ix_sp rfl ⟨Nat.le_refl _, Nat.le_refl _, rfl, hQ _ _ _ h45⟩
  · have h43 := h41.2 c42
    refine ix_go 7 (x' := (156, [some (.inr (.inr (.inl (some (204))))), none, none], [.inr (.inr (.inl (some (204)))), .inr (.inl (((10 : Int64)) * (J41 204 23))), .inr (.inl ((100000000 : Int64))), .inr (.inr (.inl (some (204))))], 0, 0, ix_mem 276 I41 J41 T41)) rfl ⟨rfl, rfl⟩ ?_
    refine ix_go 2 (x' := (160, [some (.inr (.inr (.inl (some (204))))), none, none], [.inl (I41 204 19), .inr (.inr (.inl (some (204)))), .inr (.inl (((10 : Int64)) * (J41 204 23))), .inr (.inl ((100000000 : Int64))), .inr (.inr (.inl (some (204))))], 0, 0, ix_mem 276 I41 J41 T41)) rfl ⟨rfl, rfl⟩ ?_
    refine ix_sp rfl ⟨rfl, ⟨ix_lt rfl, ix_eq rfl, ix_lt rfl⟩, ix_le rfl, Nat.le_refl _, Nat.le_refl _, tp_X12_at h43 (fun v46 I46 J46 T46 h46 => ?_)⟩
    change ix_W _ _ _ (163, [some (.inr (.inr (.inl (some (204))))), none, none], [.inl (v46), .inr (.inl (((10 : Int64)) * (J41 204 23))), .inr (.inl ((100000000 : Int64))), .inr (.inr (.inl (some (204))))], 0, 0, ix_mem 276 I46 J46 T46)
    refine ix_go 4 (x' := (169, [some (.inr (.inr (.inl (some (204))))), none, none], [.inr (.inl (((((10 : Int64)) * (J41 204 23)) + ((v46).toInt64)) - ((48 : Int64)))), .inr (.inl ((100000000 : Int64))), .inr (.inr (.inl (some (204))))], 0, 0, ix_mem 276 I46 J46 T46)) rfl trivial ?_
    refine ix_sp rfl ⟨rfl, trivial, ix_le rfl, Nat.le_refl _, Nat.le_refl _, tp_J9_min_f86c9 h46 (fun v47 I47 J47 T47 h47 => ?_)⟩
    change ix_W _ _ _ (172, [some (.inr (.inr (.inl (some (204))))), none, none], [.inr (.inl (v47)), .inr (.inr (.inl (some (204))))], 0, 0, ix_mem 276 I47 J47 T47)
    refine ix_go 7 (x' := (185, [some (.inr (.inr (.inl (some (204))))), none, none], [], 0, 0, ix_mem 276 (ix_u2 I47 204 19 ((I47 204 19) + ((1 : Int32)))) (ix_u2 J47 204 23 (v47)) T47)) rfl ⟨rfl, rfl, rfl, rfl, rfl, rfl⟩ ?_
    refine ix_go 1 (x' := (129, [some (.inr (.inr (.inl (some (204))))), none, none], [], 0, 0, ix_mem 276 (ix_u2 I47 204 19 ((I47 204 19) + ((1 : Int32)))) (ix_u2 J47 204 23 (v47)) T47)) rfl trivial ?_
    refine ix_subW ([some (.inr (.inr (.inl (some (204))))), none, none]) (ix_subS (ix_subS (ix_subS (ix_sub0)))) ?_
    exact h47
def wb_X12_next_82_0 (I : Nat → Nat → Int32) (J : Nat → Nat → Int64) (T : Option Nat) (V82 : (Nat → Nat → Int32) → (Nat → Nat → Int64) → Option Nat → Prop) (V0 : (Nat → Nat → Int32) → (Nat → Nat → Int64) → Option Nat → Prop) (P : (Nat → Nat → Int32) → (Nat → Nat → Int64) → Option Nat → Prop) : Prop := wp_X12_at (I 204 19) I J T (fun v48 I48 J48 T48 => wp_X12_isSmall (v48) I48 J48 T48 (fun v49 I49 J49 T49 => ((v49 = 0 → P (ix_u2 I49 204 17 ((2 : Int32))) J49 T49) ∧ (¬ (v49 = 0) → V82 (ix_u2 I49 204 19 ((I49 204 19) + ((1 : Int32)))) J49 T49))))
def wl_X12_next_82_0 (I : Nat → Nat → Int32) (J : Nat → Nat → Int64) (T : Option Nat) (V0 : (Nat → Nat → Int32) → (Nat → Nat → Int64) → Option Nat → Prop) (P : (Nat → Nat → Int32) → (Nat → Nat → Int64) → Option Nat → Prop) : Prop := ∀ V : (Nat → Nat → Int32) → (Nat → Nat → Int64) → Option Nat → Prop, (∀ (I : Nat → Nat → Int32) (J : Nat → Nat → Int64) (T : Option Nat), wb_X12_next_82_0 I J T V V0 P → V I J T) → V I J T
set_option maxRecDepth 20000 in
theorem tl_X12_next_82_0 {d : Nat} {I : Nat → Nat → Int32} {J : Nat → Nat → Int64} {T : Option Nat} {V0 : (Nat → Nat → Int32) → (Nat → Nat → Int64) → Option Nat → Prop} {P : (Nat → Nat → Int32) → (Nat → Nat → Int64) → Option Nat → Prop} {Q : ix_Q} (h : wl_X12_next_82_0 I J T V0 P) (hV0 : ∀ I J T, V0 I J T → ix_W (ix_C (d + 1)) (12, ix_lk ix_l256, none, 0, 0, Nat.blt 0 0, none) Q (0, [some (.inr (.inr (.inl (some (204))))), none, none], [], 0, 0, ix_mem 276 I J T)) (hQ : ∀ I J T, P I J T → Q none (ix_mem 276 I J T)) : ix_W (ix_C (d + 1)) (12, ix_lk ix_l256, none, 0, 0, Nat.blt 0 0, none) Q (82, [some (.inr (.inr (.inl (some (204))))), none, none], [], 0, 0, ix_mem 276 I J T) := by
  refine h (fun I J T => ix_W (ix_C (d + 1)) (12, ix_lk ix_l256, none, 0, 0, Nat.blt 0 0, none) Q (82, [some (.inr (.inr (.inl (some (204))))), none, none], [], 0, 0, ix_mem 276 I J T)) ?_
  intro I J T hb
  unfold wb_X12_next_82_0 at hb
  refine ix_go 3 (x' := (87, [some (.inr (.inr (.inl (some (204))))), none, none], [.inl (I 204 19), .inr (.inr (.inl (some (204))))], 0, 0, ix_mem 276 I J T)) rfl ⟨rfl, rfl⟩ ?_
  refine ix_sp rfl ⟨rfl, ⟨ix_lt rfl, ix_eq rfl, ix_lt rfl⟩, ix_le rfl, Nat.le_refl _, Nat.le_refl _, tp_X12_at hb (fun v48 I48 J48 T48 h48 => ?_)⟩
  change ix_W _ _ _ (90, [some (.inr (.inr (.inl (some (204))))), none, none], [.inl (v48)], 0, 0, ix_mem 276 I48 J48 T48)
  refine ix_sp rfl ⟨rfl, trivial, ix_le rfl, Nat.le_refl _, Nat.le_refl _, tp_X12_isSmall h48 (fun v49 I49 J49 T49 h49 => ?_)⟩
  change ix_W _ _ _ (93, [some (.inr (.inr (.inl (some (204))))), none, none], [.inl (v49)], 0, 0, ix_mem 276 I49 J49 T49)
  refine ix_go 1 (x' := (if v49 = 0 then 109 else 96, [some (.inr (.inr (.inl (some (204))))), none, none], [], 0, 0, ix_mem 276 I49 J49 T49)) rfl trivial ?_
  refine ix_br (fun c50 => ?_) (fun c50 => ?_)
  · have h51 := h49.1 c50
    refine ix_go 4 (x' := (315, [some (.inr (.inr (.inl (some (204))))), none, none], [], 0, 0, ix_mem 276 (ix_u2 I49 204 17 ((2 : Int32))) J49 T49)) rfl ⟨rfl, rfl⟩ ?_
    exact ix_sp rfl ⟨Nat.le_refl _, Nat.le_refl _, rfl, hQ _ _ _ h51⟩
  · have h51 := h49.2 c50
    refine ix_go 7 (x' := (82, [some (.inr (.inr (.inl (some (204))))), none, none], [], 0, 0, ix_mem 276 (ix_u2 I49 204 19 ((I49 204 19) + ((1 : Int32)))) J49 T49)) rfl ⟨rfl, rfl, rfl, rfl⟩ ?_
    refine ix_subW ([some (.inr (.inr (.inl (some (204))))), none, none]) (ix_subS (ix_subS (ix_subS (ix_sub0)))) ?_
    exact h51
def wb_X12_next_0 (I : Nat → Nat → Int32) (J : Nat → Nat → Int64) (T : Option Nat) (V0 : (Nat → Nat → Int32) → (Nat → Nat → Int64) → Option Nat → Prop) (P : (Nat → Nat → Int32) → (Nat → Nat → Int64) → Option Nat → Prop) : Prop := wp_X12_at (I 204 19) I J T (fun v1 I1 J1 T1 => ((v1 = (32 : Int32) → V0 (ix_u2 I1 204 19 ((I1 204 19) + ((1 : Int32)))) J1 T1) ∧ (¬ (v1 = (32 : Int32)) → wp_X12_at (I1 204 19) I1 J1 T1 (fun v4 I4 J4 T4 => ((v4 = (10 : Int32) → V0 (ix_u2 I4 204 19 ((I4 204 19) + ((1 : Int32)))) J4 T4) ∧ (¬ (v4 = (10 : Int32)) → wp_X12_at (I4 204 19) (ix_u2 I4 204 18 (I4 204 19)) J4 T4 (fun v7 I7 J7 T7 => ((v7 = (-1 : Int32) → P (ix_u2 I7 204 17 ((0 : Int32))) (ix_u2 J7 204 23 ((v7).toInt64)) T7) ∧ (¬ (v7 = (-1 : Int32)) → wp_X12_isSmall (v7) I7 (ix_u2 J7 204 23 ((v7).toInt64)) T7 (fun v10 I10 J10 T10 => ((v10 = 0 → wp_X12_isDigit (v7) I10 J10 T10 (fun v13 I13 J13 T13 => ((v13 = 0 → ((v7 = (58 : Int32) → P (ix_u2 (ix_u2 I13 204 19 ((I13 204 19) + ((1 : Int32)))) 204 17 ((4 : Int32))) J13 T13) ∧ (¬ (v7 = (58 : Int32)) → ((v7 = (59 : Int32) → P (ix_u2 (ix_u2 I13 204 19 ((I13 204 19) + ((1 : Int32)))) 204 17 ((4 : Int32))) J13 T13) ∧ (¬ (v7 = (59 : Int32)) → ((v7 = (44 : Int32) → P (ix_u2 (ix_u2 I13 204 19 ((I13 204 19) + ((1 : Int32)))) 204 17 ((4 : Int32))) J13 T13) ∧ (¬ (v7 = (44 : Int32)) → ((v7 = (60 : Int32) → P (ix_u2 (ix_u2 I13 204 19 ((I13 204 19) + ((1 : Int32)))) 204 17 ((4 : Int32))) J13 T13) ∧ (¬ (v7 = (60 : Int32)) → ((v7 = (62 : Int32) → P (ix_u2 (ix_u2 I13 204 19 ((I13 204 19) + ((1 : Int32)))) 204 17 ((4 : Int32))) J13 T13) ∧ (¬ (v7 = (62 : Int32)) → ((v7 = (61 : Int32) → P (ix_u2 (ix_u2 I13 204 19 ((I13 204 19) + ((1 : Int32)))) 204 17 ((4 : Int32))) J13 T13) ∧ (¬ (v7 = (61 : Int32)) → ((v7 = (43 : Int32) → P (ix_u2 (ix_u2 I13 204 19 ((I13 204 19) + ((1 : Int32)))) 204 17 ((4 : Int32))) J13 T13) ∧ (¬ (v7 = (43 : Int32)) → ((v7 = (45 : Int32) → P (ix_u2 (ix_u2 I13 204 19 ((I13 204 19) + ((1 : Int32)))) 204 17 ((4 : Int32))) J13 T13) ∧ (¬ (v7 = (45 : Int32)) → ((v7 = (42 : Int32) → P (ix_u2 (ix_u2 I13 204 19 ((I13 204 19) + ((1 : Int32)))) 204 17 ((4 : Int32))) J13 T13) ∧ (¬ (v7 = (42 : Int32)) → ((v7 = (47 : Int32) → P (ix_u2 (ix_u2 I13 204 19 ((I13 204 19) + ((1 : Int32)))) 204 17 ((4 : Int32))) J13 T13) ∧ (¬ (v7 = (47 : Int32)) → ((v7 = (40 : Int32) → P (ix_u2 (ix_u2 I13 204 19 ((I13 204 19) + ((1 : Int32)))) 204 17 ((4 : Int32))) J13 T13) ∧ (¬ (v7 = (40 : Int32)) → ((v7 = (41 : Int32) → P (ix_u2 (ix_u2 I13 204 19 ((I13 204 19) + ((1 : Int32)))) 204 17 ((4 : Int32))) J13 T13) ∧ (¬ (v7 = (41 : Int32)) → P (ix_u2 (ix_u2 I13 204 19 ((I13 204 19) + ((1 : Int32)))) 204 17 ((1 : Int32))) J13 T13))))))))))))))))))))))))) ∧ (¬ (v13 = 0) → wl_X12_next_129_0 I13 (ix_u2 J13 204 23 ((0 : Int64))) T13 V0 P)))) ∧ (¬ (v10 = 0) → wl_X12_next_82_0 I10 J10 T10 V0 P))))))))))))
def wl_X12_next_0 (I : Nat → Nat → Int32) (J : Nat → Nat → Int64) (T : Option Nat) (P : (Nat → Nat → Int32) → (Nat → Nat → Int64) → Option Nat → Prop) : Prop := ∀ V : (Nat → Nat → Int32) → (Nat → Nat → Int64) → Option Nat → Prop, (∀ (I : Nat → Nat → Int32) (J : Nat → Nat → Int64) (T : Option Nat), wb_X12_next_0 I J T V P → V I J T) → V I J T
set_option maxRecDepth 20000 in
theorem tl_X12_next_0 {d : Nat} {I : Nat → Nat → Int32} {J : Nat → Nat → Int64} {T : Option Nat} {P : (Nat → Nat → Int32) → (Nat → Nat → Int64) → Option Nat → Prop} {Q : ix_Q} (h : wl_X12_next_0 I J T P) (hQ : ∀ I J T, P I J T → Q none (ix_mem 276 I J T)) : ix_W (ix_C (d + 1)) (12, ix_lk ix_l256, none, 0, 0, Nat.blt 0 0, none) Q (0, [some (.inr (.inr (.inl (some (204))))), none, none], [], 0, 0, ix_mem 276 I J T) := by
  refine h (fun I J T => ix_W (ix_C (d + 1)) (12, ix_lk ix_l256, none, 0, 0, Nat.blt 0 0, none) Q (0, [some (.inr (.inr (.inl (some (204))))), none, none], [], 0, 0, ix_mem 276 I J T)) ?_
  intro I J T hb
  unfold wb_X12_next_0 at hb
  refine ix_go 3 (x' := (5, [some (.inr (.inr (.inl (some (204))))), none, none], [.inl (I 204 19), .inr (.inr (.inl (some (204))))], 0, 0, ix_mem 276 I J T)) rfl ⟨rfl, rfl⟩ ?_
  refine ix_sp rfl ⟨rfl, ⟨ix_lt rfl, ix_eq rfl, ix_lt rfl⟩, ix_le rfl, Nat.le_refl _, Nat.le_refl _, tp_X12_at hb (fun v1 I1 J1 T1 h1 => ?_)⟩
  change ix_W _ _ _ (8, [some (.inr (.inr (.inl (some (204))))), none, none], [.inl (v1)], 0, 0, ix_mem 276 I1 J1 T1)
  refine ix_go 2 (x' := (if v1 = (32 : Int32) then 26 else 13, [some (.inr (.inr (.inl (some (204))))), none, none], [], 0, 0, ix_mem 276 I1 J1 T1)) rfl trivial ?_
  refine ix_br (fun c2 => ?_) (fun c2 => ?_)
  · have h3 := h1.1 c2
    refine ix_go 7 (x' := (0, [some (.inr (.inr (.inl (some (204))))), none, none], [], 0, 0, ix_mem 276 (ix_u2 I1 204 19 ((I1 204 19) + ((1 : Int32)))) J1 T1)) rfl ⟨rfl, rfl, rfl, rfl⟩ ?_
    refine ix_subW ([some (.inr (.inr (.inl (some (204))))), none, none]) (ix_subS (ix_subS (ix_subS (ix_sub0)))) ?_
    exact h3
  · have h3 := h1.2 c2
    refine ix_go 3 (x' := (18, [some (.inr (.inr (.inl (some (204))))), none, none], [.inl (I1 204 19), .inr (.inr (.inl (some (204))))], 0, 0, ix_mem 276 I1 J1 T1)) rfl ⟨rfl, rfl⟩ ?_
    refine ix_sp rfl ⟨rfl, ⟨ix_lt rfl, ix_eq rfl, ix_lt rfl⟩, ix_le rfl, Nat.le_refl _, Nat.le_refl _, tp_X12_at h3 (fun v4 I4 J4 T4 h4 => ?_)⟩
    change ix_W _ _ _ (21, [some (.inr (.inr (.inl (some (204))))), none, none], [.inl (v4)], 0, 0, ix_mem 276 I4 J4 T4)
    refine ix_go 2 (x' := (if v4 = (10 : Int32) then 26 else 39, [some (.inr (.inr (.inl (some (204))))), none, none], [], 0, 0, ix_mem 276 I4 J4 T4)) rfl trivial ?_
    refine ix_br (fun c5 => ?_) (fun c5 => ?_)
    · have h6 := h4.1 c5
      refine ix_go 7 (x' := (0, [some (.inr (.inr (.inl (some (204))))), none, none], [], 0, 0, ix_mem 276 (ix_u2 I4 204 19 ((I4 204 19) + ((1 : Int32)))) J4 T4)) rfl ⟨rfl, rfl, rfl, rfl⟩ ?_
      refine ix_subW ([some (.inr (.inr (.inl (some (204))))), none, none]) (ix_subS (ix_subS (ix_subS (ix_sub0)))) ?_
      exact h6
    · have h6 := h4.2 c5
      refine ix_go 7 (x' := (52, [some (.inr (.inr (.inl (some (204))))), none, none], [.inl (I4 204 19), .inr (.inr (.inl (some (204))))], 0, 0, ix_mem 276 (ix_u2 I4 204 18 (I4 204 19)) J4 T4)) rfl ⟨rfl, rfl, rfl, rfl, rfl, rfl⟩ ?_
      refine ix_sp rfl ⟨rfl, ⟨ix_lt rfl, ix_eq rfl, ix_lt rfl⟩, ix_le rfl, Nat.le_refl _, Nat.le_refl _, tp_X12_at h6 (fun v7 I7 J7 T7 h7 => ?_)⟩
      change ix_W _ _ _ (55, [some (.inr (.inr (.inl (some (204))))), none, none], [.inl (v7)], 0, 0, ix_mem 276 I7 J7 T7)
      refine ix_go 7 (x' := (64, [some (.inr (.inr (.inl (some (204))))), some (.inl (v7)), none], [.inl ((-1 : Int32)), .inl (v7)], 0, 0, ix_mem 276 I7 (ix_u2 J7 204 23 ((v7).toInt64)) T7)) rfl ⟨rfl, rfl⟩ ?_
      refine ix_go 1 (x' := (if v7 = (-1 : Int32) then 67 else 75, [some (.inr (.inr (.inl (some (204))))), some (.inl (v7)), none], [], 0, 0, ix_mem 276 I7 (ix_u2 J7 204 23 ((v7).toInt64)) T7)) rfl trivial ?_
      refine ix_br (fun c8 => ?_) (fun c8 => ?_)
      · have h9 := h7.1 c8
        refine ix_go 4 (x' := (315, [some (.inr (.inr (.inl (some (204))))), some (.inl (v7)), none], [], 0, 0, ix_mem 276 (ix_u2 I7 204 17 ((0 : Int32))) (ix_u2 J7 204 23 ((v7).toInt64)) T7)) rfl ⟨rfl, rfl⟩ ?_
        exact ix_sp rfl ⟨Nat.le_refl _, Nat.le_refl _, rfl, hQ _ _ _ h9⟩
      · have h9 := h7.2 c8
        refine ix_go 1 (x' := (76, [some (.inr (.inr (.inl (some (204))))), some (.inl (v7)), none], [.inl (v7)], 0, 0, ix_mem 276 I7 (ix_u2 J7 204 23 ((v7).toInt64)) T7)) rfl trivial ?_
        refine ix_sp rfl ⟨rfl, trivial, ix_le rfl, Nat.le_refl _, Nat.le_refl _, tp_X12_isSmall h9 (fun v10 I10 J10 T10 h10 => ?_)⟩
        change ix_W _ _ _ (79, [some (.inr (.inr (.inl (some (204))))), some (.inl (v7)), none], [.inl (v10)], 0, 0, ix_mem 276 I10 J10 T10)
        refine ix_go 1 (x' := (if v10 = 0 then 117 else 82, [some (.inr (.inr (.inl (some (204))))), some (.inl (v7)), none], [], 0, 0, ix_mem 276 I10 J10 T10)) rfl trivial ?_
        refine ix_br (fun c11 => ?_) (fun c11 => ?_)
        · have h12 := h10.1 c11
          refine ix_go 1 (x' := (118, [some (.inr (.inr (.inl (some (204))))), some (.inl (v7)), none], [.inl (v7)], 0, 0, ix_mem 276 I10 J10 T10)) rfl trivial ?_
          refine ix_sp rfl ⟨rfl, trivial, ix_le rfl, Nat.le_refl _, Nat.le_refl _, tp_X12_isDigit h12 (fun v13 I13 J13 T13 h13 => ?_)⟩
          change ix_W _ _ _ (121, [some (.inr (.inr (.inl (some (204))))), some (.inl (v7)), none], [.inl (v13)], 0, 0, ix_mem 276 I13 J13 T13)
          refine ix_go 1 (x' := (if v13 = 0 then 214 else 124, [some (.inr (.inr (.inl (some (204))))), some (.inl (v7)), none], [], 0, 0, ix_mem 276 I13 J13 T13)) rfl trivial ?_
          refine ix_br (fun c14 => ?_) (fun c14 => ?_)
          · have h15 := h13.1 c14
            refine ix_go 7 (x' := (225, [some (.inr (.inr (.inl (some (204))))), some (.inl (v7)), none], [.inl (v7)], 0, 0, ix_mem 276 (ix_u2 I13 204 19 ((I13 204 19) + ((1 : Int32)))) J13 T13)) rfl ⟨rfl, rfl, rfl, rfl⟩ ?_
            refine ix_go 2 (x' := (if v7 = (58 : Int32) then 296 else 230, [some (.inr (.inr (.inl (some (204))))), some (.inl (v7)), none], [], 0, 0, ix_mem 276 (ix_u2 I13 204 19 ((I13 204 19) + ((1 : Int32)))) J13 T13)) rfl trivial ?_
            refine ix_br (fun c16 => ?_) (fun c16 => ?_)
            · have h17 := h15.1 c16
              refine ix_go 7 (x' := (308, [some (.inr (.inr (.inl (some (204))))), some (.inl (v7)), some (.inl ((1 : Int32)))], [.inl ((4 : Int32)), .inr (.inr (.inl (some (204))))], 0, 0, ix_mem 276 (ix_u2 I13 204 19 ((I13 204 19) + ((1 : Int32)))) J13 T13)) rfl trivial ?_
              refine ix_go 2 (x' := (315, [some (.inr (.inr (.inl (some (204))))), some (.inl (v7)), some (.inl ((1 : Int32)))], [], 0, 0, ix_mem 276 (ix_u2 (ix_u2 I13 204 19 ((I13 204 19) + ((1 : Int32)))) 204 17 ((4 : Int32))) J13 T13)) rfl ⟨rfl, rfl⟩ ?_
              exact ix_sp rfl ⟨Nat.le_refl _, Nat.le_refl _, rfl, hQ _ _ _ h17⟩
            · have h17 := h15.2 c16
              refine ix_go 3 (x' := (if v7 = (59 : Int32) then 296 else 236, [some (.inr (.inr (.inl (some (204))))), some (.inl (v7)), none], [], 0, 0, ix_mem 276 (ix_u2 I13 204 19 ((I13 204 19) + ((1 : Int32)))) J13 T13)) rfl trivial ?_
              refine ix_br (fun c18 => ?_) (fun c18 => ?_)
              · have h19 := h17.1 c18
                refine ix_go 7 (x' := (308, [some (.inr (.inr (.inl (some (204))))), some (.inl (v7)), some (.inl ((1 : Int32)))], [.inl ((4 : Int32)), .inr (.inr (.inl (some (204))))], 0, 0, ix_mem 276 (ix_u2 I13 204 19 ((I13 204 19) + ((1 : Int32)))) J13 T13)) rfl trivial ?_
                refine ix_go 2 (x' := (315, [some (.inr (.inr (.inl (some (204))))), some (.inl (v7)), some (.inl ((1 : Int32)))], [], 0, 0, ix_mem 276 (ix_u2 (ix_u2 I13 204 19 ((I13 204 19) + ((1 : Int32)))) 204 17 ((4 : Int32))) J13 T13)) rfl ⟨rfl, rfl⟩ ?_
                exact ix_sp rfl ⟨Nat.le_refl _, Nat.le_refl _, rfl, hQ _ _ _ h19⟩
              · have h19 := h17.2 c18
                refine ix_go 3 (x' := (if v7 = (44 : Int32) then 296 else 242, [some (.inr (.inr (.inl (some (204))))), some (.inl (v7)), none], [], 0, 0, ix_mem 276 (ix_u2 I13 204 19 ((I13 204 19) + ((1 : Int32)))) J13 T13)) rfl trivial ?_
                refine ix_br (fun c20 => ?_) (fun c20 => ?_)
                · have h21 := h19.1 c20
                  refine ix_go 7 (x' := (308, [some (.inr (.inr (.inl (some (204))))), some (.inl (v7)), some (.inl ((1 : Int32)))], [.inl ((4 : Int32)), .inr (.inr (.inl (some (204))))], 0, 0, ix_mem 276 (ix_u2 I13 204 19 ((I13 204 19) + ((1 : Int32)))) J13 T13)) rfl trivial ?_
                  refine ix_go 2 (x' := (315, [some (.inr (.inr (.inl (some (204))))), some (.inl (v7)), some (.inl ((1 : Int32)))], [], 0, 0, ix_mem 276 (ix_u2 (ix_u2 I13 204 19 ((I13 204 19) + ((1 : Int32)))) 204 17 ((4 : Int32))) J13 T13)) rfl ⟨rfl, rfl⟩ ?_
                  exact ix_sp rfl ⟨Nat.le_refl _, Nat.le_refl _, rfl, hQ _ _ _ h21⟩
                · have h21 := h19.2 c20
                  refine ix_go 3 (x' := (if v7 = (60 : Int32) then 296 else 248, [some (.inr (.inr (.inl (some (204))))), some (.inl (v7)), none], [], 0, 0, ix_mem 276 (ix_u2 I13 204 19 ((I13 204 19) + ((1 : Int32)))) J13 T13)) rfl trivial ?_
                  refine ix_br (fun c22 => ?_) (fun c22 => ?_)
                  · have h23 := h21.1 c22
                    refine ix_go 7 (x' := (308, [some (.inr (.inr (.inl (some (204))))), some (.inl (v7)), some (.inl ((1 : Int32)))], [.inl ((4 : Int32)), .inr (.inr (.inl (some (204))))], 0, 0, ix_mem 276 (ix_u2 I13 204 19 ((I13 204 19) + ((1 : Int32)))) J13 T13)) rfl trivial ?_
                    refine ix_go 2 (x' := (315, [some (.inr (.inr (.inl (some (204))))), some (.inl (v7)), some (.inl ((1 : Int32)))], [], 0, 0, ix_mem 276 (ix_u2 (ix_u2 I13 204 19 ((I13 204 19) + ((1 : Int32)))) 204 17 ((4 : Int32))) J13 T13)) rfl ⟨rfl, rfl⟩ ?_
                    exact ix_sp rfl ⟨Nat.le_refl _, Nat.le_refl _, rfl, hQ _ _ _ h23⟩
                  · have h23 := h21.2 c22
                    refine ix_go 3 (x' := (if v7 = (62 : Int32) then 296 else 254, [some (.inr (.inr (.inl (some (204))))), some (.inl (v7)), none], [], 0, 0, ix_mem 276 (ix_u2 I13 204 19 ((I13 204 19) + ((1 : Int32)))) J13 T13)) rfl trivial ?_
                    refine ix_br (fun c24 => ?_) (fun c24 => ?_)
                    · have h25 := h23.1 c24
                      refine ix_go 7 (x' := (308, [some (.inr (.inr (.inl (some (204))))), some (.inl (v7)), some (.inl ((1 : Int32)))], [.inl ((4 : Int32)), .inr (.inr (.inl (some (204))))], 0, 0, ix_mem 276 (ix_u2 I13 204 19 ((I13 204 19) + ((1 : Int32)))) J13 T13)) rfl trivial ?_
                      refine ix_go 2 (x' := (315, [some (.inr (.inr (.inl (some (204))))), some (.inl (v7)), some (.inl ((1 : Int32)))], [], 0, 0, ix_mem 276 (ix_u2 (ix_u2 I13 204 19 ((I13 204 19) + ((1 : Int32)))) 204 17 ((4 : Int32))) J13 T13)) rfl ⟨rfl, rfl⟩ ?_
                      exact ix_sp rfl ⟨Nat.le_refl _, Nat.le_refl _, rfl, hQ _ _ _ h25⟩
                    · have h25 := h23.2 c24
                      refine ix_go 3 (x' := (if v7 = (61 : Int32) then 296 else 260, [some (.inr (.inr (.inl (some (204))))), some (.inl (v7)), none], [], 0, 0, ix_mem 276 (ix_u2 I13 204 19 ((I13 204 19) + ((1 : Int32)))) J13 T13)) rfl trivial ?_
                      refine ix_br (fun c26 => ?_) (fun c26 => ?_)
                      · have h27 := h25.1 c26
                        refine ix_go 7 (x' := (308, [some (.inr (.inr (.inl (some (204))))), some (.inl (v7)), some (.inl ((1 : Int32)))], [.inl ((4 : Int32)), .inr (.inr (.inl (some (204))))], 0, 0, ix_mem 276 (ix_u2 I13 204 19 ((I13 204 19) + ((1 : Int32)))) J13 T13)) rfl trivial ?_
                        refine ix_go 2 (x' := (315, [some (.inr (.inr (.inl (some (204))))), some (.inl (v7)), some (.inl ((1 : Int32)))], [], 0, 0, ix_mem 276 (ix_u2 (ix_u2 I13 204 19 ((I13 204 19) + ((1 : Int32)))) 204 17 ((4 : Int32))) J13 T13)) rfl ⟨rfl, rfl⟩ ?_
                        exact ix_sp rfl ⟨Nat.le_refl _, Nat.le_refl _, rfl, hQ _ _ _ h27⟩
                      · have h27 := h25.2 c26
                        refine ix_go 3 (x' := (if v7 = (43 : Int32) then 296 else 266, [some (.inr (.inr (.inl (some (204))))), some (.inl (v7)), none], [], 0, 0, ix_mem 276 (ix_u2 I13 204 19 ((I13 204 19) + ((1 : Int32)))) J13 T13)) rfl trivial ?_
                        refine ix_br (fun c28 => ?_) (fun c28 => ?_)
                        · have h29 := h27.1 c28
                          refine ix_go 7 (x' := (308, [some (.inr (.inr (.inl (some (204))))), some (.inl (v7)), some (.inl ((1 : Int32)))], [.inl ((4 : Int32)), .inr (.inr (.inl (some (204))))], 0, 0, ix_mem 276 (ix_u2 I13 204 19 ((I13 204 19) + ((1 : Int32)))) J13 T13)) rfl trivial ?_
                          refine ix_go 2 (x' := (315, [some (.inr (.inr (.inl (some (204))))), some (.inl (v7)), some (.inl ((1 : Int32)))], [], 0, 0, ix_mem 276 (ix_u2 (ix_u2 I13 204 19 ((I13 204 19) + ((1 : Int32)))) 204 17 ((4 : Int32))) J13 T13)) rfl ⟨rfl, rfl⟩ ?_
                          exact ix_sp rfl ⟨Nat.le_refl _, Nat.le_refl _, rfl, hQ _ _ _ h29⟩
                        · have h29 := h27.2 c28
                          refine ix_go 3 (x' := (if v7 = (45 : Int32) then 296 else 272, [some (.inr (.inr (.inl (some (204))))), some (.inl (v7)), none], [], 0, 0, ix_mem 276 (ix_u2 I13 204 19 ((I13 204 19) + ((1 : Int32)))) J13 T13)) rfl trivial ?_
                          refine ix_br (fun c30 => ?_) (fun c30 => ?_)
                          · have h31 := h29.1 c30
                            refine ix_go 7 (x' := (308, [some (.inr (.inr (.inl (some (204))))), some (.inl (v7)), some (.inl ((1 : Int32)))], [.inl ((4 : Int32)), .inr (.inr (.inl (some (204))))], 0, 0, ix_mem 276 (ix_u2 I13 204 19 ((I13 204 19) + ((1 : Int32)))) J13 T13)) rfl trivial ?_
                            refine ix_go 2 (x' := (315, [some (.inr (.inr (.inl (some (204))))), some (.inl (v7)), some (.inl ((1 : Int32)))], [], 0, 0, ix_mem 276 (ix_u2 (ix_u2 I13 204 19 ((I13 204 19) + ((1 : Int32)))) 204 17 ((4 : Int32))) J13 T13)) rfl ⟨rfl, rfl⟩ ?_
                            exact ix_sp rfl ⟨Nat.le_refl _, Nat.le_refl _, rfl, hQ _ _ _ h31⟩
                          · have h31 := h29.2 c30
                            refine ix_go 3 (x' := (if v7 = (42 : Int32) then 296 else 278, [some (.inr (.inr (.inl (some (204))))), some (.inl (v7)), none], [], 0, 0, ix_mem 276 (ix_u2 I13 204 19 ((I13 204 19) + ((1 : Int32)))) J13 T13)) rfl trivial ?_
                            refine ix_br (fun c32 => ?_) (fun c32 => ?_)
                            · have h33 := h31.1 c32
                              refine ix_go 7 (x' := (308, [some (.inr (.inr (.inl (some (204))))), some (.inl (v7)), some (.inl ((1 : Int32)))], [.inl ((4 : Int32)), .inr (.inr (.inl (some (204))))], 0, 0, ix_mem 276 (ix_u2 I13 204 19 ((I13 204 19) + ((1 : Int32)))) J13 T13)) rfl trivial ?_
                              refine ix_go 2 (x' := (315, [some (.inr (.inr (.inl (some (204))))), some (.inl (v7)), some (.inl ((1 : Int32)))], [], 0, 0, ix_mem 276 (ix_u2 (ix_u2 I13 204 19 ((I13 204 19) + ((1 : Int32)))) 204 17 ((4 : Int32))) J13 T13)) rfl ⟨rfl, rfl⟩ ?_
                              exact ix_sp rfl ⟨Nat.le_refl _, Nat.le_refl _, rfl, hQ _ _ _ h33⟩
                            · have h33 := h31.2 c32
                              refine ix_go 3 (x' := (if v7 = (47 : Int32) then 296 else 284, [some (.inr (.inr (.inl (some (204))))), some (.inl (v7)), none], [], 0, 0, ix_mem 276 (ix_u2 I13 204 19 ((I13 204 19) + ((1 : Int32)))) J13 T13)) rfl trivial ?_
                              refine ix_br (fun c34 => ?_) (fun c34 => ?_)
                              · have h35 := h33.1 c34
                                refine ix_go 7 (x' := (308, [some (.inr (.inr (.inl (some (204))))), some (.inl (v7)), some (.inl ((1 : Int32)))], [.inl ((4 : Int32)), .inr (.inr (.inl (some (204))))], 0, 0, ix_mem 276 (ix_u2 I13 204 19 ((I13 204 19) + ((1 : Int32)))) J13 T13)) rfl trivial ?_
                                refine ix_go 2 (x' := (315, [some (.inr (.inr (.inl (some (204))))), some (.inl (v7)), some (.inl ((1 : Int32)))], [], 0, 0, ix_mem 276 (ix_u2 (ix_u2 I13 204 19 ((I13 204 19) + ((1 : Int32)))) 204 17 ((4 : Int32))) J13 T13)) rfl ⟨rfl, rfl⟩ ?_
                                exact ix_sp rfl ⟨Nat.le_refl _, Nat.le_refl _, rfl, hQ _ _ _ h35⟩
                              · have h35 := h33.2 c34
                                refine ix_go 3 (x' := (if v7 = (40 : Int32) then 296 else 290, [some (.inr (.inr (.inl (some (204))))), some (.inl (v7)), none], [], 0, 0, ix_mem 276 (ix_u2 I13 204 19 ((I13 204 19) + ((1 : Int32)))) J13 T13)) rfl trivial ?_
                                refine ix_br (fun c36 => ?_) (fun c36 => ?_)
                                · have h37 := h35.1 c36
                                  refine ix_go 7 (x' := (308, [some (.inr (.inr (.inl (some (204))))), some (.inl (v7)), some (.inl ((1 : Int32)))], [.inl ((4 : Int32)), .inr (.inr (.inl (some (204))))], 0, 0, ix_mem 276 (ix_u2 I13 204 19 ((I13 204 19) + ((1 : Int32)))) J13 T13)) rfl trivial ?_
                                  refine ix_go 2 (x' := (315, [some (.inr (.inr (.inl (some (204))))), some (.inl (v7)), some (.inl ((1 : Int32)))], [], 0, 0, ix_mem 276 (ix_u2 (ix_u2 I13 204 19 ((I13 204 19) + ((1 : Int32)))) 204 17 ((4 : Int32))) J13 T13)) rfl ⟨rfl, rfl⟩ ?_
                                  exact ix_sp rfl ⟨Nat.le_refl _, Nat.le_refl _, rfl, hQ _ _ _ h37⟩
                                · have h37 := h35.2 c36
                                  refine ix_go 3 (x' := (if v7 = (41 : Int32) then 296 else 300, [some (.inr (.inr (.inl (some (204))))), some (.inl (v7)), none], [], 0, 0, ix_mem 276 (ix_u2 I13 204 19 ((I13 204 19) + ((1 : Int32)))) J13 T13)) rfl trivial ?_
                                  refine ix_br (fun c38 => ?_) (fun c38 => ?_)
                                  · have h39 := h37.1 c38
                                    refine ix_go 7 (x' := (308, [some (.inr (.inr (.inl (some (204))))), some (.inl (v7)), some (.inl ((1 : Int32)))], [.inl ((4 : Int32)), .inr (.inr (.inl (some (204))))], 0, 0, ix_mem 276 (ix_u2 I13 204 19 ((I13 204 19) + ((1 : Int32)))) J13 T13)) rfl trivial ?_
                                    refine ix_go 2 (x' := (315, [some (.inr (.inr (.inl (some (204))))), some (.inl (v7)), some (.inl ((1 : Int32)))], [], 0, 0, ix_mem 276 (ix_u2 (ix_u2 I13 204 19 ((I13 204 19) + ((1 : Int32)))) 204 17 ((4 : Int32))) J13 T13)) rfl ⟨rfl, rfl⟩ ?_
                                    exact ix_sp rfl ⟨Nat.le_refl _, Nat.le_refl _, rfl, hQ _ _ _ h39⟩
                                  · have h39 := h37.2 c38
                                    refine ix_go 7 (x' := (315, [some (.inr (.inr (.inl (some (204))))), some (.inl (v7)), some (.inl ((0 : Int32)))], [], 0, 0, ix_mem 276 (ix_u2 (ix_u2 I13 204 19 ((I13 204 19) + ((1 : Int32)))) 204 17 ((1 : Int32))) J13 T13)) rfl ⟨rfl, rfl⟩ ?_
                                    exact ix_sp rfl ⟨Nat.le_refl _, Nat.le_refl _, rfl, hQ _ _ _ h39⟩
          · have h15 := h13.2 c14
            refine ix_go 3 (x' := (129, [some (.inr (.inr (.inl (some (204))))), some (.inl (v7)), none], [], 0, 0, ix_mem 276 I13 (ix_u2 J13 204 23 ((0 : Int64))) T13)) rfl ⟨rfl, rfl⟩ ?_
            refine ix_subW ([some (.inr (.inr (.inl (some (204))))), none, none]) (ix_subS (ix_subN (ix_subS (ix_sub0)))) ?_
            exact tl_X12_next_129_0 h15 (fun I J T hv => hv) hQ
        · have h12 := h10.2 c11
          refine ix_subW ([some (.inr (.inr (.inl (some (204))))), none, none]) (ix_subS (ix_subN (ix_subS (ix_sub0)))) ?_
          exact tl_X12_next_82_0 h12 (fun I J T hv => hv) hQ
def wp_X12_next (I : Nat → Nat → Int32) (J : Nat → Nat → Int64) (T : Option Nat) (P : (Nat → Nat → Int32) → (Nat → Nat → Int64) → Option Nat → Prop) : Prop := wl_X12_next_0 I J T P
set_option maxRecDepth 20000 in
theorem tp_X12_next {d : Nat} {I : Nat → Nat → Int32} {J : Nat → Nat → Int64} {T : Option Nat} {P : (Nat → Nat → Int32) → (Nat → Nat → Int64) → Option Nat → Prop} {Q : ix_Q} (h : wp_X12_next I J T P) (hQ : ∀ I J T, P I J T → Q none (ix_mem 276 I J T)) : ix_C (d + 2) 256 [.inr (.inr (.inl (some (204))))] (ix_mem 276 I J T) Q := by
  unfold wp_X12_next at h
  refine ix_enter (ls := [some (.inr (.inr (.inl (some (204))))), none, none]) rfl rfl rfl (Nat.le_of_ble_eq_true rfl) ?_
  refine ix_subW ([some (.inr (.inr (.inl (some (204))))), none, none]) (ix_subS (ix_subS (ix_subS (ix_sub0)))) ?_
  exact tl_X12_next_0 h hQ
