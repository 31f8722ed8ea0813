def wj_X12_clauseOf_j178_26 (x1 : Int32) (x2 : Int32) (x3 : Int32) (x4 : Int32) (x5 : Int32) (x6 : Int32) (I : Nat → Nat → Int32) (J : Nat → Nat → Int64) (T : Option Nat) (V26 : Int32 → Int32 → Int32 → Int32 → Int32 → Int32 → (Nat → Nat → Int32) → (Nat → Nat → Int64) → Option Nat → Prop) (P : Int32 → (Nat → Nat → Int32) → (Nat → Nat → Int64) → Option Nat → Prop) : Prop := V26 (x1) (x2) (x3) (x4) (x5) (x6 + (1 : Int32)) I J T
set_option maxRecDepth 20000 in
theorem tj_X12_clauseOf_j178_26 {d : Nat} {x1 : Int32} {x2 : Int32} {x3 : Int32} {x4 : Int32} {x5 : Int32} {x6 : Int32} {I : Nat → Nat → Int32} {J : Nat → Nat → Int64} {T : Option Nat} {V26 : Int32 → Int32 → Int32 → Int32 → Int32 → Int32 → (Nat → Nat → Int32) → (Nat → Nat → Int64) → Option Nat → Prop} {P : Int32 → (Nat → Nat → Int32) → (Nat → Nat → Int64) → Option Nat → Prop} {Q : ix_Q} (h : wj_X12_clauseOf_j178_26 x1 x2 x3 x4 x5 x6 I J T V26 P) (hV26 : ∀ (x1 : Int32) (x2 : Int32) (x3 : Int32) (x4 : Int32) (x5 : Int32) (x6 : Int32) I J T, V26 x1 x2 x3 x4 x5 x6 I J T → ix_W (ix_C d) (12, ix_lk ix_l282, (some .int), 0, 0, Nat.blt 0 0, none) Q (26, [some (.inr (.inr (.inl (some (204))))), some (.inl (x1)), some (.inl (x2)), some (.inl (x3)), some (.inl (x4)), some (.inl (x5)), some (.inl (x6))], [], 0, 0, ix_mem 276 I J T)) (hQ : ∀ v I J T, P v I J T → Q (some (.inl v)) (ix_mem 276 I J T)) : ix_W (ix_C d) (12, ix_lk ix_l282, (some .int), 0, 0, Nat.blt 0 0, none) Q (178, [some (.inr (.inr (.inl (some (204))))), some (.inl (x1)), some (.inl (x2)), some (.inl (x3)), some (.inl (x4)), some (.inl (x5)), some (.inl (x6))], [], 0, 0, ix_mem 276 I J T) := by
  unfold wj_X12_clauseOf_j178_26 at h
  refine ix_go 2 (x' := (26, [some (.inr (.inr (.inl (some (204))))), some (.inl (x1)), some (.inl (x2)), some (.inl (x3)), some (.inl (x4)), some (.inl (x5)), some (.inl (x6 + (1 : Int32)))], [], 0, 0, ix_mem 276 I J T)) rfl trivial ?_
  refine ix_subW ([some (.inr (.inr (.inl (some (204))))), some (.inl (x1)), some (.inl (x2)), some (.inl (x3)), some (.inl (x4)), some (.inl (x5)), some (.inl (x6 + (1 : Int32)))]) (ix_subS (ix_subS (ix_subS (ix_subS (ix_subS (ix_subS (ix_subS (ix_sub0)))))))) ?_
  exact hV26 _ _ _ _ _ _ _ _ _ h
def wj_X12_clauseOf_j154_26_k204 (x1 : Int32) (x2 : Int32) (x3 : Int32) (x4 : Int32) (x5 : Int32) (x6 : Int32) (s1 : Int32) (I : Nat → Nat → Int32) (J : Nat → Nat → Int64) (T : Option Nat) (V26 : Int32 → Int32 → Int32 → Int32 → Int32 → Int32 → (Nat → Nat → Int32) → (Nat → Nat → Int64) → Option Nat → Prop) (P : Int32 → (Nat → Nat → Int32) → (Nat → Nat → Int64) → Option Nat → Prop) : Prop := wp_X12_outOf (s1) (x6) (x3) I J T (fun v29 I29 J29 T29 => ((v29 = 0 → wp_X12_holds (x6) I29 J29 T29 (fun v32 I32 J32 T32 => ((v32 = 0 → wj_X12_clauseOf_j178_26 (x1) (x2) (x3) (x4) (x5) (x6) I32 J32 T32 V26 P) ∧ (¬ (v32 = 0) → P (x6) I32 J32 T32)))) ∧ (¬ (v29 = 0) → wj_X12_clauseOf_j178_26 (x1) (x2) (x3) (x4) (x5) (x6) I29 J29 T29 V26 P)))
set_option maxRecDepth 20000 in
theorem tj_X12_clauseOf_j154_26_k204 {d : Nat} {x1 : Int32} {x2 : Int32} {x3 : Int32} {x4 : Int32} {x5 : Int32} {x6 : Int32} {s1 : Int32} {I : Nat → Nat → Int32} {J : Nat → Nat → Int64} {T : Option Nat} {V26 : Int32 → Int32 → Int32 → Int32 → Int32 → Int32 → (Nat → Nat → Int32) → (Nat → Nat → Int64) → Option Nat → Prop} {P : Int32 → (Nat → Nat → Int32) → (Nat → Nat → Int64) → Option Nat → Prop} {Q : ix_Q} (h : wj_X12_clauseOf_j154_26_k204 x1 x2 x3 x4 x5 x6 s1 I J T V26 P) (hV26 : ∀ (x1 : Int32) (x2 : Int32) (x3 : Int32) (x4 : Int32) (x5 : Int32) (x6 : Int32) I J T, V26 x1 x2 x3 x4 x5 x6 I J T → ix_W (ix_C (d + 3)) (12, ix_lk ix_l282, (some .int), 0, 0, Nat.blt 0 0, none) Q (26, [some (.inr (.inr (.inl (some (204))))), some (.inl (x1)), some (.inl (x2)), some (.inl (x3)), some (.inl (x4)), some (.inl (x5)), some (.inl (x6))], [], 0, 0, ix_mem 276 I J T)) (hQ : ∀ v I J T, P v I J T → Q (some (.inl v)) (ix_mem 276 I J T)) : ix_W (ix_C (d + 3)) (12, ix_lk ix_l282, (some .int), 0, 0, Nat.blt 0 0, none) Q (154, [some (.inr (.inr (.inl (some (204))))), some (.inl (x1)), some (.inl (x2)), some (.inl (x3)), some (.inl (x4)), some (.inl (x5)), some (.inl (x6))], [.inl (s1), .inr (.inr (.inl (some (204))))], 0, 0, ix_mem 276 I J T) := by
  unfold wj_X12_clauseOf_j154_26_k204 at h
  refine ix_go 2 (x' := (157, [some (.inr (.inr (.inl (some (204))))), some (.inl (x1)), some (.inl (x2)), some (.inl (x3)), some (.inl (x4)), some (.inl (x5)), some (.inl (x6))], [.inl (x3), .inl (x6), .inl (s1), .inr (.inr (.inl (some (204))))], 0, 0, ix_mem 276 I J T)) rfl trivial ?_
  refine ix_sp rfl ⟨rfl, ⟨ix_lt rfl, ix_eq rfl, ix_lt rfl⟩, ix_le rfl, Nat.le_refl _, Nat.le_refl _, tp_X12_outOf h (fun v29 I29 J29 T29 h29 => ?_)⟩
  change ix_W _ _ _ (160, [some (.inr (.inr (.inl (some (204))))), some (.inl (x1)), some (.inl (x2)), some (.inl (x3)), some (.inl (x4)), some (.inl (x5)), some (.inl (x6))], [.inl (v29)], 0, 0, ix_mem 276 I29 J29 T29)
  refine ix_go 1 (x' := (if v29 = 0 then 163 else 178, [some (.inr (.inr (.inl (some (204))))), some (.inl (x1)), some (.inl (x2)), some (.inl (x3)), some (.inl (x4)), some (.inl (x5)), some (.inl (x6))], [], 0, 0, ix_mem 276 I29 J29 T29)) rfl trivial ?_
  refine ix_br (fun c30 => ?_) (fun c30 => ?_)
  · have h31 := h29.1 c30
    refine ix_go 2 (x' := (166, [some (.inr (.inr (.inl (some (204))))), some (.inl (x1)), some (.inl (x2)), some (.inl (x3)), some (.inl (x4)), some (.inl (x5)), some (.inl (x6))], [.inl (x6), .inr (.inr (.inl (some (204))))], 0, 0, ix_mem 276 I29 J29 T29)) rfl trivial ?_
    refine ix_sp rfl ⟨rfl, ⟨ix_lt rfl, ix_eq rfl, ix_lt rfl⟩, ix_le rfl, Nat.le_refl _, Nat.le_refl _, tp_X12_holds h31 (fun v32 I32 J32 T32 h32 => ?_)⟩
    change ix_W _ _ _ (169, [some (.inr (.inr (.inl (some (204))))), some (.inl (x1)), some (.inl (x2)), some (.inl (x3)), some (.inl (x4)), some (.inl (x5)), some (.inl (x6))], [.inl (v32)], 0, 0, ix_mem 276 I32 J32 T32)
    refine ix_go 1 (x' := (if v32 = 0 then 172 else 175, [some (.inr (.inr (.inl (some (204))))), some (.inl (x1)), some (.inl (x2)), some (.inl (x3)), some (.inl (x4)), some (.inl (x5)), some (.inl (x6))], [], 0, 0, ix_mem 276 I32 J32 T32)) rfl trivial ?_
    refine ix_br (fun c33 => ?_) (fun c33 => ?_)
    · have h34 := h32.1 c33
      refine ix_go 1 (x' := (178, [some (.inr (.inr (.inl (some (204))))), some (.inl (x1)), some (.inl (x2)), some (.inl (x3)), some (.inl (x4)), some (.inl (x5)), some (.inl (x6))], [], 0, 0, ix_mem 276 I32 J32 T32)) rfl trivial ?_
      refine ix_subW ([some (.inr (.inr (.inl (some (204))))), some (.inl (x1)), some (.inl (x2)), some (.inl (x3)), some (.inl (x4)), some (.inl (x5)), some (.inl (x6))]) (ix_subS (ix_subS (ix_subS (ix_subS (ix_subS (ix_subS (ix_subS (ix_sub0)))))))) ?_
      exact tj_X12_clauseOf_j178_26 h34 hV26 hQ
    · have h34 := h32.2 c33
      refine ix_go 1 (x' := (177, [some (.inr (.inr (.inl (some (204))))), some (.inl (x1)), some (.inl (x2)), some (.inl (x3)), some (.inl (x4)), some (.inl (x5)), some (.inl (x6))], [.inl (x6)], 0, 0, ix_mem 276 I32 J32 T32)) rfl trivial ?_
      exact ix_sp rfl ⟨Nat.le_refl _, Nat.le_refl _, trivial, hQ _ _ _ _ h34⟩
  · have h31 := h29.2 c30
    refine ix_subW ([some (.inr (.inr (.inl (some (204))))), some (.inl (x1)), some (.inl (x2)), some (.inl (x3)), some (.inl (x4)), some (.inl (x5)), some (.inl (x6))]) (ix_subS (ix_subS (ix_subS (ix_subS (ix_subS (ix_subS (ix_subS (ix_sub0)))))))) ?_
    exact tj_X12_clauseOf_j178_26 h31 hV26 hQ
def wj_X12_clauseOf_j130_26 (x1 : Int32) (x2 : Int32) (x3 : Int32) (x4 : Int32) (x5 : Int32) (x6 : Int32) (I : Nat → Nat → Int32) (J : Nat → Nat → Int64) (T : Option Nat) (V26 : Int32 → Int32 → Int32 → Int32 → Int32 → Int32 → (Nat → Nat → Int32) → (Nat → Nat → Int64) → Option Nat → Prop) (P : Int32 → (Nat → Nat → Int32) → (Nat → Nat → Int64) → Option Nat → Prop) : Prop := wp_X12_outOf (x1) (x6) (x3) I J T (fun v24 I24 J24 T24 => ((v24 = 0 → ((x4 = (-1 : Int32) → wj_X12_clauseOf_j154_26_k204 (x1) (x2) (x3) (x4) (x5) (x6) (x2) I24 J24 T24 V26 P) ∧ (¬ (x4 = (-1 : Int32)) → wj_X12_clauseOf_j154_26_k204 (x1) (x2) (x3) (x4) (x5) (x6) (x4) I24 J24 T24 V26 P))) ∧ (¬ (v24 = 0) → wj_X12_clauseOf_j178_26 (x1) (x2) (x3) (x4) (x5) (x6) I24 J24 T24 V26 P)))
set_option maxRecDepth 20000 in
theorem tj_X12_clauseOf_j130_26 {d : Nat} {x1 : Int32} {x2 : Int32} {x3 : Int32} {x4 : Int32} {x5 : Int32} {x6 : Int32} {I : Nat → Nat → Int32} {J : Nat → Nat → Int64} {T : Option Nat} {V26 : Int32 → Int32 → Int32 → Int32 → Int32 → Int32 → (Nat → Nat → Int32) → (Nat → Nat → Int64) → Option Nat → Prop} {P : Int32 → (Nat → Nat → Int32) → (Nat → Nat → Int64) → Option Nat → Prop} {Q : ix_Q} (h : wj_X12_clauseOf_j130_26 x1 x2 x3 x4 x5 x6 I J T V26 P) (hV26 : ∀ (x1 : Int32) (x2 : Int32) (x3 : Int32) (x4 : Int32) (x5 : Int32) (x6 : Int32) I J T, V26 x1 x2 x3 x4 x5 x6 I J T → ix_W (ix_C (d + 3)) (12, ix_lk ix_l282, (some .int), 0, 0, Nat.blt 0 0, none) Q (26, [some (.inr (.inr (.inl (some (204))))), some (.inl (x1)), some (.inl (x2)), some (.inl (x3)), some (.inl (x4)), some (.inl (x5)), some (.inl (x6))], [], 0, 0, ix_mem 276 I J T)) (hQ : ∀ v I J T, P v I J T → Q (some (.inl v)) (ix_mem 276 I J T)) : ix_W (ix_C (d + 3)) (12, ix_lk ix_l282, (some .int), 0, 0, Nat.blt 0 0, none) Q (130, [some (.inr (.inr (.inl (some (204))))), some (.inl (x1)), some (.inl (x2)), some (.inl (x3)), some (.inl (x4)), some (.inl (x5)), some (.inl (x6))], [], 0, 0, ix_mem 276 I J T) := by
  unfold wj_X12_clauseOf_j130_26 at h
  refine ix_go 4 (x' := (135, [some (.inr (.inr (.inl (some (204))))), some (.inl (x1)), some (.inl (x2)), some (.inl (x3)), some (.inl (x4)), some (.inl (x5)), some (.inl (x6))], [.inl (x3), .inl (x6), .inl (x1), .inr (.inr (.inl (some (204))))], 0, 0, ix_mem 276 I J T)) rfl trivial ?_
  refine ix_sp rfl ⟨rfl, ⟨ix_lt rfl, ix_eq rfl, ix_lt rfl⟩, ix_le rfl, Nat.le_refl _, Nat.le_refl _, tp_X12_outOf h (fun v24 I24 J24 T24 h24 => ?_)⟩
  change ix_W _ _ _ (138, [some (.inr (.inr (.inl (some (204))))), some (.inl (x1)), some (.inl (x2)), some (.inl (x3)), some (.inl (x4)), some (.inl (x5)), some (.inl (x6))], [.inl (v24)], 0, 0, ix_mem 276 I24 J24 T24)
  refine ix_go 1 (x' := (if v24 = 0 then 141 else 178, [some (.inr (.inr (.inl (some (204))))), some (.inl (x1)), some (.inl (x2)), some (.inl (x3)), some (.inl (x4)), some (.inl (x5)), some (.inl (x6))], [], 0, 0, ix_mem 276 I24 J24 T24)) rfl trivial ?_
  refine ix_br (fun c25 => ?_) (fun c25 => ?_)
  · have h26 := h24.1 c25
    refine ix_go 4 (x' := (if x4 = (-1 : Int32) then 148 else 152, [some (.inr (.inr (.inl (some (204))))), some (.inl (x1)), some (.inl (x2)), some (.inl (x3)), some (.inl (x4)), some (.inl (x5)), some (.inl (x6))], [.inr (.inr (.inl (some (204))))], 0, 0, ix_mem 276 I24 J24 T24)) rfl trivial ?_
    refine ix_br (fun c27 => ?_) (fun c27 => ?_)
    · have h28 := h26.1 c27
      refine ix_go 2 (x' := (154, [some (.inr (.inr (.inl (some (204))))), some (.inl (x1)), some (.inl (x2)), some (.inl (x3)), some (.inl (x4)), some (.inl (x5)), some (.inl (x6))], [.inl (x2), .inr (.inr (.inl (some (204))))], 0, 0, ix_mem 276 I24 J24 T24)) rfl trivial ?_
      refine ix_subW ([some (.inr (.inr (.inl (some (204))))), some (.inl (x1)), some (.inl (x2)), some (.inl (x3)), some (.inl (x4)), some (.inl (x5)), some (.inl (x6))]) (ix_subS (ix_subS (ix_subS (ix_subS (ix_subS (ix_subS (ix_subS (ix_sub0)))))))) ?_
      exact tj_X12_clauseOf_j154_26_k204 h28 hV26 hQ
    · have h28 := h26.2 c27
      refine ix_go 1 (x' := (154, [some (.inr (.inr (.inl (some (204))))), some (.inl (x1)), some (.inl (x2)), some (.inl (x3)), some (.inl (x4)), some (.inl (x5)), some (.inl (x6))], [.inl (x4), .inr (.inr (.inl (some (204))))], 0, 0, ix_mem 276 I24 J24 T24)) rfl trivial ?_
      refine ix_subW ([some (.inr (.inr (.inl (some (204))))), some (.inl (x1)), some (.inl (x2)), some (.inl (x3)), some (.inl (x4)), some (.inl (x5)), some (.inl (x6))]) (ix_subS (ix_subS (ix_subS (ix_subS (ix_subS (ix_subS (ix_subS (ix_sub0)))))))) ?_
      exact tj_X12_clauseOf_j154_26_k204 h28 hV26 hQ
  · have h26 := h24.2 c25
    refine ix_subW ([some (.inr (.inr (.inl (some (204))))), some (.inl (x1)), some (.inl (x2)), some (.inl (x3)), some (.inl (x4)), some (.inl (x5)), some (.inl (x6))]) (ix_subS (ix_subS (ix_subS (ix_subS (ix_subS (ix_subS (ix_subS (ix_sub0)))))))) ?_
    exact tj_X12_clauseOf_j178_26 h26 hV26 hQ
def wj_X12_clauseOf_j102_26 (x1 : Int32) (x2 : Int32) (x3 : Int32) (x4 : Int32) (x5 : Int32) (x6 : Int32) (I : Nat → Nat → Int32) (J : Nat → Nat → Int64) (T : Option Nat) (V26 : Int32 → Int32 → Int32 → Int32 → Int32 → Int32 → (Nat → Nat → Int32) → (Nat → Nat → Int64) → Option Nat → Prop) (P : Int32 → (Nat → Nat → Int32) → (Nat → Nat → Int64) → Option Nat → Prop) : Prop := ix_inb (x6) 60 = true ∧ ((I 219 (x6).toNatClampNeg = (-1 : Int32) → wj_X12_clauseOf_j130_26 (x1) (x2) (x3) (x4) (x5) (x6) I J T V26 P) ∧ (¬ (I 219 (x6).toNatClampNeg = (-1 : Int32)) → ix_inb (x6) 60 = true ∧ ((((I 219 (x6).toNatClampNeg) >>> ((x2) &&& 31)) &&& ((1 : Int32)) = 0 → wj_X12_clauseOf_j178_26 (x1) (x2) (x3) (x4) (x5) (x6) I J T V26 P) ∧ (¬ (((I 219 (x6).toNatClampNeg) >>> ((x2) &&& 31)) &&& ((1 : Int32)) = 0) → wj_X12_clauseOf_j130_26 (x1) (x2) (x3) (x4) (x5) (x6) I J T V26 P))))
set_option maxRecDepth 20000 in
theorem tj_X12_clauseOf_j102_26 {d : Nat} {x1 : Int32} {x2 : Int32} {x3 : Int32} {x4 : Int32} {x5 : Int32} {x6 : Int32} {I : Nat → Nat → Int32} {J : Nat → Nat → Int64} {T : Option Nat} {V26 : Int32 → Int32 → Int32 → Int32 → Int32 → Int32 → (Nat → Nat → Int32) → (Nat → Nat → Int64) → Option Nat → Prop} {P : Int32 → (Nat → Nat → Int32) → (Nat → Nat → Int64) → Option Nat → Prop} {Q : ix_Q} (h : wj_X12_clauseOf_j102_26 x1 x2 x3 x4 x5 x6 I J T V26 P) (hV26 : ∀ (x1 : Int32) (x2 : Int32) (x3 : Int32) (x4 : Int32) (x5 : Int32) (x6 : Int32) I J T, V26 x1 x2 x3 x4 x5 x6 I J T → ix_W (ix_C (d + 3)) (12, ix_lk ix_l282, (some .int), 0, 0, Nat.blt 0 0, none) Q (26, [some (.inr (.inr (.inl (some (204))))), some (.inl (x1)), some (.inl (x2)), some (.inl (x3)), some (.inl (x4)), some (.inl (x5)), some (.inl (x6))], [], 0, 0, ix_mem 276 I J T)) (hQ : ∀ v I J T, P v I J T → Q (some (.inl v)) (ix_mem 276 I J T)) : ix_W (ix_C (d + 3)) (12, ix_lk ix_l282, (some .int), 0, 0, Nat.blt 0 0, none) Q (102, [some (.inr (.inr (.inl (some (204))))), some (.inl (x1)), some (.inl (x2)), some (.inl (x3)), some (.inl (x4)), some (.inl (x5)), some (.inl (x6))], [], 0, 0, ix_mem 276 I J T) := by
  unfold wj_X12_clauseOf_j102_26 at h
  obtain ⟨p20, h21⟩ := h
  refine ix_go 6 (x' := (if I 219 (x6).toNatClampNeg = (-1 : Int32) then 130 else 113, [some (.inr (.inr (.inl (some (204))))), some (.inl (x1)), some (.inl (x2)), some (.inl (x3)), some (.inl (x4)), some (.inl (x5)), some (.inl (x6))], [], 0, 0, ix_mem 276 I J T)) rfl ⟨rfl, rfl, rfl, rfl, p20⟩ ?_
  refine ix_br (fun c22 => ?_) (fun c22 => ?_)
  · have h23 := h21.1 c22
    refine ix_subW ([some (.inr (.inr (.inl (some (204))))), some (.inl (x1)), some (.inl (x2)), some (.inl (x3)), some (.inl (x4)), some (.inl (x5)), some (.inl (x6))]) (ix_subS (ix_subS (ix_subS (ix_subS (ix_subS (ix_subS (ix_subS (ix_sub0)))))))) ?_
    exact tj_X12_clauseOf_j130_26 h23 hV26 hQ
  · have h23 := h21.2 c22
    obtain ⟨p35, h36⟩ := h23
    refine ix_go 7 (x' := (123, [some (.inr (.inr (.inl (some (204))))), some (.inl (x1)), some (.inl (x2)), some (.inl (x3)), some (.inl (x4)), some (.inl (x5)), some (.inl (x6))], [.inl ((1 : Int32)), .inl ((I 219 (x6).toNatClampNeg) >>> ((x2) &&& 31))], 0, 0, ix_mem 276 I J T)) rfl ⟨rfl, rfl, rfl, rfl, p35⟩ ?_
    refine ix_go 2 (x' := (if ((I 219 (x6).toNatClampNeg) >>> ((x2) &&& 31)) &&& ((1 : Int32)) = 0 then 127 else 130, [some (.inr (.inr (.inl (some (204))))), some (.inl (x1)), some (.inl (x2)), some (.inl (x3)), some (.inl (x4)), some (.inl (x5)), some (.inl (x6))], [], 0, 0, ix_mem 276 I J T)) rfl trivial ?_
    refine ix_br (fun c37 => ?_) (fun c37 => ?_)
    · have h38 := h36.1 c37
      refine ix_go 1 (x' := (178, [some (.inr (.inr (.inl (some (204))))), some (.inl (x1)), some (.inl (x2)), some (.inl (x3)), some (.inl (x4)), some (.inl (x5)), some (.inl (x6))], [], 0, 0, ix_mem 276 I J T)) rfl trivial ?_
      refine ix_subW ([some (.inr (.inr (.inl (some (204))))), some (.inl (x1)), some (.inl (x2)), some (.inl (x3)), some (.inl (x4)), some (.inl (x5)), some (.inl (x6))]) (ix_subS (ix_subS (ix_subS (ix_subS (ix_subS (ix_subS (ix_subS (ix_sub0)))))))) ?_
      exact tj_X12_clauseOf_j178_26 h38 hV26 hQ
    · have h38 := h36.2 c37
      refine ix_subW ([some (.inr (.inr (.inl (some (204))))), some (.inl (x1)), some (.inl (x2)), some (.inl (x3)), some (.inl (x4)), some (.inl (x5)), some (.inl (x6))]) (ix_subS (ix_subS (ix_subS (ix_subS (ix_subS (ix_subS (ix_subS (ix_sub0)))))))) ?_
      exact tj_X12_clauseOf_j130_26 h38 hV26 hQ
def wj_X12_clauseOf_j71_26 (x1 : Int32) (x2 : Int32) (x3 : Int32) (x4 : Int32) (x5 : Int32) (x6 : Int32) (s0 : Int32) (s1 : Int32) (I : Nat → Nat → Int32) (J : Nat → Nat → Int64) (T : Option Nat) (V26 : Int32 → Int32 → Int32 → Int32 → Int32 → Int32 → (Nat → Nat → Int32) → (Nat → Nat → Int64) → Option Nat → Prop) (P : Int32 → (Nat → Nat → Int32) → (Nat → Nat → Int64) → Option Nat → Prop) : Prop := ((s0 = s1 → ix_inb (x6) 60 = true ∧ ((I 218 (x6).toNatClampNeg = (-1 : Int32) → wj_X12_clauseOf_j102_26 (x1) (x2) (x3) (x4) (x5) (x6) I J T V26 P) ∧ (¬ (I 218 (x6).toNatClampNeg = (-1 : Int32)) → ix_inb (x6) 60 = true ∧ ((((I 218 (x6).toNatClampNeg) >>> ((x1) &&& 31)) &&& ((1 : Int32)) = 0 → wj_X12_clauseOf_j178_26 (x1) (x2) (x3) (x4) (x5) (x6) I J T V26 P) ∧ (¬ (((I 218 (x6).toNatClampNeg) >>> ((x1) &&& 31)) &&& ((1 : Int32)) = 0) → wj_X12_clauseOf_j102_26 (x1) (x2) (x3) (x4) (x5) (x6) I J T V26 P))))) ∧ (¬ (s0 = s1) → wj_X12_clauseOf_j178_26 (x1) (x2) (x3) (x4) (x5) (x6) I J T V26 P))
set_option maxRecDepth 20000 in
theorem tj_X12_clauseOf_j71_26 {d : Nat} {x1 : Int32} {x2 : Int32} {x3 : Int32} {x4 : Int32} {x5 : Int32} {x6 : Int32} {s0 : Int32} {s1 : Int32} {I : Nat → Nat → Int32} {J : Nat → Nat → Int64} {T : Option Nat} {V26 : Int32 → Int32 → Int32 → Int32 → Int32 → Int32 → (Nat → Nat → Int32) → (Nat → Nat → Int64) → Option Nat → Prop} {P : Int32 → (Nat → Nat → Int32) → (Nat → Nat → Int64) → Option Nat → Prop} {Q : ix_Q} (h : wj_X12_clauseOf_j71_26 x1 x2 x3 x4 x5 x6 s0 s1 I J T V26 P) (hV26 : ∀ (x1 : Int32) (x2 : Int32) (x3 : Int32) (x4 : Int32) (x5 : Int32) (x6 : Int32) I J T, V26 x1 x2 x3 x4 x5 x6 I J T → ix_W (ix_C (d + 3)) (12, ix_lk ix_l282, (some .int), 0, 0, Nat.blt 0 0, none) Q (26, [some (.inr (.inr (.inl (some (204))))), some (.inl (x1)), some (.inl (x2)), some (.inl (x3)), some (.inl (x4)), some (.inl (x5)), some (.inl (x6))], [], 0, 0, ix_mem 276 I J T)) (hQ : ∀ v I J T, P v I J T → Q (some (.inl v)) (ix_mem 276 I J T)) : ix_W (ix_C (d + 3)) (12, ix_lk ix_l282, (some .int), 0, 0, Nat.blt 0 0, none) Q (71, [some (.inr (.inr (.inl (some (204))))), some (.inl (x1)), some (.inl (x2)), some (.inl (x3)), some (.inl (x4)), some (.inl (x5)), some (.inl (x6))], [.inl (s1), .inl (s0)], 0, 0, ix_mem 276 I J T) := by
  unfold wj_X12_clauseOf_j71_26 at h
  refine ix_go 1 (x' := (if s0 = s1 then 77 else 74, [some (.inr (.inr (.inl (some (204))))), some (.inl (x1)), some (.inl (x2)), some (.inl (x3)), some (.inl (x4)), some (.inl (x5)), some (.inl (x6))], [], 0, 0, ix_mem 276 I J T)) rfl trivial ?_
  refine ix_br (fun c14 => ?_) (fun c14 => ?_)
  · have h15 := h.1 c14
    obtain ⟨p16, h17⟩ := h15
    refine ix_go 6 (x' := (if I 218 (x6).toNatClampNeg = (-1 : Int32) then 102 else 88, [some (.inr (.inr (.inl (some (204))))), some (.inl (x1)), some (.inl (x2)), some (.inl (x3)), some (.inl (x4)), some (.inl (x5)), some (.inl (x6))], [], 0, 0, ix_mem 276 I J T)) rfl ⟨rfl, rfl, rfl, rfl, p16⟩ ?_
    refine ix_br (fun c18 => ?_) (fun c18 => ?_)
    · have h19 := h17.1 c18
      refine ix_subW ([some (.inr (.inr (.inl (some (204))))), some (.inl (x1)), some (.inl (x2)), some (.inl (x3)), some (.inl (x4)), some (.inl (x5)), some (.inl (x6))]) (ix_subS (ix_subS (ix_subS (ix_subS (ix_subS (ix_subS (ix_subS (ix_sub0)))))))) ?_
      exact tj_X12_clauseOf_j102_26 h19 hV26 hQ
    · have h19 := h17.2 c18
      obtain ⟨p39, h40⟩ := h19
      refine ix_go 7 (x' := (98, [some (.inr (.inr (.inl (some (204))))), some (.inl (x1)), some (.inl (x2)), some (.inl (x3)), some (.inl (x4)), some (.inl (x5)), some (.inl (x6))], [.inl ((1 : Int32)), .inl ((I 218 (x6).toNatClampNeg) >>> ((x1) &&& 31))], 0, 0, ix_mem 276 I J T)) rfl ⟨rfl, rfl, rfl, rfl, p39⟩ ?_
      refine ix_go 2 (x' := (if ((I 218 (x6).toNatClampNeg) >>> ((x1) &&& 31)) &&& ((1 : Int32)) = 0 then 178 else 102, [some (.inr (.inr (.inl (some (204))))), some (.inl (x1)), some (.inl (x2)), some (.inl (x3)), some (.inl (x4)), some (.inl (x5)), some (.inl (x6))], [], 0, 0, ix_mem 276 I J T)) rfl trivial ?_
      refine ix_br (fun c41 => ?_) (fun c41 => ?_)
      · have h42 := h40.1 c41
        refine ix_subW ([some (.inr (.inr (.inl (some (204))))), some (.inl (x1)), some (.inl (x2)), some (.inl (x3)), some (.inl (x4)), some (.inl (x5)), some (.inl (x6))]) (ix_subS (ix_subS (ix_subS (ix_subS (ix_subS (ix_subS (ix_subS (ix_sub0)))))))) ?_
        exact tj_X12_clauseOf_j178_26 h42 hV26 hQ
      · have h42 := h40.2 c41
        refine ix_subW ([some (.inr (.inr (.inl (some (204))))), some (.inl (x1)), some (.inl (x2)), some (.inl (x3)), some (.inl (x4)), some (.inl (x5)), some (.inl (x6))]) (ix_subS (ix_subS (ix_subS (ix_subS (ix_subS (ix_subS (ix_subS (ix_sub0)))))))) ?_
        exact tj_X12_clauseOf_j102_26 h42 hV26 hQ
  · have h15 := h.2 c14
    refine ix_go 1 (x' := (178, [some (.inr (.inr (.inl (some (204))))), some (.inl (x1)), some (.inl (x2)), some (.inl (x3)), some (.inl (x4)), some (.inl (x5)), some (.inl (x6))], [], 0, 0, ix_mem 276 I J T)) rfl trivial ?_
    refine ix_subW ([some (.inr (.inr (.inl (some (204))))), some (.inl (x1)), some (.inl (x2)), some (.inl (x3)), some (.inl (x4)), some (.inl (x5)), some (.inl (x6))]) (ix_subS (ix_subS (ix_subS (ix_subS (ix_subS (ix_subS (ix_subS (ix_sub0)))))))) ?_
    exact tj_X12_clauseOf_j178_26 h15 hV26 hQ
def wj_X12_clauseOf_j60_26 (x1 : Int32) (x2 : Int32) (x3 : Int32) (x4 : Int32) (x5 : Int32) (x6 : Int32) (s0 : Int32) (I : Nat → Nat → Int32) (J : Nat → Nat → Int64) (T : Option Nat) (V26 : Int32 → Int32 → Int32 → Int32 → Int32 → Int32 → (Nat → Nat → Int32) → (Nat → Nat → Int64) → Option Nat → Prop) (P : Int32 → (Nat → Nat → Int32) → (Nat → Nat → Int64) → Option Nat → Prop) : Prop := ((x4 = (-1 : Int32) → wj_X12_clauseOf_j71_26 (x1) (x2) (x3) (x4) (x5) (x6) (s0) ((0 : Int32)) I J T V26 P) ∧ (¬ (x4 = (-1 : Int32)) → wj_X12_clauseOf_j71_26 (x1) (x2) (x3) (x4) (x5) (x6) (s0) ((1 : Int32)) I J T V26 P))
set_option maxRecDepth 20000 in
theorem tj_X12_clauseOf_j60_26 {d : Nat} {x1 : Int32} {x2 : Int32} {x3 : Int32} {x4 : Int32} {x5 : Int32} {x6 : Int32} {s0 : Int32} {I : Nat → Nat → Int32} {J : Nat → Nat → Int64} {T : Option Nat} {V26 : Int32 → Int32 → Int32 → Int32 → Int32 → Int32 → (Nat → Nat → Int32) → (Nat → Nat → Int64) → Option Nat → Prop} {P : Int32 → (Nat → Nat → Int32) → (Nat → Nat → Int64) → Option Nat → Prop} {Q : ix_Q} (h : wj_X12_clauseOf_j60_26 x1 x2 x3 x4 x5 x6 s0 I J T V26 P) (hV26 : ∀ (x1 : Int32) (x2 : Int32) (x3 : Int32) (x4 : Int32) (x5 : Int32) (x6 : Int32) I J T, V26 x1 x2 x3 x4 x5 x6 I J T → ix_W (ix_C (d + 3)) (12, ix_lk ix_l282, (some .int), 0, 0, Nat.blt 0 0, none) Q (26, [some (.inr (.inr (.inl (some (204))))), some (.inl (x1)), some (.inl (x2)), some (.inl (x3)), some (.inl (x4)), some (.inl (x5)), some (.inl (x6))], [], 0, 0, ix_mem 276 I J T)) (hQ : ∀ v I J T, P v I J T → Q (some (.inl v)) (ix_mem 276 I J T)) : ix_W (ix_C (d + 3)) (12, ix_lk ix_l282, (some .int), 0, 0, Nat.blt 0 0, none) Q (60, [some (.inr (.inr (.inl (some (204))))), some (.inl (x1)), some (.inl (x2)), some (.inl (x3)), some (.inl (x4)), some (.inl (x5)), some (.inl (x6))], [.inl (s0)], 0, 0, ix_mem 276 I J T) := by
  unfold wj_X12_clauseOf_j60_26 at h
  refine ix_go 3 (x' := (if x4 = (-1 : Int32) then 70 else 66, [some (.inr (.inr (.inl (some (204))))), some (.inl (x1)), some (.inl (x2)), some (.inl (x3)), some (.inl (x4)), some (.inl (x5)), some (.inl (x6))], [.inl (s0)], 0, 0, ix_mem 276 I J T)) rfl trivial ?_
  refine ix_br (fun c12 => ?_) (fun c12 => ?_)
  · have h13 := h.1 c12
    refine ix_go 1 (x' := (71, [some (.inr (.inr (.inl (some (204))))), some (.inl (x1)), some (.inl (x2)), some (.inl (x3)), some (.inl (x4)), some (.inl (x5)), some (.inl (x6))], [.inl ((0 : Int32)), .inl (s0)], 0, 0, ix_mem 276 I J T)) rfl trivial ?_
    refine ix_subW ([some (.inr (.inr (.inl (some (204))))), some (.inl (x1)), some (.inl (x2)), some (.inl (x3)), some (.inl (x4)), some (.inl (x5)), some (.inl (x6))]) (ix_subS (ix_subS (ix_subS (ix_subS (ix_subS (ix_subS (ix_subS (ix_sub0)))))))) ?_
    exact tj_X12_clauseOf_j71_26 h13 hV26 hQ
  · have h13 := h.2 c12
    refine ix_go 2 (x' := (71, [some (.inr (.inr (.inl (some (204))))), some (.inl (x1)), some (.inl (x2)), some (.inl (x3)), some (.inl (x4)), some (.inl (x5)), some (.inl (x6))], [.inl ((1 : Int32)), .inl (s0)], 0, 0, ix_mem 276 I J T)) rfl trivial ?_
    refine ix_subW ([some (.inr (.inr (.inl (some (204))))), some (.inl (x1)), some (.inl (x2)), some (.inl (x3)), some (.inl (x4)), some (.inl (x5)), some (.inl (x6))]) (ix_subS (ix_subS (ix_subS (ix_subS (ix_subS (ix_subS (ix_subS (ix_sub0)))))))) ?_
    exact tj_X12_clauseOf_j71_26 h13 hV26 hQ
def wb_X12_clauseOf_26 (x1 : Int32) (x2 : Int32) (x3 : Int32) (x4 : Int32) (x5 : Int32) (x6 : Int32) (I : Nat → Nat → Int32) (J : Nat → Nat → Int64) (T : Option Nat) (V26 : Int32 → Int32 → Int32 → Int32 → Int32 → Int32 → (Nat → Nat → Int32) → (Nat → Nat → Int64) → Option Nat → Prop) (P : Int32 → (Nat → Nat → Int32) → (Nat → Nat → Int64) → Option Nat → Prop) : Prop := ix_inb (x5) 5 = true ∧ ((x6 < (((12 : Int32)) * (x5)) + (I 216 (x5).toNatClampNeg) → ix_inb (x6) 60 = true ∧ ((I 217 (x6).toNatClampNeg = (1 : Int32) → wj_X12_clauseOf_j60_26 (x1) (x2) (x3) (x4) (x5) (x6) ((1 : Int32)) I J T V26 P) ∧ (¬ (I 217 (x6).toNatClampNeg = (1 : Int32)) → wj_X12_clauseOf_j60_26 (x1) (x2) (x3) (x4) (x5) (x6) ((0 : Int32)) I J T V26 P))) ∧ (¬ (x6 < (((12 : Int32)) * (x5)) + (I 216 (x5).toNatClampNeg)) → P ((-1 : Int32)) I J T))
def wl_X12_clauseOf_26 (x1 : Int32) (x2 : Int32) (x3 : Int32) (x4 : Int32) (x5 : Int32) (x6 : Int32) (I : Nat → Nat → Int32) (J : Nat → Nat → Int64) (T : Option Nat) (P : Int32 → (Nat → Nat → Int32) → (Nat → Nat → Int64) → Option Nat → Prop) : Prop := ∀ V : Int32 → Int32 → Int32 → Int32 → Int32 → Int32 → (Nat → Nat → Int32) → (Nat → Nat → Int64) → Option Nat → Prop, (∀ (x1 : Int32) (x2 : Int32) (x3 : Int32) (x4 : Int32) (x5 : Int32) (x6 : Int32) (I : Nat → Nat → Int32) (J : Nat → Nat → Int64) (T : Option Nat), wb_X12_clauseOf_26 x1 x2 x3 x4 x5 x6 I J T V P → V x1 x2 x3 x4 x5 x6 I J T) → V x1 x2 x3 x4 x5 x6 I J T
set_option maxRecDepth 20000 in
theorem tl_X12_clauseOf_26 {d : Nat} {x1 : Int32} {x2 : Int32} {x3 : Int32} {x4 : Int32} {x5 : Int32} {x6 : Int32} {I : Nat → Nat → Int32} {J : Nat → Nat → Int64} {T : Option Nat} {P : Int32 → (Nat → Nat → Int32) → (Nat → Nat → Int64) → Option Nat → Prop} {Q : ix_Q} (h : wl_X12_clauseOf_26 x1 x2 x3 x4 x5 x6 I J T P) (hQ : ∀ v I J T, P v I J T → Q (some (.inl v)) (ix_mem 276 I J T)) : ix_W (ix_C (d + 3)) (12, ix_lk ix_l282, (some .int), 0, 0, Nat.blt 0 0, none) Q (26, [some (.inr (.inr (.inl (some (204))))), some (.inl (x1)), some (.inl (x2)), some (.inl (x3)), some (.inl (x4)), some (.inl (x5)), some (.inl (x6))], [], 0, 0, ix_mem 276 I J T) := by
  refine h (fun x1 x2 x3 x4 x5 x6 I J T => ix_W (ix_C (d + 3)) (12, ix_lk ix_l282, (some .int), 0, 0, Nat.blt 0 0, none) Q (26, [some (.inr (.inr (.inl (some (204))))), some (.inl (x1)), some (.inl (x2)), some (.inl (x3)), some (.inl (x4)), some (.inl (x5)), some (.inl (x6))], [], 0, 0, ix_mem 276 I J T)) ?_
  intro x1 x2 x3 x4 x5 x6 I J T hb
  unfold wb_X12_clauseOf_26 at hb
  refine ix_go 7 (x' := (39, [some (.inr (.inr (.inl (some (204))))), some (.inl (x1)), some (.inl (x2)), some (.inl (x3)), some (.inl (x4)), some (.inl (x5)), some (.inl (x6))], [.inl (x5), .inr (.inr (.inl (some (216)))), .inl (((12 : Int32)) * (x5)), .inl (x6)], 0, 0, ix_mem 276 I J T)) rfl ⟨rfl, rfl⟩ ?_
  obtain ⟨p4, h5⟩ := hb
  refine ix_go 3 (x' := (if x6 < (((12 : Int32)) * (x5)) + (I 216 (x5).toNatClampNeg) then 44 else 184, [some (.inr (.inr (.inl (some (204))))), some (.inl (x1)), some (.inl (x2)), some (.inl (x3)), some (.inl (x4)), some (.inl (x5)), some (.inl (x6))], [], 0, 0, ix_mem 276 I J T)) rfl ⟨rfl, rfl, p4⟩ ?_
  refine ix_br (fun c6 => ?_) (fun c6 => ?_)
  · have h7 := h5.1 c6
    obtain ⟨p8, h9⟩ := h7
    refine ix_go 6 (x' := (if I 217 (x6).toNatClampNeg = (1 : Int32) then 55 else 59, [some (.inr (.inr (.inl (some (204))))), some (.inl (x1)), some (.inl (x2)), some (.inl (x3)), some (.inl (x4)), some (.inl (x5)), some (.inl (x6))], [], 0, 0, ix_mem 276 I J T)) rfl ⟨rfl, rfl, rfl, rfl, p8⟩ ?_
    refine ix_br (fun c10 => ?_) (fun c10 => ?_)
    · have h11 := h9.1 c10
      refine ix_go 2 (x' := (60, [some (.inr (.inr (.inl (some (204))))), some (.inl (x1)), some (.inl (x2)), some (.inl (x3)), some (.inl (x4)), some (.inl (x5)), some (.inl (x6))], [.inl ((1 : Int32))], 0, 0, ix_mem 276 I J T)) rfl trivial ?_
      refine ix_subW ([some (.inr (.inr (.inl (some (204))))), some (.inl (x1)), some (.inl (x2)), some (.inl (x3)), some (.inl (x4)), some (.inl (x5)), some (.inl (x6))]) (ix_subS (ix_subS (ix_subS (ix_subS (ix_subS (ix_subS (ix_subS (ix_sub0)))))))) ?_
      exact tj_X12_clauseOf_j60_26 h11 (fun _ _ _ _ _ _ I J T hv => hv) hQ
    · have h11 := h9.2 c10
      refine ix_go 1 (x' := (60, [some (.inr (.inr (.inl (some (204))))), some (.inl (x1)), some (.inl (x2)), some (.inl (x3)), some (.inl (x4)), some (.inl (x5)), some (.inl (x6))], [.inl ((0 : Int32))], 0, 0, ix_mem 276 I J T)) rfl trivial ?_
      refine ix_subW ([some (.inr (.inr (.inl (some (204))))), some (.inl (x1)), some (.inl (x2)), some (.inl (x3)), some (.inl (x4)), some (.inl (x5)), some (.inl (x6))]) (ix_subS (ix_subS (ix_subS (ix_subS (ix_subS (ix_subS (ix_subS (ix_sub0)))))))) ?_
      exact tj_X12_clauseOf_j60_26 h11 (fun _ _ _ _ _ _ I J T hv => hv) hQ
  · have h7 := h5.2 c6
    refine ix_go 1 (x' := (185, [some (.inr (.inr (.inl (some (204))))), some (.inl (x1)), some (.inl (x2)), some (.inl (x3)), some (.inl (x4)), some (.inl (x5)), some (.inl (x6))], [.inl ((-1 : Int32))], 0, 0, ix_mem 276 I J T)) rfl trivial ?_
    exact ix_sp rfl ⟨Nat.le_refl _, Nat.le_refl _, trivial, hQ _ _ _ _ h7⟩
def wp_X12_clauseOf (a0 : Int32) (a1 : Int32) (a2 : Int32) (a3 : Int32) (I : Nat → Nat → Int32) (J : Nat → Nat → Int64) (T : Option Nat) (P : Int32 → (Nat → Nat → Int32) → (Nat → Nat → Int64) → Option Nat → Prop) : Prop := wp_X12_force ((a2) / ((365 : Int32))) I J T (fun v1 I1 J1 T1 => ((v1 = (-1 : Int32) → P ((-1 : Int32)) I1 J1 T1) ∧ (¬ (v1 = (-1 : Int32)) → wl_X12_clauseOf_26 (a0) (a1) (a2) (a3) (v1) (((12 : Int32)) * (v1)) I1 J1 T1 P)))
set_option maxRecDepth 20000 in
theorem tp_X12_clauseOf {d : Nat} {a0 : Int32} {a1 : Int32} {a2 : Int32} {a3 : Int32} {I : Nat → Nat → Int32} {J : Nat → Nat → Int64} {T : Option Nat} {P : Int32 → (Nat → Nat → Int32) → (Nat → Nat → Int64) → Option Nat → Prop} {Q : ix_Q} (h : wp_X12_clauseOf a0 a1 a2 a3 I J T P) (hQ : ∀ v I J T, P v I J T → Q (some (.inl v)) (ix_mem 276 I J T)) : ix_C (d + 4) 282 [.inr (.inr (.inl (some (204)))), .inl (a0), .inl (a1), .inl (a2), .inl (a3)] (ix_mem 276 I J T) Q := by
  unfold wp_X12_clauseOf at h
  refine ix_enter (ls := [some (.inr (.inr (.inl (some (204))))), some (.inl (a0)), some (.inl (a1)), some (.inl (a2)), some (.inl (a3)), none, none]) rfl rfl rfl (Nat.le_of_ble_eq_true rfl) ?_
  refine ix_go 4 (x' := (6, [some (.inr (.inr (.inl (some (204))))), some (.inl (a0)), some (.inl (a1)), some (.inl (a2)), some (.inl (a3)), none, none], [.inl ((a2) / ((365 : Int32))), .inr (.inr (.inl (some (204))))], 0, 0, ix_mem 276 I J T)) rfl rfl ?_
  refine ix_sp rfl ⟨rfl, ⟨ix_lt rfl, ix_eq rfl, ix_lt rfl⟩, ix_le rfl, Nat.le_refl _, Nat.le_refl _, tp_X12_force h (fun v1 I1 J1 T1 h1 => ?_)⟩
  change ix_W _ _ _ (9, [some (.inr (.inr (.inl (some (204))))), some (.inl (a0)), some (.inl (a1)), some (.inl (a2)), some (.inl (a3)), none, none], [.inl (v1)], 0, 0, ix_mem 276 I1 J1 T1)
  refine ix_go 4 (x' := (if v1 = (-1 : Int32) then 17 else 19, [some (.inr (.inr (.inl (some (204))))), some (.inl (a0)), some (.inl (a1)), some (.inl (a2)), some (.inl (a3)), some (.inl (v1)), none], [], 0, 0, ix_mem 276 I1 J1 T1)) rfl trivial ?_
  refine ix_br (fun c2 => ?_) (fun c2 => ?_)
  · have h3 := h1.1 c2
    refine ix_go 1 (x' := (18, [some (.inr (.inr (.inl (some (204))))), some (.inl (a0)), some (.inl (a1)), some (.inl (a2)), some (.inl (a3)), some (.inl (v1)), none], [.inl ((-1 : Int32))], 0, 0, ix_mem 276 I1 J1 T1)) rfl trivial ?_
    exact ix_sp rfl ⟨Nat.le_refl _, Nat.le_refl _, trivial, hQ _ _ _ _ h3⟩
  · have h3 := h1.2 c2
    refine ix_go 4 (x' := (26, [some (.inr (.inr (.inl (some (204))))), some (.inl (a0)), some (.inl (a1)), some (.inl (a2)), some (.inl (a3)), some (.inl (v1)), some (.inl (((12 : Int32)) * (v1)))], [], 0, 0, ix_mem 276 I1 J1 T1)) rfl trivial ?_
    refine ix_subW ([some (.inr (.inr (.inl (some (204))))), some (.inl (a0)), some (.inl (a1)), some (.inl (a2)), some (.inl (a3)), some (.inl (v1)), some (.inl (((12 : Int32)) * (v1)))]) (ix_subS (ix_subS (ix_subS (ix_subS (ix_subS (ix_subS (ix_subS (ix_sub0)))))))) ?_
    exact tl_X12_clauseOf_26 h3 hQ
def wp_X12_owed (a0 : Int32) (a1 : Int32) (a2 : Int32) (a3 : Int64) (a4 : Int64) (a5 : Int32) (a6 : Int32) (a7 : Int32) (I : Nat → Nat → Int32) (J : Nat → Nat → Int64) (T : Option Nat) (P : Int64 → (Nat → Nat → Int32) → (Nat → Nat → Int64) → Option Nat → Prop) : Prop := wp_X12_asks (a2) (a3) (a4) ((a5) / ((365 : Int32))) (a6) (a7) I J T (fun I1 J1 T1 => wp_X12_clauseOf (a0) (a1) (a5) (a7) I1 J1 T1 (fun v2 I2 J2 T2 => ((v2 = (-1 : Int32) → P ((0 : Int64)) I2 J2 T2) ∧ (¬ (v2 = (-1 : Int32)) → ix_inb (v2) 60 = true ∧ ix_inb (v2) 60 = true ∧ wp_X12_work (I2 222 (v2).toNatClampNeg) (I2 223 (v2).toNatClampNeg) I2 J2 T2 (fun v9 I9 J9 T9 => wp_J9_min_f86c9 ((1000000000000 : Int64)) (v9) I9 J9 T9 (fun v10 I10 J10 T10 => wp_J9_max_f86c9 ((0 : Int64)) (v10) I10 J10 T10 (fun v11 I11 J11 T11 => P (v11) I11 J11 T11)))))))
set_option maxRecDepth 20000 in
theorem tp_X12_owed {d : Nat} {a0 : Int32} {a1 : Int32} {a2 : Int32} {a3 : Int64} {a4 : Int64} {a5 : Int32} {a6 : Int32} {a7 : Int32} {I : Nat → Nat → Int32} {J : Nat → Nat → Int64} {T : Option Nat} {P : Int64 → (Nat → Nat → Int32) → (Nat → Nat → Int64) → Option Nat → Prop} {Q : ix_Q} (h : wp_X12_owed a0 a1 a2 a3 a4 a5 a6 a7 I J T P) (hQ : ∀ v I J T, P v I J T → Q (some (.inr (.inl v))) (ix_mem 276 I J T)) : ix_C (d + 5) 283 [.inr (.inr (.inl (some (204)))), .inl (a0), .inl (a1), .inl (a2), .inr (.inl (a3)), .inr (.inl (a4)), .inl (a5), .inl (a6), .inl (a7)] (ix_mem 276 I J T) Q := by
  unfold wp_X12_owed at h
  refine ix_enter (ls := [some (.inr (.inr (.inl (some (204))))), some (.inl (a0)), some (.inl (a1)), some (.inl (a2)), some (.inr (.inl (a3))), none, some (.inr (.inl (a4))), none, some (.inl (a5)), some (.inl (a6)), some (.inl (a7)), none]) rfl rfl rfl (Nat.le_of_ble_eq_true rfl) ?_
  refine ix_go 7 (x' := (12, [some (.inr (.inr (.inl (some (204))))), some (.inl (a0)), some (.inl (a1)), some (.inl (a2)), some (.inr (.inl (a3))), none, some (.inr (.inl (a4))), none, some (.inl (a5)), some (.inl (a6)), some (.inl (a7)), none], [.inl ((a5) / ((365 : Int32))), .inr (.inl (a4)), .inr (.inl (a3)), .inl (a2), .inr (.inr (.inl (some (204))))], 0, 0, ix_mem 276 I J T)) rfl rfl ?_
  refine ix_go 2 (x' := (16, [some (.inr (.inr (.inl (some (204))))), some (.inl (a0)), some (.inl (a1)), some (.inl (a2)), some (.inr (.inl (a3))), none, some (.inr (.inl (a4))), none, some (.inl (a5)), some (.inl (a6)), some (.inl (a7)), none], [.inl (a7), .inl (a6), .inl ((a5) / ((365 : Int32))), .inr (.inl (a4)), .inr (.inl (a3)), .inl (a2), .inr (.inr (.inl (some (204))))], 0, 0, ix_mem 276 I J T)) rfl trivial ?_
  refine ix_sp rfl ⟨rfl, ⟨ix_lt rfl, ix_eq rfl, ix_lt rfl⟩, ix_le rfl, Nat.le_refl _, Nat.le_refl _, tp_X12_asks h (fun I1 J1 T1 h1 => ?_)⟩
  change ix_W _ _ _ (19, [some (.inr (.inr (.inl (some (204))))), some (.inl (a0)), some (.inl (a1)), some (.inl (a2)), some (.inr (.inl (a3))), none, some (.inr (.inl (a4))), none, some (.inl (a5)), some (.inl (a6)), some (.inl (a7)), none], [], 0, 0, ix_mem 276 I1 J1 T1)
  refine ix_go 5 (x' := (26, [some (.inr (.inr (.inl (some (204))))), some (.inl (a0)), some (.inl (a1)), some (.inl (a2)), some (.inr (.inl (a3))), none, some (.inr (.inl (a4))), none, some (.inl (a5)), some (.inl (a6)), some (.inl (a7)), none], [.inl (a7), .inl (a5), .inl (a1), .inl (a0), .inr (.inr (.inl (some (204))))], 0, 0, ix_mem 276 I1 J1 T1)) rfl trivial ?_
  refine ix_sp rfl ⟨rfl, ⟨ix_lt rfl, ix_eq rfl, ix_lt rfl⟩, ix_le rfl, Nat.le_refl _, Nat.le_refl _, tp_X12_clauseOf h1 (fun v2 I2 J2 T2 h2 => ?_)⟩
  change ix_W _ _ _ (29, [some (.inr (.inr (.inl (some (204))))), some (.inl (a0)), some (.inl (a1)), some (.inl (a2)), some (.inr (.inl (a3))), none, some (.inr (.inl (a4))), none, some (.inl (a5)), some (.inl (a6)), some (.inl (a7)), none], [.inl (v2)], 0, 0, ix_mem 276 I2 J2 T2)
  refine ix_go 4 (x' := (if v2 = (-1 : Int32) then 37 else 39, [some (.inr (.inr (.inl (some (204))))), some (.inl (a0)), some (.inl (a1)), some (.inl (a2)), some (.inr (.inl (a3))), none, some (.inr (.inl (a4))), none, some (.inl (a5)), some (.inl (a6)), some (.inl (a7)), some (.inl (v2))], [], 0, 0, ix_mem 276 I2 J2 T2)) rfl trivial ?_
  refine ix_br (fun c3 => ?_) (fun c3 => ?_)
  · have h4 := h2.1 c3
    refine ix_go 1 (x' := (38, [some (.inr (.inr (.inl (some (204))))), some (.inl (a0)), some (.inl (a1)), some (.inl (a2)), some (.inr (.inl (a3))), none, some (.inr (.inl (a4))), none, some (.inl (a5)), some (.inl (a6)), some (.inl (a7)), some (.inl (v2))], [.inr (.inl ((0 : Int64)))], 0, 0, ix_mem 276 I2 J2 T2)) rfl trivial ?_
    exact ix_sp rfl ⟨Nat.le_refl _, Nat.le_refl _, rfl, hQ _ _ _ _ h4⟩
  · have h4 := h2.2 c3
    obtain ⟨p5, h6⟩ := h4
    refine ix_go 7 (x' := (51, [some (.inr (.inr (.inl (some (204))))), some (.inl (a0)), some (.inl (a1)), some (.inl (a2)), some (.inr (.inl (a3))), none, some (.inr (.inl (a4))), none, some (.inl (a5)), some (.inl (a6)), some (.inl (a7)), some (.inl (v2))], [.inl (I2 222 (v2).toNatClampNeg), .inr (.inr (.inl (some (204)))), .inr (.inl ((1000000000000 : Int64))), .inr (.inl ((0 : Int64)))], 0, 0, ix_mem 276 I2 J2 T2)) rfl ⟨rfl, rfl, rfl, rfl, p5⟩ ?_
    obtain ⟨p7, h8⟩ := h6
    refine ix_go 4 (x' := (58, [some (.inr (.inr (.inl (some (204))))), some (.inl (a0)), some (.inl (a1)), some (.inl (a2)), some (.inr (.inl (a3))), none, some (.inr (.inl (a4))), none, some (.inl (a5)), some (.inl (a6)), some (.inl (a7)), some (.inl (v2))], [.inl (I2 223 (v2).toNatClampNeg), .inl (I2 222 (v2).toNatClampNeg), .inr (.inr (.inl (some (204)))), .inr (.inl ((1000000000000 : Int64))), .inr (.inl ((0 : Int64)))], 0, 0, ix_mem 276 I2 J2 T2)) rfl ⟨rfl, rfl, rfl, rfl, p7⟩ ?_
    refine ix_sp rfl ⟨rfl, ⟨ix_lt rfl, ix_eq rfl, ix_lt rfl⟩, ix_le rfl, Nat.le_refl _, Nat.le_refl _, tp_X12_work h8 (fun v9 I9 J9 T9 h9 => ?_)⟩
    change ix_W _ _ _ (61, [some (.inr (.inr (.inl (some (204))))), some (.inl (a0)), some (.inl (a1)), some (.inl (a2)), some (.inr (.inl (a3))), none, some (.inr (.inl (a4))), none, some (.inl (a5)), some (.inl (a6)), some (.inl (a7)), some (.inl (v2))], [.inr (.inl (v9)), .inr (.inl ((1000000000000 : Int64))), .inr (.inl ((0 : Int64)))], 0, 0, ix_mem 276 I9 J9 T9)
    refine ix_sp rfl ⟨rfl, trivial, ix_le rfl, Nat.le_refl _, Nat.le_refl _, tp_J9_min_f86c9 h9 (fun v10 I10 J10 T10 h10 => ?_)⟩
    change ix_W _ _ _ (64, [some (.inr (.inr (.inl (some (204))))), some (.inl (a0)), some (.inl (a1)), some (.inl (a2)), some (.inr (.inl (a3))), none, some (.inr (.inl (a4))), none, some (.inl (a5)), some (.inl (a6)), some (.inl (a7)), some (.inl (v2))], [.inr (.inl (v10)), .inr (.inl ((0 : Int64)))], 0, 0, ix_mem 276 I10 J10 T10)
    refine ix_sp rfl ⟨rfl, trivial, ix_le rfl, Nat.le_refl _, Nat.le_refl _, tp_J9_max_f86c9 h10 (fun v11 I11 J11 T11 h11 => ?_)⟩
    change ix_W _ _ _ (67, [some (.inr (.inr (.inl (some (204))))), some (.inl (a0)), some (.inl (a1)), some (.inl (a2)), some (.inr (.inl (a3))), none, some (.inr (.inl (a4))), none, some (.inl (a5)), some (.inl (a6)), some (.inl (a7)), some (.inl (v2))], [.inr (.inl (v11))], 0, 0, ix_mem 276 I11 J11 T11)
    exact ix_sp rfl ⟨Nat.le_refl _, Nat.le_refl _, rfl, hQ _ _ _ _ h11⟩
def wp_X12_isMail (a0 : Int32) (a1 : Int32) (a2 : Int32) (a3 : Int32) (a4 : Int32) (a5 : Int32) (I : Nat → Nat → Int32) (J : Nat → Nat → Int64) (T : Option Nat) (P : Int32 → (Nat → Nat → Int32) → (Nat → Nat → Int64) → Option Nat → Prop) : Prop := wp_X12_areTwo (a0) (a1) I J T (fun v1 I1 J1 T1 => ((v1 = 0 → P ((0 : Int32)) I1 J1 T1) ∧ (¬ (v1 = 0) → ((a2 < 0 → P ((0 : Int32)) I1 J1 T1) ∧ (¬ (a2 < 0) → ((a2 ≤ (3 : Int32) → ((a3 < (1 : Int32) → P ((0 : Int32)) I1 J1 T1) ∧ (¬ (a3 < (1 : Int32)) → ((a3 ≤ (1000000000 : Int32) → ((a4 < (1 : Int32) → P ((0 : Int32)) I1 J1 T1) ∧ (¬ (a4 < (1 : Int32)) → ((a4 ≤ (1000000 : Int32) → wp_X12_isDay (a5) I1 J1 T1 (fun v16 I16 J16 T16 => ((v16 = 0 → P ((0 : Int32)) I16 J16 T16) ∧ (¬ (v16 = 0) → P ((1 : Int32)) I16 J16 T16)))) ∧ (¬ (a4 ≤ (1000000 : Int32)) → P ((0 : Int32)) I1 J1 T1))))) ∧ (¬ (a3 ≤ (1000000000 : Int32)) → P ((0 : Int32)) I1 J1 T1))))) ∧ (¬ (a2 ≤ (3 : Int32)) → P ((0 : Int32)) I1 J1 T1)))))))
set_option maxRecDepth 20000 in
theorem tp_X12_isMail {d : Nat} {a0 : Int32} {a1 : Int32} {a2 : Int32} {a3 : Int32} {a4 : Int32} {a5 : Int32} {I : Nat → Nat → Int32} {J : Nat → Nat → Int64} {T : Option Nat} {P : Int32 → (Nat → Nat → Int32) → (Nat → Nat → Int64) → Option Nat → Prop} {Q : ix_Q} (h : wp_X12_isMail a0 a1 a2 a3 a4 a5 I J T P) (hQ : ∀ v I J T, P v I J T → Q (some (.inl v)) (ix_mem 276 I J T)) : ix_C (d + 3) 284 [.inr (.inr (.inl (some (204)))), .inl (a0), .inl (a1), .inl (a2), .inl (a3), .inl (a4), .inl (a5)] (ix_mem 276 I J T) Q := by
  unfold wp_X12_isMail at h
  refine ix_enter (ls := [some (.inr (.inr (.inl (some (204))))), some (.inl (a0)), some (.inl (a1)), some (.inl (a2)), some (.inl (a3)), some (.inl (a4)), some (.inl (a5))]) rfl rfl rfl (Nat.le_of_ble_eq_true rfl) ?_
  refine ix_go 3 (x' := (3, [some (.inr (.inr (.inl (some (204))))), some (.inl (a0)), some (.inl (a1)), some (.inl (a2)), some (.inl (a3)), some (.inl (a4)), some (.inl (a5))], [.inl (a1), .inl (a0), .inr (.inr (.inl (some (204))))], 0, 0, ix_mem 276 I J T)) rfl trivial ?_
  refine ix_sp rfl ⟨rfl, ⟨ix_lt rfl, ix_eq rfl, ix_lt rfl⟩, ix_le rfl, Nat.le_refl _, Nat.le_refl _, tp_X12_areTwo h (fun v1 I1 J1 T1 h1 => ?_)⟩
  change ix_W _ _ _ (6, [some (.inr (.inr (.inl (some (204))))), some (.inl (a0)), some (.inl (a1)), some (.inl (a2)), some (.inl (a3)), some (.inl (a4)), some (.inl (a5))], [.inl (v1)], 0, 0, ix_mem 276 I1 J1 T1)
  refine ix_go 1 (x' := (if v1 = 0 then 58 else 9, [some (.inr (.inr (.inl (some (204))))), some (.inl (a0)), some (.inl (a1)), some (.inl (a2)), some (.inl (a3)), some (.inl (a4)), some (.inl (a5))], [], 0, 0, ix_mem 276 I1 J1 T1)) rfl trivial ?_
  refine ix_br (fun c2 => ?_) (fun c2 => ?_)
  · have h3 := h1.1 c2
    refine ix_go 1 (x' := (59, [some (.inr (.inr (.inl (some (204))))), some (.inl (a0)), some (.inl (a1)), some (.inl (a2)), some (.inl (a3)), some (.inl (a4)), some (.inl (a5))], [.inl ((0 : Int32))], 0, 0, ix_mem 276 I1 J1 T1)) rfl trivial ?_
    exact ix_sp rfl ⟨Nat.le_refl _, Nat.le_refl _, ix_01_ok rfl, hQ _ _ _ _ h3⟩
  · have h3 := h1.2 c2
    refine ix_go 2 (x' := (if a2 < 0 then 58 else 13, [some (.inr (.inr (.inl (some (204))))), some (.inl (a0)), some (.inl (a1)), some (.inl (a2)), some (.inl (a3)), some (.inl (a4)), some (.inl (a5))], [], 0, 0, ix_mem 276 I1 J1 T1)) rfl trivial ?_
    refine ix_br (fun c4 => ?_) (fun c4 => ?_)
    · have h5 := h3.1 c4
      refine ix_go 1 (x' := (59, [some (.inr (.inr (.inl (some (204))))), some (.inl (a0)), some (.inl (a1)), some (.inl (a2)), some (.inl (a3)), some (.inl (a4)), some (.inl (a5))], [.inl ((0 : Int32))], 0, 0, ix_mem 276 I1 J1 T1)) rfl trivial ?_
      exact ix_sp rfl ⟨Nat.le_refl _, Nat.le_refl _, ix_01_ok rfl, hQ _ _ _ _ h5⟩
    · have h5 := h3.2 c4
      refine ix_go 3 (x' := (if a2 ≤ (3 : Int32) then 18 else 58, [some (.inr (.inr (.inl (some (204))))), some (.inl (a0)), some (.inl (a1)), some (.inl (a2)), some (.inl (a3)), some (.inl (a4)), some (.inl (a5))], [], 0, 0, ix_mem 276 I1 J1 T1)) rfl trivial ?_
      refine ix_br (fun c6 => ?_) (fun c6 => ?_)
      · have h7 := h5.1 c6
        refine ix_go 3 (x' := (if a3 < (1 : Int32) then 58 else 24, [some (.inr (.inr (.inl (some (204))))), some (.inl (a0)), some (.inl (a1)), some (.inl (a2)), some (.inl (a3)), some (.inl (a4)), some (.inl (a5))], [], 0, 0, ix_mem 276 I1 J1 T1)) rfl trivial ?_
        refine ix_br (fun c8 => ?_) (fun c8 => ?_)
        · have h9 := h7.1 c8
          refine ix_go 1 (x' := (59, [some (.inr (.inr (.inl (some (204))))), some (.inl (a0)), some (.inl (a1)), some (.inl (a2)), some (.inl (a3)), some (.inl (a4)), some (.inl (a5))], [.inl ((0 : Int32))], 0, 0, ix_mem 276 I1 J1 T1)) rfl trivial ?_
          exact ix_sp rfl ⟨Nat.le_refl _, Nat.le_refl _, ix_01_ok rfl, hQ _ _ _ _ h9⟩
        · have h9 := h7.2 c8
          refine ix_go 3 (x' := (if a3 ≤ (1000000000 : Int32) then 32 else 58, [some (.inr (.inr (.inl (some (204))))), some (.inl (a0)), some (.inl (a1)), some (.inl (a2)), some (.inl (a3)), some (.inl (a4)), some (.inl (a5))], [], 0, 0, ix_mem 276 I1 J1 T1)) rfl trivial ?_
          refine ix_br (fun c10 => ?_) (fun c10 => ?_)
          · have h11 := h9.1 c10
            refine ix_go 3 (x' := (if a4 < (1 : Int32) then 58 else 38, [some (.inr (.inr (.inl (some (204))))), some (.inl (a0)), some (.inl (a1)), some (.inl (a2)), some (.inl (a3)), some (.inl (a4)), some (.inl (a5))], [], 0, 0, ix_mem 276 I1 J1 T1)) rfl trivial ?_
            refine ix_br (fun c12 => ?_) (fun c12 => ?_)
            · have h13 := h11.1 c12
              refine ix_go 1 (x' := (59, [some (.inr (.inr (.inl (some (204))))), some (.inl (a0)), some (.inl (a1)), some (.inl (a2)), some (.inl (a3)), some (.inl (a4)), some (.inl (a5))], [.inl ((0 : Int32))], 0, 0, ix_mem 276 I1 J1 T1)) rfl trivial ?_
              exact ix_sp rfl ⟨Nat.le_refl _, Nat.le_refl _, ix_01_ok rfl, hQ _ _ _ _ h13⟩
            · have h13 := h11.2 c12
              refine ix_go 3 (x' := (if a4 ≤ (1000000 : Int32) then 46 else 58, [some (.inr (.inr (.inl (some (204))))), some (.inl (a0)), some (.inl (a1)), some (.inl (a2)), some (.inl (a3)), some (.inl (a4)), some (.inl (a5))], [], 0, 0, ix_mem 276 I1 J1 T1)) rfl trivial ?_
              refine ix_br (fun c14 => ?_) (fun c14 => ?_)
              · have h15 := h13.1 c14
                refine ix_go 1 (x' := (48, [some (.inr (.inr (.inl (some (204))))), some (.inl (a0)), some (.inl (a1)), some (.inl (a2)), some (.inl (a3)), some (.inl (a4)), some (.inl (a5))], [.inl (a5)], 0, 0, ix_mem 276 I1 J1 T1)) rfl trivial ?_
                refine ix_sp rfl ⟨rfl, trivial, ix_le rfl, Nat.le_refl _, Nat.le_refl _, tp_X12_isDay h15 (fun v16 I16 J16 T16 h16 => ?_)⟩
                change ix_W _ _ _ (51, [some (.inr (.inr (.inl (some (204))))), some (.inl (a0)), some (.inl (a1)), some (.inl (a2)), some (.inl (a3)), some (.inl (a4)), some (.inl (a5))], [.inl (v16)], 0, 0, ix_mem 276 I16 J16 T16)
                refine ix_go 1 (x' := (if v16 = 0 then 58 else 54, [some (.inr (.inr (.inl (some (204))))), some (.inl (a0)), some (.inl (a1)), some (.inl (a2)), some (.inl (a3)), some (.inl (a4)), some (.inl (a5))], [], 0, 0, ix_mem 276 I16 J16 T16)) rfl trivial ?_
                refine ix_br (fun c17 => ?_) (fun c17 => ?_)
                · have h18 := h16.1 c17
                  refine ix_go 1 (x' := (59, [some (.inr (.inr (.inl (some (204))))), some (.inl (a0)), some (.inl (a1)), some (.inl (a2)), some (.inl (a3)), some (.inl (a4)), some (.inl (a5))], [.inl ((0 : Int32))], 0, 0, ix_mem 276 I16 J16 T16)) rfl trivial ?_
                  exact ix_sp rfl ⟨Nat.le_refl _, Nat.le_refl _, ix_01_ok rfl, hQ _ _ _ _ h18⟩
                · have h18 := h16.2 c17
                  refine ix_go 2 (x' := (59, [some (.inr (.inr (.inl (some (204))))), some (.inl (a0)), some (.inl (a1)), some (.inl (a2)), some (.inl (a3)), some (.inl (a4)), some (.inl (a5))], [.inl ((1 : Int32))], 0, 0, ix_mem 276 I16 J16 T16)) rfl trivial ?_
                  exact ix_sp rfl ⟨Nat.le_refl _, Nat.le_refl _, ix_01_ok rfl, hQ _ _ _ _ h18⟩
              · have h15 := h13.2 c14
                refine ix_go 1 (x' := (59, [some (.inr (.inr (.inl (some (204))))), some (.inl (a0)), some (.inl (a1)), some (.inl (a2)), some (.inl (a3)), some (.inl (a4)), some (.inl (a5))], [.inl ((0 : Int32))], 0, 0, ix_mem 276 I1 J1 T1)) rfl trivial ?_
                exact ix_sp rfl ⟨Nat.le_refl _, Nat.le_refl _, ix_01_ok rfl, hQ _ _ _ _ h15⟩
          · have h11 := h9.2 c10
            refine ix_go 1 (x' := (59, [some (.inr (.inr (.inl (some (204))))), some (.inl (a0)), some (.inl (a1)), some (.inl (a2)), some (.inl (a3)), some (.inl (a4)), some (.inl (a5))], [.inl ((0 : Int32))], 0, 0, ix_mem 276 I1 J1 T1)) rfl trivial ?_
            exact ix_sp rfl ⟨Nat.le_refl _, Nat.le_refl _, ix_01_ok rfl, hQ _ _ _ _ h11⟩
      · have h7 := h5.2 c6
        refine ix_go 1 (x' := (59, [some (.inr (.inr (.inl (some (204))))), some (.inl (a0)), some (.inl (a1)), some (.inl (a2)), some (.inl (a3)), some (.inl (a4)), some (.inl (a5))], [.inl ((0 : Int32))], 0, 0, ix_mem 276 I1 J1 T1)) rfl trivial ?_
        exact ix_sp rfl ⟨Nat.le_refl _, Nat.le_refl _, ix_01_ok rfl, hQ _ _ _ _ h7⟩
def wp_X12_due (a0 : Int32) (a1 : Int32) (a2 : Int32) (a3 : Int32) (a4 : Int32) (a5 : Int32) (a6 : Int32) (I : Nat → Nat → Int32) (J : Nat → Nat → Int64) (T : Option Nat) (P : Int64 → (Nat → Nat → Int32) → (Nat → Nat → Int64) → Option Nat → Prop) : Prop := wp_X12_isMail (a0) (a1) (a2) (a3) (a4) (a5) I J T (fun v1 I1 J1 T1 => ((v1 = 0 → wp_X12_refuse ((1 : Int32)) I1 J1 T1 (fun v4 I4 J4 T4 => P ((v4).toInt64) I4 J4 T4)) ∧ (¬ (v1 = 0) → ((a6 < 0 → wp_X12_refuse ((1 : Int32)) I1 J1 T1 (fun v7 I7 J7 T7 => P ((v7).toInt64) I7 J7 T7)) ∧ (¬ (a6 < 0) → ((a6 ≤ (3 : Int32) → wp_X12_owed (a0) (a1) (a2) ((a3).toInt64) ((a4).toInt64) (a5) (a6) ((-1 : Int32)) I1 J1 T1 (fun v10 I10 J10 T10 => wp_X12_givesLong (v10) I10 J10 T10 (fun v11 I11 J11 T11 => P (v11) I11 J11 T11))) ∧ (¬ (a6 ≤ (3 : Int32)) → wp_X12_refuse ((1 : Int32)) I1 J1 T1 (fun v12 I12 J12 T12 => P ((v12).toInt64) I12 J12 T12))))))))
set_option maxRecDepth 20000 in
theorem tp_X12_due {d : Nat} {a0 : Int32} {a1 : Int32} {a2 : Int32} {a3 : Int32} {a4 : Int32} {a5 : Int32} {a6 : Int32} {I : Nat → Nat → Int32} {J : Nat → Nat → Int64} {T : Option Nat} {P : Int64 → (Nat → Nat → Int32) → (Nat → Nat → Int64) → Option Nat → Prop} {Q : ix_Q} (h : wp_X12_due a0 a1 a2 a3 a4 a5 a6 I J T P) (hQ : ∀ v I J T, P v I J T → Q (some (.inr (.inl v))) (ix_mem 276 I J T)) : ix_C (d + 6) 285 [.inr (.inr (.inl (some (204)))), .inl (a0), .inl (a1), .inl (a2), .inl (a3), .inl (a4), .inl (a5), .inl (a6)] (ix_mem 276 I J T) Q := by
  unfold wp_X12_due at h
  refine ix_enter (ls := [some (.inr (.inr (.inl (some (204))))), some (.inl (a0)), some (.inl (a1)), some (.inl (a2)), some (.inl (a3)), some (.inl (a4)), some (.inl (a5)), some (.inl (a6))]) rfl rfl rfl (Nat.le_of_ble_eq_true rfl) ?_
  refine ix_go 7 (x' := (10, [some (.inr (.inr (.inl (some (204))))), some (.inl (a0)), some (.inl (a1)), some (.inl (a2)), some (.inl (a3)), some (.inl (a4)), some (.inl (a5)), some (.inl (a6))], [.inl (a5), .inl (a4), .inl (a3), .inl (a2), .inl (a1), .inl (a0), .inr (.inr (.inl (some (204))))], 0, 0, ix_mem 276 I J T)) rfl trivial ?_
  refine ix_sp rfl ⟨rfl, ⟨ix_lt rfl, ix_eq rfl, ix_lt rfl⟩, ix_le rfl, Nat.le_refl _, Nat.le_refl _, tp_X12_isMail h (fun v1 I1 J1 T1 h1 => ?_)⟩
  change ix_W _ _ _ (13, [some (.inr (.inr (.inl (some (204))))), some (.inl (a0)), some (.inl (a1)), some (.inl (a2)), some (.inl (a3)), some (.inl (a4)), some (.inl (a5)), some (.inl (a6))], [.inl (v1)], 0, 0, ix_mem 276 I1 J1 T1)
  refine ix_go 1 (x' := (if v1 = 0 then 27 else 16, [some (.inr (.inr (.inl (some (204))))), some (.inl (a0)), some (.inl (a1)), some (.inl (a2)), some (.inl (a3)), some (.inl (a4)), some (.inl (a5)), some (.inl (a6))], [], 0, 0, ix_mem 276 I1 J1 T1)) rfl trivial ?_
  refine ix_br (fun c2 => ?_) (fun c2 => ?_)
  · have h3 := h1.1 c2
    refine ix_go 2 (x' := (29, [some (.inr (.inr (.inl (some (204))))), some (.inl (a0)), some (.inl (a1)), some (.inl (a2)), some (.inl (a3)), some (.inl (a4)), some (.inl (a5)), some (.inl (a6))], [.inl ((1 : Int32)), .inr (.inr (.inl (some (204))))], 0, 0, ix_mem 276 I1 J1 T1)) rfl trivial ?_
    refine ix_sp rfl ⟨rfl, ⟨ix_lt rfl, ix_eq rfl, ix_lt rfl⟩, ix_le rfl, Nat.le_refl _, Nat.le_refl _, tp_X12_refuse h3 (fun v4 I4 J4 T4 h4 => ?_)⟩
    change ix_W _ _ _ (32, [some (.inr (.inr (.inl (some (204))))), some (.inl (a0)), some (.inl (a1)), some (.inl (a2)), some (.inl (a3)), some (.inl (a4)), some (.inl (a5)), some (.inl (a6))], [.inl (v4)], 0, 0, ix_mem 276 I4 J4 T4)
    refine ix_go 1 (x' := (33, [some (.inr (.inr (.inl (some (204))))), some (.inl (a0)), some (.inl (a1)), some (.inl (a2)), some (.inl (a3)), some (.inl (a4)), some (.inl (a5)), some (.inl (a6))], [.inr (.inl ((v4).toInt64))], 0, 0, ix_mem 276 I4 J4 T4)) rfl trivial ?_
    exact ix_sp rfl ⟨Nat.le_refl _, Nat.le_refl _, rfl, hQ _ _ _ _ h4⟩
  · have h3 := h1.2 c2
    refine ix_go 2 (x' := (if a6 < 0 then 27 else 21, [some (.inr (.inr (.inl (some (204))))), some (.inl (a0)), some (.inl (a1)), some (.inl (a2)), some (.inl (a3)), some (.inl (a4)), some (.inl (a5)), some (.inl (a6))], [], 0, 0, ix_mem 276 I1 J1 T1)) rfl trivial ?_
    refine ix_br (fun c5 => ?_) (fun c5 => ?_)
    · have h6 := h3.1 c5
      refine ix_go 2 (x' := (29, [some (.inr (.inr (.inl (some (204))))), some (.inl (a0)), some (.inl (a1)), some (.inl (a2)), some (.inl (a3)), some (.inl (a4)), some (.inl (a5)), some (.inl (a6))], [.inl ((1 : Int32)), .inr (.inr (.inl (some (204))))], 0, 0, ix_mem 276 I1 J1 T1)) rfl trivial ?_
      refine ix_sp rfl ⟨rfl, ⟨ix_lt rfl, ix_eq rfl, ix_lt rfl⟩, ix_le rfl, Nat.le_refl _, Nat.le_refl _, tp_X12_refuse h6 (fun v7 I7 J7 T7 h7 => ?_)⟩
      change ix_W _ _ _ (32, [some (.inr (.inr (.inl (some (204))))), some (.inl (a0)), some (.inl (a1)), some (.inl (a2)), some (.inl (a3)), some (.inl (a4)), some (.inl (a5)), some (.inl (a6))], [.inl (v7)], 0, 0, ix_mem 276 I7 J7 T7)
      refine ix_go 1 (x' := (33, [some (.inr (.inr (.inl (some (204))))), some (.inl (a0)), some (.inl (a1)), some (.inl (a2)), some (.inl (a3)), some (.inl (a4)), some (.inl (a5)), some (.inl (a6))], [.inr (.inl ((v7).toInt64))], 0, 0, ix_mem 276 I7 J7 T7)) rfl trivial ?_
      exact ix_sp rfl ⟨Nat.le_refl _, Nat.le_refl _, rfl, hQ _ _ _ _ h7⟩
    · have h6 := h3.2 c5
      refine ix_go 3 (x' := (if a6 ≤ (3 : Int32) then 34 else 27, [some (.inr (.inr (.inl (some (204))))), some (.inl (a0)), some (.inl (a1)), some (.inl (a2)), some (.inl (a3)), some (.inl (a4)), some (.inl (a5)), some (.inl (a6))], [], 0, 0, ix_mem 276 I1 J1 T1)) rfl trivial ?_
      refine ix_br (fun c8 => ?_) (fun c8 => ?_)
      · have h9 := h6.1 c8
        refine ix_go 7 (x' := (42, [some (.inr (.inr (.inl (some (204))))), some (.inl (a0)), some (.inl (a1)), some (.inl (a2)), some (.inl (a3)), some (.inl (a4)), some (.inl (a5)), some (.inl (a6))], [.inr (.inl ((a3).toInt64)), .inl (a2), .inl (a1), .inl (a0), .inr (.inr (.inl (some (204)))), .inr (.inr (.inl (some (204))))], 0, 0, ix_mem 276 I1 J1 T1)) rfl trivial ?_
        refine ix_go 5 (x' := (50, [some (.inr (.inr (.inl (some (204))))), some (.inl (a0)), some (.inl (a1)), some (.inl (a2)), some (.inl (a3)), some (.inl (a4)), some (.inl (a5)), some (.inl (a6))], [.inl ((-1 : Int32)), .inl (a6), .inl (a5), .inr (.inl ((a4).toInt64)), .inr (.inl ((a3).toInt64)), .inl (a2), .inl (a1), .inl (a0), .inr (.inr (.inl (some (204)))), .inr (.inr (.inl (some (204))))], 0, 0, ix_mem 276 I1 J1 T1)) rfl trivial ?_
        refine ix_sp rfl ⟨rfl, ⟨ix_lt rfl, ix_eq rfl, ix_lt rfl⟩, ix_le rfl, Nat.le_refl _, Nat.le_refl _, tp_X12_owed h9 (fun v10 I10 J10 T10 h10 => ?_)⟩
        change ix_W _ _ _ (53, [some (.inr (.inr (.inl (some (204))))), some (.inl (a0)), some (.inl (a1)), some (.inl (a2)), some (.inl (a3)), some (.inl (a4)), some (.inl (a5)), some (.inl (a6))], [.inr (.inl (v10)), .inr (.inr (.inl (some (204))))], 0, 0, ix_mem 276 I10 J10 T10)
        refine ix_sp rfl ⟨rfl, ⟨ix_lt rfl, ix_eq rfl, ix_lt rfl⟩, ix_le rfl, Nat.le_refl _, Nat.le_refl _, tp_X12_givesLong h10 (fun v11 I11 J11 T11 h11 => ?_)⟩
        change ix_W _ _ _ (56, [some (.inr (.inr (.inl (some (204))))), some (.inl (a0)), some (.inl (a1)), some (.inl (a2)), some (.inl (a3)), some (.inl (a4)), some (.inl (a5)), some (.inl (a6))], [.inr (.inl (v11))], 0, 0, ix_mem 276 I11 J11 T11)
        exact ix_sp rfl ⟨Nat.le_refl _, Nat.le_refl _, rfl, hQ _ _ _ _ h11⟩
      · have h9 := h6.2 c8
        refine ix_go 2 (x' := (29, [some (.inr (.inr (.inl (some (204))))), some (.inl (a0)), some (.inl (a1)), some (.inl (a2)), some (.inl (a3)), some (.inl (a4)), some (.inl (a5)), some (.inl (a6))], [.inl ((1 : Int32)), .inr (.inr (.inl (some (204))))], 0, 0, ix_mem 276 I1 J1 T1)) rfl trivial ?_
        refine ix_sp rfl ⟨rfl, ⟨ix_lt rfl, ix_eq rfl, ix_lt rfl⟩, ix_le rfl, Nat.le_refl _, Nat.le_refl _, tp_X12_refuse h9 (fun v12 I12 J12 T12 h12 => ?_)⟩
        change ix_W _ _ _ (32, [some (.inr (.inr (.inl (some (204))))), some (.inl (a0)), some (.inl (a1)), some (.inl (a2)), some (.inl (a3)), some (.inl (a4)), some (.inl (a5)), some (.inl (a6))], [.inl (v12)], 0, 0, ix_mem 276 I12 J12 T12)
        refine ix_go 1 (x' := (33, [some (.inr (.inr (.inl (some (204))))), some (.inl (a0)), some (.inl (a1)), some (.inl (a2)), some (.inl (a3)), some (.inl (a4)), some (.inl (a5)), some (.inl (a6))], [.inr (.inl ((v12).toInt64))], 0, 0, ix_mem 276 I12 J12 T12)) rfl trivial ?_
        exact ix_sp rfl ⟨Nat.le_refl _, Nat.le_refl _, rfl, hQ _ _ _ _ h12⟩
def wp_X12_dueBy (a0 : Int32) (a1 : Int32) (a2 : Int32) (a3 : Int32) (a4 : Int32) (a5 : Int32) (a6 : Int32) (I : Nat → Nat → Int32) (J : Nat → Nat → Int64) (T : Option Nat) (P : Int32 → (Nat → Nat → Int32) → (Nat → Nat → Int64) → Option Nat → Prop) : Prop := wp_X12_isMail (a0) (a1) (a2) (a3) (a4) (a5) I J T (fun v1 I1 J1 T1 => ((v1 = 0 → wp_X12_refuse ((1 : Int32)) I1 J1 T1 (fun v4 I4 J4 T4 => P (v4) I4 J4 T4)) ∧ (¬ (v1 = 0) → ((a6 < 0 → wp_X12_refuse ((1 : Int32)) I1 J1 T1 (fun v7 I7 J7 T7 => P (v7) I7 J7 T7)) ∧ (¬ (a6 < 0) → ((a6 ≤ (3 : Int32) → wp_X12_asks (a2) ((a3).toInt64) ((a4).toInt64) ((a5) / ((365 : Int32))) (a6) ((-1 : Int32)) I1 J1 T1 (fun I10 J10 T10 => wp_X12_clauseOf (a0) (a1) (a5) ((-1 : Int32)) I10 J10 T10 (fun v11 I11 J11 T11 => ((v11 = (-1 : Int32) → wp_X12_refuse ((6 : Int32)) I11 J11 T11 (fun v14 I14 J14 T14 => P (v14) I14 J14 T14)) ∧ (¬ (v11 = (-1 : Int32)) → wp_X12_gives ((v11) - (v11) / ((12 : Int32)) * ((12 : Int32))) I11 J11 T11 (fun v15 I15 J15 T15 => P (v15) I15 J15 T15)))))) ∧ (¬ (a6 ≤ (3 : Int32)) → wp_X12_refuse ((1 : Int32)) I1 J1 T1 (fun v16 I16 J16 T16 => P (v16) I16 J16 T16))))))))
set_option maxRecDepth 20000 in
theorem tp_X12_dueBy {d : Nat} {a0 : Int32} {a1 : Int32} {a2 : Int32} {a3 : Int32} {a4 : Int32} {a5 : Int32} {a6 : Int32} {I : Nat → Nat → Int32} {J : Nat → Nat → Int64} {T : Option Nat} {P : Int32 → (Nat → Nat → Int32) → (Nat → Nat → Int64) → Option Nat → Prop} {Q : ix_Q} (h : wp_X12_dueBy a0 a1 a2 a3 a4 a5 a6 I J T P) (hQ : ∀ v I J T, P v I J T → Q (some (.inl v)) (ix_mem 276 I J T)) : ix_C (d + 5) 286 [.inr (.inr (.inl (some (204)))), .inl (a0), .inl (a1), .inl (a2), .inl (a3), .inl (a4), .inl (a5), .inl (a6)] (ix_mem 276 I J T) Q := by
  unfold wp_X12_dueBy at h
  refine ix_enter (ls := [some (.inr (.inr (.inl (some (204))))), some (.inl (a0)), some (.inl (a1)), some (.inl (a2)), some (.inl (a3)), some (.inl (a4)), some (.inl (a5)), some (.inl (a6)), none]) rfl rfl rfl (Nat.le_of_ble_eq_true rfl) ?_
  refine ix_go 7 (x' := (10, [some (.inr (.inr (.inl (some (204))))), some (.inl (a0)), some (.inl (a1)), some (.inl (a2)), some (.inl (a3)), some (.inl (a4)), some (.inl (a5)), some (.inl (a6)), none], [.inl (a5), .inl (a4), .inl (a3), .inl (a2), .inl (a1), .inl (a0), .inr (.inr (.inl (some (204))))], 0, 0, ix_mem 276 I J T)) rfl trivial ?_
  refine ix_sp rfl ⟨rfl, ⟨ix_lt rfl, ix_eq rfl, ix_lt rfl⟩, ix_le rfl, Nat.le_refl _, Nat.le_refl _, tp_X12_isMail h (fun v1 I1 J1 T1 h1 => ?_)⟩
  change ix_W _ _ _ (13, [some (.inr (.inr (.inl (some (204))))), some (.inl (a0)), some (.inl (a1)), some (.inl (a2)), some (.inl (a3)), some (.inl (a4)), some (.inl (a5)), some (.inl (a6)), none], [.inl (v1)], 0, 0, ix_mem 276 I1 J1 T1)
  refine ix_go 1 (x' := (if v1 = 0 then 27 else 16, [some (.inr (.inr (.inl (some (204))))), some (.inl (a0)), some (.inl (a1)), some (.inl (a2)), some (.inl (a3)), some (.inl (a4)), some (.inl (a5)), some (.inl (a6)), none], [], 0, 0, ix_mem 276 I1 J1 T1)) rfl trivial ?_
  refine ix_br (fun c2 => ?_) (fun c2 => ?_)
  · have h3 := h1.1 c2
    refine ix_go 2 (x' := (29, [some (.inr (.inr (.inl (some (204))))), some (.inl (a0)), some (.inl (a1)), some (.inl (a2)), some (.inl (a3)), some (.inl (a4)), some (.inl (a5)), some (.inl (a6)), none], [.inl ((1 : Int32)), .inr (.inr (.inl (some (204))))], 0, 0, ix_mem 276 I1 J1 T1)) rfl trivial ?_
    refine ix_sp rfl ⟨rfl, ⟨ix_lt rfl, ix_eq rfl, ix_lt rfl⟩, ix_le rfl, Nat.le_refl _, Nat.le_refl _, tp_X12_refuse h3 (fun v4 I4 J4 T4 h4 => ?_)⟩
    change ix_W _ _ _ (32, [some (.inr (.inr (.inl (some (204))))), some (.inl (a0)), some (.inl (a1)), some (.inl (a2)), some (.inl (a3)), some (.inl (a4)), some (.inl (a5)), some (.inl (a6)), none], [.inl (v4)], 0, 0, ix_mem 276 I4 J4 T4)
    exact ix_sp rfl ⟨Nat.le_refl _, Nat.le_refl _, trivial, hQ _ _ _ _ h4⟩
  · have h3 := h1.2 c2
    refine ix_go 2 (x' := (if a6 < 0 then 27 else 21, [some (.inr (.inr (.inl (some (204))))), some (.inl (a0)), some (.inl (a1)), some (.inl (a2)), some (.inl (a3)), some (.inl (a4)), some (.inl (a5)), some (.inl (a6)), none], [], 0, 0, ix_mem 276 I1 J1 T1)) rfl trivial ?_
    refine ix_br (fun c5 => ?_) (fun c5 => ?_)
    · have h6 := h3.1 c5
      refine ix_go 2 (x' := (29, [some (.inr (.inr (.inl (some (204))))), some (.inl (a0)), some (.inl (a1)), some (.inl (a2)), some (.inl (a3)), some (.inl (a4)), some (.inl (a5)), some (.inl (a6)), none], [.inl ((1 : Int32)), .inr (.inr (.inl (some (204))))], 0, 0, ix_mem 276 I1 J1 T1)) rfl trivial ?_
      refine ix_sp rfl ⟨rfl, ⟨ix_lt rfl, ix_eq rfl, ix_lt rfl⟩, ix_le rfl, Nat.le_refl _, Nat.le_refl _, tp_X12_refuse h6 (fun v7 I7 J7 T7 h7 => ?_)⟩
      change ix_W _ _ _ (32, [some (.inr (.inr (.inl (some (204))))), some (.inl (a0)), some (.inl (a1)), some (.inl (a2)), some (.inl (a3)), some (.inl (a4)), some (.inl (a5)), some (.inl (a6)), none], [.inl (v7)], 0, 0, ix_mem 276 I7 J7 T7)
      exact ix_sp rfl ⟨Nat.le_refl _, Nat.le_refl _, trivial, hQ _ _ _ _ h7⟩
    · have h6 := h3.2 c5
      refine ix_go 3 (x' := (if a6 ≤ (3 : Int32) then 33 else 27, [some (.inr (.inr (.inl (some (204))))), some (.inl (a0)), some (.inl (a1)), some (.inl (a2)), some (.inl (a3)), some (.inl (a4)), some (.inl (a5)), some (.inl (a6)), none], [], 0, 0, ix_mem 276 I1 J1 T1)) rfl trivial ?_
      refine ix_br (fun c8 => ?_) (fun c8 => ?_)
      · have h9 := h6.1 c8
        refine ix_go 7 (x' := (43, [some (.inr (.inr (.inl (some (204))))), some (.inl (a0)), some (.inl (a1)), some (.inl (a2)), some (.inl (a3)), some (.inl (a4)), some (.inl (a5)), some (.inl (a6)), none], [.inl (a5), .inr (.inl ((a4).toInt64)), .inr (.inl ((a3).toInt64)), .inl (a2), .inr (.inr (.inl (some (204))))], 0, 0, ix_mem 276 I1 J1 T1)) rfl trivial ?_
        refine ix_go 4 (x' := (50, [some (.inr (.inr (.inl (some (204))))), some (.inl (a0)), some (.inl (a1)), some (.inl (a2)), some (.inl (a3)), some (.inl (a4)), some (.inl (a5)), some (.inl (a6)), none], [.inl ((-1 : Int32)), .inl (a6), .inl ((a5) / ((365 : Int32))), .inr (.inl ((a4).toInt64)), .inr (.inl ((a3).toInt64)), .inl (a2), .inr (.inr (.inl (some (204))))], 0, 0, ix_mem 276 I1 J1 T1)) rfl rfl ?_
        refine ix_sp rfl ⟨rfl, ⟨ix_lt rfl, ix_eq rfl, ix_lt rfl⟩, ix_le rfl, Nat.le_refl _, Nat.le_refl _, tp_X12_asks h9 (fun I10 J10 T10 h10 => ?_)⟩
        change ix_W _ _ _ (53, [some (.inr (.inr (.inl (some (204))))), some (.inl (a0)), some (.inl (a1)), some (.inl (a2)), some (.inl (a3)), some (.inl (a4)), some (.inl (a5)), some (.inl (a6)), none], [], 0, 0, ix_mem 276 I10 J10 T10)
        refine ix_go 5 (x' := (59, [some (.inr (.inr (.inl (some (204))))), some (.inl (a0)), some (.inl (a1)), some (.inl (a2)), some (.inl (a3)), some (.inl (a4)), some (.inl (a5)), some (.inl (a6)), none], [.inl ((-1 : Int32)), .inl (a5), .inl (a1), .inl (a0), .inr (.inr (.inl (some (204))))], 0, 0, ix_mem 276 I10 J10 T10)) rfl trivial ?_
        refine ix_sp rfl ⟨rfl, ⟨ix_lt rfl, ix_eq rfl, ix_lt rfl⟩, ix_le rfl, Nat.le_refl _, Nat.le_refl _, tp_X12_clauseOf h10 (fun v11 I11 J11 T11 h11 => ?_)⟩
        change ix_W _ _ _ (62, [some (.inr (.inr (.inl (some (204))))), some (.inl (a0)), some (.inl (a1)), some (.inl (a2)), some (.inl (a3)), some (.inl (a4)), some (.inl (a5)), some (.inl (a6)), none], [.inl (v11)], 0, 0, ix_mem 276 I11 J11 T11)
        refine ix_go 4 (x' := (if v11 = (-1 : Int32) then 70 else 79, [some (.inr (.inr (.inl (some (204))))), some (.inl (a0)), some (.inl (a1)), some (.inl (a2)), some (.inl (a3)), some (.inl (a4)), some (.inl (a5)), some (.inl (a6)), some (.inl (v11))], [], 0, 0, ix_mem 276 I11 J11 T11)) rfl trivial ?_
        refine ix_br (fun c12 => ?_) (fun c12 => ?_)
        · have h13 := h11.1 c12
          refine ix_go 2 (x' := (73, [some (.inr (.inr (.inl (some (204))))), some (.inl (a0)), some (.inl (a1)), some (.inl (a2)), some (.inl (a3)), some (.inl (a4)), some (.inl (a5)), some (.inl (a6)), some (.inl (v11))], [.inl ((6 : Int32)), .inr (.inr (.inl (some (204))))], 0, 0, ix_mem 276 I11 J11 T11)) rfl trivial ?_
          refine ix_sp rfl ⟨rfl, ⟨ix_lt rfl, ix_eq rfl, ix_lt rfl⟩, ix_le rfl, Nat.le_refl _, Nat.le_refl _, tp_X12_refuse h13 (fun v14 I14 J14 T14 h14 => ?_)⟩
          change ix_W _ _ _ (76, [some (.inr (.inr (.inl (some (204))))), some (.inl (a0)), some (.inl (a1)), some (.inl (a2)), some (.inl (a3)), some (.inl (a4)), some (.inl (a5)), some (.inl (a6)), some (.inl (v11))], [.inl (v14)], 0, 0, ix_mem 276 I14 J14 T14)
          refine ix_go 1 (x' := (88, [some (.inr (.inr (.inl (some (204))))), some (.inl (a0)), some (.inl (a1)), some (.inl (a2)), some (.inl (a3)), some (.inl (a4)), some (.inl (a5)), some (.inl (a6)), some (.inl (v11))], [.inl (v14)], 0, 0, ix_mem 276 I14 J14 T14)) rfl trivial ?_
          exact ix_sp rfl ⟨Nat.le_refl _, Nat.le_refl _, trivial, hQ _ _ _ _ h14⟩
        · have h13 := h11.2 c12
          refine ix_go 4 (x' := (85, [some (.inr (.inr (.inl (some (204))))), some (.inl (a0)), some (.inl (a1)), some (.inl (a2)), some (.inl (a3)), some (.inl (a4)), some (.inl (a5)), some (.inl (a6)), some (.inl (v11))], [.inl ((v11) - (v11) / ((12 : Int32)) * ((12 : Int32))), .inr (.inr (.inl (some (204))))], 0, 0, ix_mem 276 I11 J11 T11)) rfl rfl ?_
          refine ix_sp rfl ⟨rfl, ⟨ix_lt rfl, ix_eq rfl, ix_lt rfl⟩, ix_le rfl, Nat.le_refl _, Nat.le_refl _, tp_X12_gives h13 (fun v15 I15 J15 T15 h15 => ?_)⟩
          change ix_W _ _ _ (88, [some (.inr (.inr (.inl (some (204))))), some (.inl (a0)), some (.inl (a1)), some (.inl (a2)), some (.inl (a3)), some (.inl (a4)), some (.inl (a5)), some (.inl (a6)), some (.inl (v11))], [.inl (v15)], 0, 0, ix_mem 276 I15 J15 T15)
          exact ix_sp rfl ⟨Nat.le_refl _, Nat.le_refl _, trivial, hQ _ _ _ _ h15⟩
      · have h9 := h6.2 c8
        refine ix_go 2 (x' := (29, [some (.inr (.inr (.inl (some (204))))), some (.inl (a0)), some (.inl (a1)), some (.inl (a2)), some (.inl (a3)), some (.inl (a4)), some (.inl (a5)), some (.inl (a6)), none], [.inl ((1 : Int32)), .inr (.inr (.inl (some (204))))], 0, 0, ix_mem 276 I1 J1 T1)) rfl trivial ?_
        refine ix_sp rfl ⟨rfl, ⟨ix_lt rfl, ix_eq rfl, ix_lt rfl⟩, ix_le rfl, Nat.le_refl _, Nat.le_refl _, tp_X12_refuse h9 (fun v16 I16 J16 T16 h16 => ?_)⟩
        change ix_W _ _ _ (32, [some (.inr (.inr (.inl (some (204))))), some (.inl (a0)), some (.inl (a1)), some (.inl (a2)), some (.inl (a3)), some (.inl (a4)), some (.inl (a5)), some (.inl (a6)), none], [.inl (v16)], 0, 0, ix_mem 276 I16 J16 T16)
        exact ix_sp rfl ⟨Nat.le_refl _, Nat.le_refl _, trivial, hQ _ _ _ _ h16⟩
