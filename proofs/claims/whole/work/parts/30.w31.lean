def wj_X12_sum_j382_10 (x1 : Int32) (x2 : Int32) (I : Nat → Nat → Int32) (J : Nat → Nat → Int64) (T : Option Nat) (V10 : Int32 → Int32 → (Nat → Nat → Int32) → (Nat → Nat → Int64) → Option Nat → Prop) (P : Int32 → (Nat → Nat → Int32) → (Nat → Nat → Int64) → Option Nat → Prop) : Prop := V10 (x1 + (-1 : Int32)) (x2) I J T
set_option maxRecDepth 20000 in
theorem tj_X12_sum_j382_10 {d : Nat} {x1 : Int32} {x2 : Int32} {I : Nat → Nat → Int32} {J : Nat → Nat → Int64} {T : Option Nat} {V10 : Int32 → Int32 → (Nat → Nat → Int32) → (Nat → Nat → Int64) → Option Nat → Prop} {P : Int32 → (Nat → Nat → Int32) → (Nat → Nat → Int64) → Option Nat → Prop} {Q : ix_Q} (h : wj_X12_sum_j382_10 x1 x2 I J T V10 P) (hV10 : ∀ (x1 : Int32) (x2 : Int32) I J T, V10 x1 x2 I J T → ix_W (ix_C d) (12, ix_lk ix_l264, (some .boolean), 0, 0, Nat.blt 0 0, none) Q (10, [some (.inr (.inr (.inl (some (204))))), some (.inl (x1)), some (.inl (x2)), none, none], [], 0, 0, ix_mem 276 I J T)) (hQ : ∀ v I J T, P v I J T → Q (some (.inl v)) (ix_mem 276 I J T)) : ix_W (ix_C d) (12, ix_lk ix_l264, (some .boolean), 0, 0, Nat.blt 0 0, none) Q (382, [some (.inr (.inr (.inl (some (204))))), some (.inl (x1)), some (.inl (x2)), none, none], [], 0, 0, ix_mem 276 I J T) := by
  unfold wj_X12_sum_j382_10 at h
  refine ix_go 2 (x' := (10, [some (.inr (.inr (.inl (some (204))))), some (.inl (x1 + (-1 : Int32))), some (.inl (x2)), none, none], [], 0, 0, ix_mem 276 I J T)) rfl trivial ?_
  refine ix_subW ([some (.inr (.inr (.inl (some (204))))), some (.inl (x1 + (-1 : Int32))), some (.inl (x2)), none, none]) (ix_subS (ix_subS (ix_subS (ix_subS (ix_subS (ix_sub0)))))) ?_
  exact hV10 _ _ _ _ _ h
def wj_X12_sum_j378_10_k204 (x1 : Int32) (x2 : Int32) (s1 : Int32) (I : Nat → Nat → Int32) (J : Nat → Nat → Int64) (T : Option Nat) (V10 : Int32 → Int32 → (Nat → Nat → Int32) → (Nat → Nat → Int64) → Option Nat → Prop) (P : Int32 → (Nat → Nat → Int32) → (Nat → Nat → Int64) → Option Nat → Prop) : Prop := wp_X12_puts (s1) ((0 : Int64)) I J T (fun I47 J47 T47 => wj_X12_sum_j382_10 (x1) (x2) I47 J47 T47 V10 P)
set_option maxRecDepth 20000 in
theorem tj_X12_sum_j378_10_k204 {d : Nat} {x1 : Int32} {x2 : Int32} {s1 : Int32} {I : Nat → Nat → Int32} {J : Nat → Nat → Int64} {T : Option Nat} {V10 : Int32 → Int32 → (Nat → Nat → Int32) → (Nat → Nat → Int64) → Option Nat → Prop} {P : Int32 → (Nat → Nat → Int32) → (Nat → Nat → Int64) → Option Nat → Prop} {Q : ix_Q} (h : wj_X12_sum_j378_10_k204 x1 x2 s1 I J T V10 P) (hV10 : ∀ (x1 : Int32) (x2 : Int32) I J T, V10 x1 x2 I J T → ix_W (ix_C (d + 1)) (12, ix_lk ix_l264, (some .boolean), 0, 0, Nat.blt 0 0, none) Q (10, [some (.inr (.inr (.inl (some (204))))), some (.inl (x1)), some (.inl (x2)), none, none], [], 0, 0, ix_mem 276 I J T)) (hQ : ∀ v I J T, P v I J T → Q (some (.inl v)) (ix_mem 276 I J T)) : ix_W (ix_C (d + 1)) (12, ix_lk ix_l264, (some .boolean), 0, 0, Nat.blt 0 0, none) Q (378, [some (.inr (.inr (.inl (some (204))))), some (.inl (x1)), some (.inl (x2)), none, none], [.inl (s1), .inr (.inr (.inl (some (204))))], 0, 0, ix_mem 276 I J T) := by
  unfold wj_X12_sum_j378_10_k204 at h
  refine ix_go 1 (x' := (379, [some (.inr (.inr (.inl (some (204))))), some (.inl (x1)), some (.inl (x2)), none, none], [.inr (.inl ((0 : Int64))), .inl (s1), .inr (.inr (.inl (some (204))))], 0, 0, ix_mem 276 I J T)) rfl trivial ?_
  refine ix_sp rfl ⟨rfl, ⟨ix_lt rfl, ix_eq rfl, ix_lt rfl⟩, ix_le rfl, Nat.le_refl _, Nat.le_refl _, tp_X12_puts h (fun I47 J47 T47 h47 => ?_)⟩
  change ix_W _ _ _ (382, [some (.inr (.inr (.inl (some (204))))), some (.inl (x1)), some (.inl (x2)), none, none], [], 0, 0, ix_mem 276 I47 J47 T47)
  refine ix_subW ([some (.inr (.inr (.inl (some (204))))), some (.inl (x1)), some (.inl (x2)), none, none]) (ix_subS (ix_subS (ix_subS (ix_subS (ix_subS (ix_sub0)))))) ?_
  exact tj_X12_sum_j382_10 h47 hV10 hQ
def wj_X12_sum_j335_10_k204 (x1 : Int32) (x2 : Int32) (x3 : Int32) (x4 : Int32) (s1 : Int32) (I : Nat → Nat → Int32) (J : Nat → Nat → Int64) (T : Option Nat) (V10 : Int32 → Int32 → (Nat → Nat → Int32) → (Nat → Nat → Int64) → Option Nat → Prop) (P : Int32 → (Nat → Nat → Int32) → (Nat → Nat → Int64) → Option Nat → Prop) : Prop := wp_X12_want (s1) I J T (fun v38 I38 J38 T38 => ((v38 = 0 → P ((0 : Int32)) I38 J38 T38) ∧ (¬ (v38 = 0) → ((x4 = 0 → ((x3 ≤ 0 → wj_X12_sum_j382_10 (x1) (x2) I38 J38 T38 V10 P) ∧ (¬ (x3 ≤ 0) → ((x3 = (2 : Int32) → wj_X12_sum_j378_10_k204 (x1) (x2) ((108 : Int32)) I38 J38 T38 V10 P) ∧ (¬ (x3 = (2 : Int32)) → wj_X12_sum_j378_10_k204 (x1) (x2) ((109 : Int32)) I38 J38 T38 V10 P))))) ∧ (¬ (x4 = 0) → wp_X12_opens (x1) ((x3) + ((1 : Int32))) I38 J38 T38 (fun I48 J48 T48 => V10 (x1) ((1 : Int32)) I48 J48 T48))))))
set_option maxRecDepth 20000 in
theorem tj_X12_sum_j335_10_k204 {d : Nat} {x1 : Int32} {x2 : Int32} {x3 : Int32} {x4 : Int32} {s1 : Int32} {I : Nat → Nat → Int32} {J : Nat → Nat → Int64} {T : Option Nat} {V10 : Int32 → Int32 → (Nat → Nat → Int32) → (Nat → Nat → Int64) → Option Nat → Prop} {P : Int32 → (Nat → Nat → Int32) → (Nat → Nat → Int64) → Option Nat → Prop} {Q : ix_Q} (h : wj_X12_sum_j335_10_k204 x1 x2 x3 x4 s1 I J T V10 P) (hV10 : ∀ (x1 : Int32) (x2 : Int32) I J T, V10 x1 x2 I J T → ix_W (ix_C (d + 3)) (12, ix_lk ix_l264, (some .boolean), 0, 0, Nat.blt 0 0, none) Q (10, [some (.inr (.inr (.inl (some (204))))), some (.inl (x1)), some (.inl (x2)), none, none], [], 0, 0, ix_mem 276 I J T)) (hQ : ∀ v I J T, P v I J T → Q (some (.inl v)) (ix_mem 276 I J T)) : ix_W (ix_C (d + 3)) (12, ix_lk ix_l264, (some .boolean), 0, 0, Nat.blt 0 0, none) Q (335, [some (.inr (.inr (.inl (some (204))))), some (.inl (x1)), some (.inl (x2)), some (.inl (x3)), some (.inl (x4))], [.inl (s1), .inr (.inr (.inl (some (204))))], 0, 0, ix_mem 276 I J T) := by
  unfold wj_X12_sum_j335_10_k204 at h
  refine ix_sp rfl ⟨rfl, ⟨ix_lt rfl, ix_eq rfl, ix_lt rfl⟩, ix_le rfl, Nat.le_refl _, Nat.le_refl _, tp_X12_want h (fun v38 I38 J38 T38 h38 => ?_)⟩
  change ix_W _ _ _ (338, [some (.inr (.inr (.inl (some (204))))), some (.inl (x1)), some (.inl (x2)), some (.inl (x3)), some (.inl (x4))], [.inl (v38)], 0, 0, ix_mem 276 I38 J38 T38)
  refine ix_go 1 (x' := (if v38 = 0 then 341 else 343, [some (.inr (.inr (.inl (some (204))))), some (.inl (x1)), some (.inl (x2)), some (.inl (x3)), some (.inl (x4))], [], 0, 0, ix_mem 276 I38 J38 T38)) rfl trivial ?_
  refine ix_br (fun c39 => ?_) (fun c39 => ?_)
  · have h40 := h38.1 c39
    refine ix_go 1 (x' := (342, [some (.inr (.inr (.inl (some (204))))), some (.inl (x1)), some (.inl (x2)), some (.inl (x3)), some (.inl (x4))], [.inl ((0 : Int32))], 0, 0, ix_mem 276 I38 J38 T38)) rfl trivial ?_
    exact ix_sp rfl ⟨Nat.le_refl _, Nat.le_refl _, ix_01_ok rfl, hQ _ _ _ _ h40⟩
  · have h40 := h38.2 c39
    refine ix_go 2 (x' := (if x4 = 0 then 361 else 348, [some (.inr (.inr (.inl (some (204))))), some (.inl (x1)), some (.inl (x2)), some (.inl (x3)), some (.inl (x4))], [], 0, 0, ix_mem 276 I38 J38 T38)) rfl trivial ?_
    refine ix_br (fun c41 => ?_) (fun c41 => ?_)
    · have h42 := h40.1 c41
      refine ix_go 2 (x' := (if x3 ≤ 0 then 382 else 365, [some (.inr (.inr (.inl (some (204))))), some (.inl (x1)), some (.inl (x2)), some (.inl (x3)), some (.inl (x4))], [], 0, 0, ix_mem 276 I38 J38 T38)) rfl trivial ?_
      refine ix_br (fun c43 => ?_) (fun c43 => ?_)
      · have h44 := h42.1 c43
        refine ix_subW ([some (.inr (.inr (.inl (some (204))))), some (.inl (x1)), some (.inl (x2)), none, none]) (ix_subS (ix_subS (ix_subS (ix_subN (ix_subN (ix_sub0)))))) ?_
        exact tj_X12_sum_j382_10 h44 hV10 hQ
      · have h44 := h42.2 c43
        refine ix_go 4 (x' := (if x3 = (2 : Int32) then 371 else 376, [some (.inr (.inr (.inl (some (204))))), some (.inl (x1)), some (.inl (x2)), some (.inl (x3)), some (.inl (x4))], [.inr (.inr (.inl (some (204))))], 0, 0, ix_mem 276 I38 J38 T38)) rfl trivial ?_
        refine ix_br (fun c45 => ?_) (fun c45 => ?_)
        · have h46 := h44.1 c45
          refine ix_go 2 (x' := (378, [some (.inr (.inr (.inl (some (204))))), some (.inl (x1)), some (.inl (x2)), some (.inl (x3)), some (.inl (x4))], [.inl ((108 : Int32)), .inr (.inr (.inl (some (204))))], 0, 0, ix_mem 276 I38 J38 T38)) rfl trivial ?_
          refine ix_subW ([some (.inr (.inr (.inl (some (204))))), some (.inl (x1)), some (.inl (x2)), none, none]) (ix_subS (ix_subS (ix_subS (ix_subN (ix_subN (ix_sub0)))))) ?_
          exact tj_X12_sum_j378_10_k204 h46 hV10 hQ
        · have h46 := h44.2 c45
          refine ix_go 1 (x' := (378, [some (.inr (.inr (.inl (some (204))))), some (.inl (x1)), some (.inl (x2)), some (.inl (x3)), some (.inl (x4))], [.inl ((109 : Int32)), .inr (.inr (.inl (some (204))))], 0, 0, ix_mem 276 I38 J38 T38)) rfl trivial ?_
          refine ix_subW ([some (.inr (.inr (.inl (some (204))))), some (.inl (x1)), some (.inl (x2)), none, none]) (ix_subS (ix_subS (ix_subS (ix_subN (ix_subN (ix_sub0)))))) ?_
          exact tj_X12_sum_j378_10_k204 h46 hV10 hQ
    · have h42 := h40.2 c41
      refine ix_go 5 (x' := (353, [some (.inr (.inr (.inl (some (204))))), some (.inl (x1)), some (.inl (x2)), some (.inl (x3)), some (.inl (x4))], [.inl ((x3) + ((1 : Int32))), .inl (x1), .inr (.inr (.inl (some (204))))], 0, 0, ix_mem 276 I38 J38 T38)) rfl trivial ?_
      refine ix_sp rfl ⟨rfl, ⟨ix_lt rfl, ix_eq rfl, ix_lt rfl⟩, ix_le rfl, Nat.le_refl _, Nat.le_refl _, tp_X12_opens h42 (fun I48 J48 T48 h48 => ?_)⟩
      change ix_W _ _ _ (356, [some (.inr (.inr (.inl (some (204))))), some (.inl (x1)), some (.inl (x2)), some (.inl (x3)), some (.inl (x4))], [], 0, 0, ix_mem 276 I48 J48 T48)
      refine ix_go 3 (x' := (10, [some (.inr (.inr (.inl (some (204))))), some (.inl (x1)), some (.inl ((1 : Int32))), some (.inl (x3)), some (.inl (x4))], [], 0, 0, ix_mem 276 I48 J48 T48)) rfl trivial ?_
      refine ix_subW ([some (.inr (.inr (.inl (some (204))))), some (.inl (x1)), some (.inl ((1 : Int32))), none, none]) (ix_subS (ix_subS (ix_subS (ix_subN (ix_subN (ix_sub0)))))) ?_
      exact hV10 _ _ _ _ _ h48
def wj_X12_sum_j320_10 (x1 : Int32) (x2 : Int32) (x3 : Int32) (s0 : Int32) (I : Nat → Nat → Int32) (J : Nat → Nat → Int64) (T : Option Nat) (V10 : Int32 → Int32 → (Nat → Nat → Int32) → (Nat → Nat → Int64) → Option Nat → Prop) (P : Int32 → (Nat → Nat → Int32) → (Nat → Nat → Int64) → Option Nat → Prop) : Prop := ((s0 = 0 → wj_X12_sum_j335_10_k204 (x1) (x2) (x3) (s0) ((41 : Int32)) I J T V10 P) ∧ (¬ (s0 = 0) → wj_X12_sum_j335_10_k204 (x1) (x2) (x3) (s0) ((44 : Int32)) I J T V10 P))
set_option maxRecDepth 20000 in
theorem tj_X12_sum_j320_10 {d : Nat} {x1 : Int32} {x2 : Int32} {x3 : Int32} {s0 : Int32} {I : Nat → Nat → Int32} {J : Nat → Nat → Int64} {T : Option Nat} {V10 : Int32 → Int32 → (Nat → Nat → Int32) → (Nat → Nat → Int64) → Option Nat → Prop} {P : Int32 → (Nat → Nat → Int32) → (Nat → Nat → Int64) → Option Nat → Prop} {Q : ix_Q} (h : wj_X12_sum_j320_10 x1 x2 x3 s0 I J T V10 P) (hV10 : ∀ (x1 : Int32) (x2 : Int32) I J T, V10 x1 x2 I J T → ix_W (ix_C (d + 3)) (12, ix_lk ix_l264, (some .boolean), 0, 0, Nat.blt 0 0, none) Q (10, [some (.inr (.inr (.inl (some (204))))), some (.inl (x1)), some (.inl (x2)), none, none], [], 0, 0, ix_mem 276 I J T)) (hQ : ∀ v I J T, P v I J T → Q (some (.inl v)) (ix_mem 276 I J T)) : ix_W (ix_C (d + 3)) (12, ix_lk ix_l264, (some .boolean), 0, 0, Nat.blt 0 0, none) Q (320, [some (.inr (.inr (.inl (some (204))))), some (.inl (x1)), some (.inl (x2)), some (.inl (x3)), none], [.inl (s0)], 0, 0, ix_mem 276 I J T) := by
  unfold wj_X12_sum_j320_10 at h
  refine ix_go 4 (x' := (if s0 = 0 then 333 else 328, [some (.inr (.inr (.inl (some (204))))), some (.inl (x1)), some (.inl (x2)), some (.inl (x3)), some (.inl (s0))], [.inr (.inr (.inl (some (204))))], 0, 0, ix_mem 276 I J T)) rfl trivial ?_
  refine ix_br (fun c36 => ?_) (fun c36 => ?_)
  · have h37 := h.1 c36
    refine ix_go 1 (x' := (335, [some (.inr (.inr (.inl (some (204))))), some (.inl (x1)), some (.inl (x2)), some (.inl (x3)), some (.inl (s0))], [.inl ((41 : Int32)), .inr (.inr (.inl (some (204))))], 0, 0, ix_mem 276 I J T)) rfl trivial ?_
    refine ix_subW ([some (.inr (.inr (.inl (some (204))))), some (.inl (x1)), some (.inl (x2)), some (.inl (x3)), some (.inl (s0))]) (ix_subS (ix_subS (ix_subS (ix_subS (ix_subS (ix_sub0)))))) ?_
    exact tj_X12_sum_j335_10_k204 h37 hV10 hQ
  · have h37 := h.2 c36
    refine ix_go 2 (x' := (335, [some (.inr (.inr (.inl (some (204))))), some (.inl (x1)), some (.inl (x2)), some (.inl (x3)), some (.inl (s0))], [.inl ((44 : Int32)), .inr (.inr (.inl (some (204))))], 0, 0, ix_mem 276 I J T)) rfl trivial ?_
    refine ix_subW ([some (.inr (.inr (.inl (some (204))))), some (.inl (x1)), some (.inl (x2)), some (.inl (x3)), some (.inl (s0))]) (ix_subS (ix_subS (ix_subS (ix_subS (ix_subS (ix_sub0)))))) ?_
    exact tj_X12_sum_j335_10_k204 h37 hV10 hQ
def wj_X12_sum_j315_10 (x1 : Int32) (x2 : Int32) (x3 : Int32) (I : Nat → Nat → Int32) (J : Nat → Nat → Int64) (T : Option Nat) (V10 : Int32 → Int32 → (Nat → Nat → Int32) → (Nat → Nat → Int64) → Option Nat → Prop) (P : Int32 → (Nat → Nat → Int32) → (Nat → Nat → Int64) → Option Nat → Prop) : Prop := wj_X12_sum_j320_10 (x1) (x2) (x3) ((1 : Int32)) I J T V10 P
set_option maxRecDepth 20000 in
theorem tj_X12_sum_j315_10 {d : Nat} {x1 : Int32} {x2 : Int32} {x3 : Int32} {I : Nat → Nat → Int32} {J : Nat → Nat → Int64} {T : Option Nat} {V10 : Int32 → Int32 → (Nat → Nat → Int32) → (Nat → Nat → Int64) → Option Nat → Prop} {P : Int32 → (Nat → Nat → Int32) → (Nat → Nat → Int64) → Option Nat → Prop} {Q : ix_Q} (h : wj_X12_sum_j315_10 x1 x2 x3 I J T V10 P) (hV10 : ∀ (x1 : Int32) (x2 : Int32) I J T, V10 x1 x2 I J T → ix_W (ix_C (d + 3)) (12, ix_lk ix_l264, (some .boolean), 0, 0, Nat.blt 0 0, none) Q (10, [some (.inr (.inr (.inl (some (204))))), some (.inl (x1)), some (.inl (x2)), none, none], [], 0, 0, ix_mem 276 I J T)) (hQ : ∀ v I J T, P v I J T → Q (some (.inl v)) (ix_mem 276 I J T)) : ix_W (ix_C (d + 3)) (12, ix_lk ix_l264, (some .boolean), 0, 0, Nat.blt 0 0, none) Q (315, [some (.inr (.inr (.inl (some (204))))), some (.inl (x1)), some (.inl (x2)), some (.inl (x3)), none], [], 0, 0, ix_mem 276 I J T) := by
  unfold wj_X12_sum_j315_10 at h
  refine ix_go 2 (x' := (320, [some (.inr (.inr (.inl (some (204))))), some (.inl (x1)), some (.inl (x2)), some (.inl (x3)), none], [.inl ((1 : Int32))], 0, 0, ix_mem 276 I J T)) rfl trivial ?_
  refine ix_subW ([some (.inr (.inr (.inl (some (204))))), some (.inl (x1)), some (.inl (x2)), some (.inl (x3)), none]) (ix_subS (ix_subS (ix_subS (ix_subS (ix_subS (ix_sub0)))))) ?_
  exact tj_X12_sum_j320_10 h hV10 hQ
def wj_X12_sum_j272_10 (x1 : Int32) (I : Nat → Nat → Int32) (J : Nat → Nat → Int64) (T : Option Nat) (V10 : Int32 → Int32 → (Nat → Nat → Int32) → (Nat → Nat → Int64) → Option Nat → Prop) (P : Int32 → (Nat → Nat → Int32) → (Nat → Nat → Int64) → Option Nat → Prop) : Prop := ix_inb (x1) 16 = true ∧ wp_X12_next (ix_u2 I 235 (x1).toNatClampNeg ((J 204 23).toInt32)) J T (fun I53 J53 T53 => V10 (x1) ((1 : Int32)) I53 J53 T53)
set_option maxRecDepth 20000 in
theorem tj_X12_sum_j272_10 {d : Nat} {x1 : Int32} {I : Nat → Nat → Int32} {J : Nat → Nat → Int64} {T : Option Nat} {V10 : Int32 → Int32 → (Nat → Nat → Int32) → (Nat → Nat → Int64) → Option Nat → Prop} {P : Int32 → (Nat → Nat → Int32) → (Nat → Nat → Int64) → Option Nat → Prop} {Q : ix_Q} (h : wj_X12_sum_j272_10 x1 I J T V10 P) (hV10 : ∀ (x1 : Int32) (x2 : Int32) I J T, V10 x1 x2 I J T → ix_W (ix_C (d + 2)) (12, ix_lk ix_l264, (some .boolean), 0, 0, Nat.blt 0 0, none) Q (10, [some (.inr (.inr (.inl (some (204))))), some (.inl (x1)), some (.inl (x2)), none, none], [], 0, 0, ix_mem 276 I J T)) (hQ : ∀ v I J T, P v I J T → Q (some (.inl v)) (ix_mem 276 I J T)) : ix_W (ix_C (d + 2)) (12, ix_lk ix_l264, (some .boolean), 0, 0, Nat.blt 0 0, none) Q (272, [some (.inr (.inr (.inl (some (204))))), some (.inl (x1)), none, none, none], [], 0, 0, ix_mem 276 I J T) := by
  unfold wj_X12_sum_j272_10 at h
  obtain ⟨p51, h52⟩ := h
  refine ix_go 7 (x' := (283, [some (.inr (.inr (.inl (some (204))))), some (.inl (x1)), none, none, none], [], 0, 0, ix_mem 276 (ix_u2 I 235 (x1).toNatClampNeg ((J 204 23).toInt32)) J T)) rfl ⟨rfl, rfl, rfl, rfl, rfl, rfl, p51⟩ ?_
  refine ix_go 1 (x' := (284, [some (.inr (.inr (.inl (some (204))))), some (.inl (x1)), none, none, none], [.inr (.inr (.inl (some (204))))], 0, 0, ix_mem 276 (ix_u2 I 235 (x1).toNatClampNeg ((J 204 23).toInt32)) J T)) rfl trivial ?_
  refine ix_sp rfl ⟨rfl, ⟨ix_lt rfl, ix_eq rfl, ix_lt rfl⟩, ix_le rfl, Nat.le_refl _, Nat.le_refl _, tp_X12_next h52 (fun I53 J53 T53 h53 => ?_)⟩
  change ix_W _ _ _ (287, [some (.inr (.inr (.inl (some (204))))), some (.inl (x1)), none, none, none], [], 0, 0, ix_mem 276 I53 J53 T53)
  refine ix_go 3 (x' := (10, [some (.inr (.inr (.inl (some (204))))), some (.inl (x1)), some (.inl ((1 : Int32))), none, none], [], 0, 0, ix_mem 276 I53 J53 T53)) rfl trivial ?_
  refine ix_subW ([some (.inr (.inr (.inl (some (204))))), some (.inl (x1)), some (.inl ((1 : Int32))), none, none]) (ix_subS (ix_subS (ix_subS (ix_subS (ix_subS (ix_sub0)))))) ?_
  exact hV10 _ _ _ _ _ h53
def wj_X12_sum_j247_10 (x1 : Int32) (x2 : Int32) (I : Nat → Nat → Int32) (J : Nat → Nat → Int64) (T : Option Nat) (V10 : Int32 → Int32 → (Nat → Nat → Int32) → (Nat → Nat → Int64) → Option Nat → Prop) (P : Int32 → (Nat → Nat → Int32) → (Nat → Nat → Int64) → Option Nat → Prop) : Prop := ix_inb (x1) 16 = true ∧ wp_X12_isSign ((43 : Int32)) (ix_u2 I 235 (x1).toNatClampNeg ((0 : Int32))) J T (fun v24 I24 J24 T24 => ((v24 = 0 → wp_X12_isSign ((45 : Int32)) I24 J24 T24 (fun v27 I27 J27 T27 => ((v27 = 0 → ((x1 = 0 → P ((1 : Int32)) I27 J27 T27) ∧ (¬ (x1 = 0) → ix_inb (x1) 16 = true ∧ ((I27 234 (x1).toNatClampNeg = (1 : Int32) → wj_X12_sum_j315_10 (x1) (x2) (I27 234 (x1).toNatClampNeg) I27 J27 T27 V10 P) ∧ (¬ (I27 234 (x1).toNatClampNeg = (1 : Int32)) → ((I27 234 (x1).toNatClampNeg = (3 : Int32) → wj_X12_sum_j315_10 (x1) (x2) (I27 234 (x1).toNatClampNeg) I27 J27 T27 V10 P) ∧ (¬ (I27 234 (x1).toNatClampNeg = (3 : Int32)) → wj_X12_sum_j320_10 (x1) (x2) (I27 234 (x1).toNatClampNeg) ((0 : Int32)) I27 J27 T27 V10 P))))))) ∧ (¬ (v27 = 0) → wj_X12_sum_j272_10 (x1) I27 J27 T27 V10 P)))) ∧ (¬ (v24 = 0) → wj_X12_sum_j272_10 (x1) I24 J24 T24 V10 P)))
set_option maxRecDepth 20000 in
theorem tj_X12_sum_j247_10 {d : Nat} {x1 : Int32} {x2 : Int32} {I : Nat → Nat → Int32} {J : Nat → Nat → Int64} {T : Option Nat} {V10 : Int32 → Int32 → (Nat → Nat → Int32) → (Nat → Nat → Int64) → Option Nat → Prop} {P : Int32 → (Nat → Nat → Int32) → (Nat → Nat → Int64) → Option Nat → Prop} {Q : ix_Q} (h : wj_X12_sum_j247_10 x1 x2 I J T V10 P) (hV10 : ∀ (x1 : Int32) (x2 : Int32) I J T, V10 x1 x2 I J T → ix_W (ix_C (d + 3)) (12, ix_lk ix_l264, (some .boolean), 0, 0, Nat.blt 0 0, none) Q (10, [some (.inr (.inr (.inl (some (204))))), some (.inl (x1)), some (.inl (x2)), none, none], [], 0, 0, ix_mem 276 I J T)) (hQ : ∀ v I J T, P v I J T → Q (some (.inl v)) (ix_mem 276 I J T)) : ix_W (ix_C (d + 3)) (12, ix_lk ix_l264, (some .boolean), 0, 0, Nat.blt 0 0, none) Q (247, [some (.inr (.inr (.inl (some (204))))), some (.inl (x1)), some (.inl (x2)), none, none], [], 0, 0, ix_mem 276 I J T) := by
  unfold wj_X12_sum_j247_10 at h
  obtain ⟨p22, h23⟩ := h
  refine ix_go 7 (x' := (257, [some (.inr (.inr (.inl (some (204))))), some (.inl (x1)), some (.inl (x2)), none, none], [.inl ((43 : Int32)), .inr (.inr (.inl (some (204))))], 0, 0, ix_mem 276 (ix_u2 I 235 (x1).toNatClampNeg ((0 : Int32))) J T)) rfl ⟨rfl, rfl, rfl, rfl, p22⟩ ?_
  refine ix_sp rfl ⟨rfl, ⟨ix_lt rfl, ix_eq rfl, ix_lt rfl⟩, ix_le rfl, Nat.le_refl _, Nat.le_refl _, tp_X12_isSign h23 (fun v24 I24 J24 T24 h24 => ?_)⟩
  change ix_W _ _ _ (260, [some (.inr (.inr (.inl (some (204))))), some (.inl (x1)), some (.inl (x2)), none, none], [.inl (v24)], 0, 0, ix_mem 276 I24 J24 T24)
  refine ix_go 1 (x' := (if v24 = 0 then 263 else 272, [some (.inr (.inr (.inl (some (204))))), some (.inl (x1)), some (.inl (x2)), none, none], [], 0, 0, ix_mem 276 I24 J24 T24)) rfl trivial ?_
  refine ix_br (fun c25 => ?_) (fun c25 => ?_)
  · have h26 := h24.1 c25
    refine ix_go 2 (x' := (266, [some (.inr (.inr (.inl (some (204))))), some (.inl (x1)), some (.inl (x2)), none, none], [.inl ((45 : Int32)), .inr (.inr (.inl (some (204))))], 0, 0, ix_mem 276 I24 J24 T24)) rfl trivial ?_
    refine ix_sp rfl ⟨rfl, ⟨ix_lt rfl, ix_eq rfl, ix_lt rfl⟩, ix_le rfl, Nat.le_refl _, Nat.le_refl _, tp_X12_isSign h26 (fun v27 I27 J27 T27 h27 => ?_)⟩
    change ix_W _ _ _ (269, [some (.inr (.inr (.inl (some (204))))), some (.inl (x1)), some (.inl (x2)), none, none], [.inl (v27)], 0, 0, ix_mem 276 I27 J27 T27)
    refine ix_go 1 (x' := (if v27 = 0 then 292 else 272, [some (.inr (.inr (.inl (some (204))))), some (.inl (x1)), some (.inl (x2)), none, none], [], 0, 0, ix_mem 276 I27 J27 T27)) rfl trivial ?_
    refine ix_br (fun c28 => ?_) (fun c28 => ?_)
    · have h29 := h27.1 c28
      refine ix_go 2 (x' := (if x1 = 0 then 296 else 298, [some (.inr (.inr (.inl (some (204))))), some (.inl (x1)), some (.inl (x2)), none, none], [], 0, 0, ix_mem 276 I27 J27 T27)) rfl trivial ?_
      refine ix_br (fun c30 => ?_) (fun c30 => ?_)
      · have h31 := h29.1 c30
        refine ix_go 1 (x' := (297, [some (.inr (.inr (.inl (some (204))))), some (.inl (x1)), some (.inl (x2)), none, none], [.inl ((1 : Int32))], 0, 0, ix_mem 276 I27 J27 T27)) rfl trivial ?_
        exact ix_sp rfl ⟨Nat.le_refl _, Nat.le_refl _, ix_01_ok rfl, hQ _ _ _ _ h31⟩
      · have h31 := h29.2 c30
        obtain ⟨p32, h33⟩ := h31
        refine ix_go 7 (x' := (307, [some (.inr (.inr (.inl (some (204))))), some (.inl (x1)), some (.inl (x2)), some (.inl (I27 234 (x1).toNatClampNeg)), none], [.inl ((1 : Int32)), .inl (I27 234 (x1).toNatClampNeg)], 0, 0, ix_mem 276 I27 J27 T27)) rfl ⟨rfl, rfl, rfl, rfl, p32⟩ ?_
        refine ix_go 1 (x' := (if I27 234 (x1).toNatClampNeg = (1 : Int32) then 315 else 310, [some (.inr (.inr (.inl (some (204))))), some (.inl (x1)), some (.inl (x2)), some (.inl (I27 234 (x1).toNatClampNeg)), none], [], 0, 0, ix_mem 276 I27 J27 T27)) rfl trivial ?_
        refine ix_br (fun c34 => ?_) (fun c34 => ?_)
        · have h35 := h33.1 c34
          refine ix_subW ([some (.inr (.inr (.inl (some (204))))), some (.inl (x1)), some (.inl (x2)), some (.inl (I27 234 (x1).toNatClampNeg)), none]) (ix_subS (ix_subS (ix_subS (ix_subS (ix_subS (ix_sub0)))))) ?_
          exact tj_X12_sum_j315_10 h35 hV10 hQ
        · have h35 := h33.2 c34
          refine ix_go 3 (x' := (if I27 234 (x1).toNatClampNeg = (3 : Int32) then 315 else 319, [some (.inr (.inr (.inl (some (204))))), some (.inl (x1)), some (.inl (x2)), some (.inl (I27 234 (x1).toNatClampNeg)), none], [], 0, 0, ix_mem 276 I27 J27 T27)) rfl trivial ?_
          refine ix_br (fun c49 => ?_) (fun c49 => ?_)
          · have h50 := h35.1 c49
            refine ix_subW ([some (.inr (.inr (.inl (some (204))))), some (.inl (x1)), some (.inl (x2)), some (.inl (I27 234 (x1).toNatClampNeg)), none]) (ix_subS (ix_subS (ix_subS (ix_subS (ix_subS (ix_sub0)))))) ?_
            exact tj_X12_sum_j315_10 h50 hV10 hQ
          · have h50 := h35.2 c49
            refine ix_go 1 (x' := (320, [some (.inr (.inr (.inl (some (204))))), some (.inl (x1)), some (.inl (x2)), some (.inl (I27 234 (x1).toNatClampNeg)), none], [.inl ((0 : Int32))], 0, 0, ix_mem 276 I27 J27 T27)) rfl trivial ?_
            refine ix_subW ([some (.inr (.inr (.inl (some (204))))), some (.inl (x1)), some (.inl (x2)), some (.inl (I27 234 (x1).toNatClampNeg)), none]) (ix_subS (ix_subS (ix_subS (ix_subS (ix_subS (ix_sub0)))))) ?_
            exact tj_X12_sum_j320_10 h50 hV10 hQ
    · have h29 := h27.2 c28
      refine ix_subW ([some (.inr (.inr (.inl (some (204))))), some (.inl (x1)), none, none, none]) (ix_subS (ix_subS (ix_subN (ix_subS (ix_subS (ix_sub0)))))) ?_
      exact tj_X12_sum_j272_10 h29 hV10 hQ
  · have h26 := h24.2 c25
    refine ix_subW ([some (.inr (.inr (.inl (some (204))))), some (.inl (x1)), none, none, none]) (ix_subS (ix_subS (ix_subN (ix_subS (ix_subS (ix_sub0)))))) ?_
    exact tj_X12_sum_j272_10 h26 hV10 hQ
def wj_X12_sum_j207_10 (x1 : Int32) (I : Nat → Nat → Int32) (J : Nat → Nat → Int64) (T : Option Nat) (V10 : Int32 → Int32 → (Nat → Nat → Int32) → (Nat → Nat → Int64) → Option Nat → Prop) (P : Int32 → (Nat → Nat → Int32) → (Nat → Nat → Int64) → Option Nat → Prop) : Prop := ix_inb (x1) 16 = true ∧ wp_X12_next (ix_u2 I 236 (x1).toNatClampNeg ((J 204 23).toInt32)) J T (fun I59 J59 T59 => V10 (x1) ((1 : Int32)) I59 J59 T59)
set_option maxRecDepth 20000 in
theorem tj_X12_sum_j207_10 {d : Nat} {x1 : Int32} {I : Nat → Nat → Int32} {J : Nat → Nat → Int64} {T : Option Nat} {V10 : Int32 → Int32 → (Nat → Nat → Int32) → (Nat → Nat → Int64) → Option Nat → Prop} {P : Int32 → (Nat → Nat → Int32) → (Nat → Nat → Int64) → Option Nat → Prop} {Q : ix_Q} (h : wj_X12_sum_j207_10 x1 I J T V10 P) (hV10 : ∀ (x1 : Int32) (x2 : Int32) I J T, V10 x1 x2 I J T → ix_W (ix_C (d + 2)) (12, ix_lk ix_l264, (some .boolean), 0, 0, Nat.blt 0 0, none) Q (10, [some (.inr (.inr (.inl (some (204))))), some (.inl (x1)), some (.inl (x2)), none, none], [], 0, 0, ix_mem 276 I J T)) (hQ : ∀ v I J T, P v I J T → Q (some (.inl v)) (ix_mem 276 I J T)) : ix_W (ix_C (d + 2)) (12, ix_lk ix_l264, (some .boolean), 0, 0, Nat.blt 0 0, none) Q (207, [some (.inr (.inr (.inl (some (204))))), some (.inl (x1)), none, none, none], [], 0, 0, ix_mem 276 I J T) := by
  unfold wj_X12_sum_j207_10 at h
  obtain ⟨p57, h58⟩ := h
  refine ix_go 7 (x' := (218, [some (.inr (.inr (.inl (some (204))))), some (.inl (x1)), none, none, none], [], 0, 0, ix_mem 276 (ix_u2 I 236 (x1).toNatClampNeg ((J 204 23).toInt32)) J T)) rfl ⟨rfl, rfl, rfl, rfl, rfl, rfl, p57⟩ ?_
  refine ix_go 1 (x' := (219, [some (.inr (.inr (.inl (some (204))))), some (.inl (x1)), none, none, none], [.inr (.inr (.inl (some (204))))], 0, 0, ix_mem 276 (ix_u2 I 236 (x1).toNatClampNeg ((J 204 23).toInt32)) J T)) rfl trivial ?_
  refine ix_sp rfl ⟨rfl, ⟨ix_lt rfl, ix_eq rfl, ix_lt rfl⟩, ix_le rfl, Nat.le_refl _, Nat.le_refl _, tp_X12_next h58 (fun I59 J59 T59 h59 => ?_)⟩
  change ix_W _ _ _ (222, [some (.inr (.inr (.inl (some (204))))), some (.inl (x1)), none, none, none], [], 0, 0, ix_mem 276 I59 J59 T59)
  refine ix_go 3 (x' := (10, [some (.inr (.inr (.inl (some (204))))), some (.inl (x1)), some (.inl ((1 : Int32))), none, none], [], 0, 0, ix_mem 276 I59 J59 T59)) rfl trivial ?_
  refine ix_subW ([some (.inr (.inr (.inl (some (204))))), some (.inl (x1)), some (.inl ((1 : Int32))), none, none]) (ix_subS (ix_subS (ix_subS (ix_subS (ix_subS (ix_sub0)))))) ?_
  exact hV10 _ _ _ _ _ h59
def wj_X12_sum_j182_10 (x1 : Int32) (x2 : Int32) (I : Nat → Nat → Int32) (J : Nat → Nat → Int64) (T : Option Nat) (V10 : Int32 → Int32 → (Nat → Nat → Int32) → (Nat → Nat → Int64) → Option Nat → Prop) (P : Int32 → (Nat → Nat → Int32) → (Nat → Nat → Int64) → Option Nat → Prop) : Prop := ix_inb (x1) 16 = true ∧ wp_X12_isSign ((42 : Int32)) (ix_u2 I 236 (x1).toNatClampNeg ((0 : Int32))) J T (fun v12 I12 J12 T12 => ((v12 = 0 → wp_X12_isSign ((47 : Int32)) I12 J12 T12 (fun v15 I15 J15 T15 => ((v15 = 0 → ix_inb (x1) 16 = true ∧ ((I15 235 (x1).toNatClampNeg = 0 → wj_X12_sum_j247_10 (x1) (x2) I15 J15 T15 V10 P) ∧ (¬ (I15 235 (x1).toNatClampNeg = 0) → ix_inb (x1) 16 = true ∧ wp_X12_puts (I15 235 (x1).toNatClampNeg) ((0 : Int64)) I15 J15 T15 (fun I56 J56 T56 => wj_X12_sum_j247_10 (x1) (x2) I56 J56 T56 V10 P)))) ∧ (¬ (v15 = 0) → wj_X12_sum_j207_10 (x1) I15 J15 T15 V10 P)))) ∧ (¬ (v12 = 0) → wj_X12_sum_j207_10 (x1) I12 J12 T12 V10 P)))
set_option maxRecDepth 20000 in
theorem tj_X12_sum_j182_10 {d : Nat} {x1 : Int32} {x2 : Int32} {I : Nat → Nat → Int32} {J : Nat → Nat → Int64} {T : Option Nat} {V10 : Int32 → Int32 → (Nat → Nat → Int32) → (Nat → Nat → Int64) → Option Nat → Prop} {P : Int32 → (Nat → Nat → Int32) → (Nat → Nat → Int64) → Option Nat → Prop} {Q : ix_Q} (h : wj_X12_sum_j182_10 x1 x2 I J T V10 P) (hV10 : ∀ (x1 : Int32) (x2 : Int32) I J T, V10 x1 x2 I J T → ix_W (ix_C (d + 3)) (12, ix_lk ix_l264, (some .boolean), 0, 0, Nat.blt 0 0, none) Q (10, [some (.inr (.inr (.inl (some (204))))), some (.inl (x1)), some (.inl (x2)), none, none], [], 0, 0, ix_mem 276 I J T)) (hQ : ∀ v I J T, P v I J T → Q (some (.inl v)) (ix_mem 276 I J T)) : ix_W (ix_C (d + 3)) (12, ix_lk ix_l264, (some .boolean), 0, 0, Nat.blt 0 0, none) Q (182, [some (.inr (.inr (.inl (some (204))))), some (.inl (x1)), some (.inl (x2)), none, none], [], 0, 0, ix_mem 276 I J T) := by
  unfold wj_X12_sum_j182_10 at h
  obtain ⟨p10, h11⟩ := h
  refine ix_go 7 (x' := (192, [some (.inr (.inr (.inl (some (204))))), some (.inl (x1)), some (.inl (x2)), none, none], [.inl ((42 : Int32)), .inr (.inr (.inl (some (204))))], 0, 0, ix_mem 276 (ix_u2 I 236 (x1).toNatClampNeg ((0 : Int32))) J T)) rfl ⟨rfl, rfl, rfl, rfl, p10⟩ ?_
  refine ix_sp rfl ⟨rfl, ⟨ix_lt rfl, ix_eq rfl, ix_lt rfl⟩, ix_le rfl, Nat.le_refl _, Nat.le_refl _, tp_X12_isSign h11 (fun v12 I12 J12 T12 h12 => ?_)⟩
  change ix_W _ _ _ (195, [some (.inr (.inr (.inl (some (204))))), some (.inl (x1)), some (.inl (x2)), none, none], [.inl (v12)], 0, 0, ix_mem 276 I12 J12 T12)
  refine ix_go 1 (x' := (if v12 = 0 then 198 else 207, [some (.inr (.inr (.inl (some (204))))), some (.inl (x1)), some (.inl (x2)), none, none], [], 0, 0, ix_mem 276 I12 J12 T12)) rfl trivial ?_
  refine ix_br (fun c13 => ?_) (fun c13 => ?_)
  · have h14 := h12.1 c13
    refine ix_go 2 (x' := (201, [some (.inr (.inr (.inl (some (204))))), some (.inl (x1)), some (.inl (x2)), none, none], [.inl ((47 : Int32)), .inr (.inr (.inl (some (204))))], 0, 0, ix_mem 276 I12 J12 T12)) rfl trivial ?_
    refine ix_sp rfl ⟨rfl, ⟨ix_lt rfl, ix_eq rfl, ix_lt rfl⟩, ix_le rfl, Nat.le_refl _, Nat.le_refl _, tp_X12_isSign h14 (fun v15 I15 J15 T15 h15 => ?_)⟩
    change ix_W _ _ _ (204, [some (.inr (.inr (.inl (some (204))))), some (.inl (x1)), some (.inl (x2)), none, none], [.inl (v15)], 0, 0, ix_mem 276 I15 J15 T15)
    refine ix_go 1 (x' := (if v15 = 0 then 227 else 207, [some (.inr (.inr (.inl (some (204))))), some (.inl (x1)), some (.inl (x2)), none, none], [], 0, 0, ix_mem 276 I15 J15 T15)) rfl trivial ?_
    refine ix_br (fun c16 => ?_) (fun c16 => ?_)
    · have h17 := h15.1 c16
      obtain ⟨p18, h19⟩ := h17
      refine ix_go 5 (x' := (if I15 235 (x1).toNatClampNeg = 0 then 247 else 236, [some (.inr (.inr (.inl (some (204))))), some (.inl (x1)), some (.inl (x2)), none, none], [], 0, 0, ix_mem 276 I15 J15 T15)) rfl ⟨rfl, rfl, rfl, rfl, p18⟩ ?_
      refine ix_br (fun c20 => ?_) (fun c20 => ?_)
      · have h21 := h19.1 c20
        refine ix_subW ([some (.inr (.inr (.inl (some (204))))), some (.inl (x1)), some (.inl (x2)), none, none]) (ix_subS (ix_subS (ix_subS (ix_subS (ix_subS (ix_sub0)))))) ?_
        exact tj_X12_sum_j247_10 h21 hV10 hQ
      · have h21 := h19.2 c20
        obtain ⟨p54, h55⟩ := h21
        refine ix_go 6 (x' := (244, [some (.inr (.inr (.inl (some (204))))), some (.inl (x1)), some (.inl (x2)), none, none], [.inr (.inl ((0 : Int64))), .inl (I15 235 (x1).toNatClampNeg), .inr (.inr (.inl (some (204))))], 0, 0, ix_mem 276 I15 J15 T15)) rfl ⟨rfl, rfl, rfl, rfl, p54⟩ ?_
        refine ix_sp rfl ⟨rfl, ⟨ix_lt rfl, ix_eq rfl, ix_lt rfl⟩, ix_le rfl, Nat.le_refl _, Nat.le_refl _, tp_X12_puts h55 (fun I56 J56 T56 h56 => ?_)⟩
        change ix_W _ _ _ (247, [some (.inr (.inr (.inl (some (204))))), some (.inl (x1)), some (.inl (x2)), none, none], [], 0, 0, ix_mem 276 I56 J56 T56)
        refine ix_subW ([some (.inr (.inr (.inl (some (204))))), some (.inl (x1)), some (.inl (x2)), none, none]) (ix_subS (ix_subS (ix_subS (ix_subS (ix_subS (ix_sub0)))))) ?_
        exact tj_X12_sum_j247_10 h56 hV10 hQ
    · have h17 := h15.2 c16
      refine ix_subW ([some (.inr (.inr (.inl (some (204))))), some (.inl (x1)), none, none, none]) (ix_subS (ix_subS (ix_subN (ix_subS (ix_subS (ix_sub0)))))) ?_
      exact tj_X12_sum_j207_10 h17 hV10 hQ
  · have h14 := h12.2 c13
    refine ix_subW ([some (.inr (.inr (.inl (some (204))))), some (.inl (x1)), none, none, none]) (ix_subS (ix_subS (ix_subN (ix_subS (ix_subS (ix_sub0)))))) ?_
    exact tj_X12_sum_j207_10 h14 hV10 hQ
def wj_X12_sum_j96_10_k204 (x1 : Int32) (s1 : Int32) (s2 : Int64) (I : Nat → Nat → Int32) (J : Nat → Nat → Int64) (T : Option Nat) (V10 : Int32 → Int32 → (Nat → Nat → Int32) → (Nat → Nat → Int64) → Option Nat → Prop) (P : Int32 → (Nat → Nat → Int32) → (Nat → Nat → Int64) → Option Nat → Prop) : Prop := wp_X12_puts (s1) (s2) I J T (fun I76 J76 T76 => wp_X12_next I76 J76 T76 (fun I77 J77 T77 => V10 (x1) ((0 : Int32)) I77 J77 T77))
set_option maxRecDepth 20000 in
theorem tj_X12_sum_j96_10_k204 {d : Nat} {x1 : Int32} {s1 : Int32} {s2 : Int64} {I : Nat → Nat → Int32} {J : Nat → Nat → Int64} {T : Option Nat} {V10 : Int32 → Int32 → (Nat → Nat → Int32) → (Nat → Nat → Int64) → Option Nat → Prop} {P : Int32 → (Nat → Nat → Int32) → (Nat → Nat → Int64) → Option Nat → Prop} {Q : ix_Q} (h : wj_X12_sum_j96_10_k204 x1 s1 s2 I J T V10 P) (hV10 : ∀ (x1 : Int32) (x2 : Int32) I J T, V10 x1 x2 I J T → ix_W (ix_C (d + 2)) (12, ix_lk ix_l264, (some .boolean), 0, 0, Nat.blt 0 0, none) Q (10, [some (.inr (.inr (.inl (some (204))))), some (.inl (x1)), some (.inl (x2)), none, none], [], 0, 0, ix_mem 276 I J T)) (hQ : ∀ v I J T, P v I J T → Q (some (.inl v)) (ix_mem 276 I J T)) : ix_W (ix_C (d + 2)) (12, ix_lk ix_l264, (some .boolean), 0, 0, Nat.blt 0 0, none) Q (96, [some (.inr (.inr (.inl (some (204))))), some (.inl (x1)), none, none, none], [.inr (.inl (s2)), .inl (s1), .inr (.inr (.inl (some (204))))], 0, 0, ix_mem 276 I J T) := by
  unfold wj_X12_sum_j96_10_k204 at h
  refine ix_sp rfl ⟨rfl, ⟨ix_lt rfl, ix_eq rfl, ix_lt rfl⟩, ix_le rfl, Nat.le_refl _, Nat.le_refl _, tp_X12_puts h (fun I76 J76 T76 h76 => ?_)⟩
  change ix_W _ _ _ (99, [some (.inr (.inr (.inl (some (204))))), some (.inl (x1)), none, none, none], [], 0, 0, ix_mem 276 I76 J76 T76)
  refine ix_go 1 (x' := (100, [some (.inr (.inr (.inl (some (204))))), some (.inl (x1)), none, none, none], [.inr (.inr (.inl (some (204))))], 0, 0, ix_mem 276 I76 J76 T76)) rfl trivial ?_
  refine ix_sp rfl ⟨rfl, ⟨ix_lt rfl, ix_eq rfl, ix_lt rfl⟩, ix_le rfl, Nat.le_refl _, Nat.le_refl _, tp_X12_next h76 (fun I77 J77 T77 h77 => ?_)⟩
  change ix_W _ _ _ (103, [some (.inr (.inr (.inl (some (204))))), some (.inl (x1)), none, none, none], [], 0, 0, ix_mem 276 I77 J77 T77)
  refine ix_go 3 (x' := (10, [some (.inr (.inr (.inl (some (204))))), some (.inl (x1)), some (.inl ((0 : Int32))), none, none], [], 0, 0, ix_mem 276 I77 J77 T77)) rfl trivial ?_
  refine ix_subW ([some (.inr (.inr (.inl (some (204))))), some (.inl (x1)), some (.inl ((0 : Int32))), none, none]) (ix_subS (ix_subS (ix_subS (ix_subS (ix_subS (ix_sub0)))))) ?_
  exact hV10 _ _ _ _ _ h77
def wj_X12_sum_j82_10_k204 (x1 : Int32) (x3 : Int32) (s1 : Int32) (I : Nat → Nat → Int32) (J : Nat → Nat → Int64) (T : Option Nat) (V10 : Int32 → Int32 → (Nat → Nat → Int32) → (Nat → Nat → Int64) → Option Nat → Prop) (P : Int32 → (Nat → Nat → Int32) → (Nat → Nat → Int64) → Option Nat → Prop) : Prop := ((x3 = (-1 : Int32) → wj_X12_sum_j96_10_k204 (x1) (s1) (J 204 23) I J T V10 P) ∧ (¬ (x3 = (-1 : Int32)) → wj_X12_sum_j96_10_k204 (x1) (s1) ((x3).toInt64) I J T V10 P))
set_option maxRecDepth 20000 in
theorem tj_X12_sum_j82_10_k204 {d : Nat} {x1 : Int32} {x3 : Int32} {s1 : Int32} {I : Nat → Nat → Int32} {J : Nat → Nat → Int64} {T : Option Nat} {V10 : Int32 → Int32 → (Nat → Nat → Int32) → (Nat → Nat → Int64) → Option Nat → Prop} {P : Int32 → (Nat → Nat → Int32) → (Nat → Nat → Int64) → Option Nat → Prop} {Q : ix_Q} (h : wj_X12_sum_j82_10_k204 x1 x3 s1 I J T V10 P) (hV10 : ∀ (x1 : Int32) (x2 : Int32) I J T, V10 x1 x2 I J T → ix_W (ix_C (d + 2)) (12, ix_lk ix_l264, (some .boolean), 0, 0, Nat.blt 0 0, none) Q (10, [some (.inr (.inr (.inl (some (204))))), some (.inl (x1)), some (.inl (x2)), none, none], [], 0, 0, ix_mem 276 I J T)) (hQ : ∀ v I J T, P v I J T → Q (some (.inl v)) (ix_mem 276 I J T)) : ix_W (ix_C (d + 2)) (12, ix_lk ix_l264, (some .boolean), 0, 0, Nat.blt 0 0, none) Q (82, [some (.inr (.inr (.inl (some (204))))), some (.inl (x1)), none, some (.inl (x3)), none], [.inl (s1), .inr (.inr (.inl (some (204))))], 0, 0, ix_mem 276 I J T) := by
  unfold wj_X12_sum_j82_10_k204 at h
  refine ix_go 3 (x' := (if x3 = (-1 : Int32) then 87 else 94, [some (.inr (.inr (.inl (some (204))))), some (.inl (x1)), none, some (.inl (x3)), none], [.inl (s1), .inr (.inr (.inl (some (204))))], 0, 0, ix_mem 276 I J T)) rfl trivial ?_
  refine ix_br (fun c74 => ?_) (fun c74 => ?_)
  · have h75 := h.1 c74
    refine ix_go 3 (x' := (96, [some (.inr (.inr (.inl (some (204))))), some (.inl (x1)), none, some (.inl (x3)), none], [.inr (.inl (J 204 23)), .inl (s1), .inr (.inr (.inl (some (204))))], 0, 0, ix_mem 276 I J T)) rfl ⟨rfl, rfl⟩ ?_
    refine ix_subW ([some (.inr (.inr (.inl (some (204))))), some (.inl (x1)), none, none, none]) (ix_subS (ix_subS (ix_subS (ix_subN (ix_subS (ix_sub0)))))) ?_
    exact tj_X12_sum_j96_10_k204 h75 hV10 hQ
  · have h75 := h.2 c74
    refine ix_go 2 (x' := (96, [some (.inr (.inr (.inl (some (204))))), some (.inl (x1)), none, some (.inl (x3)), none], [.inr (.inl ((x3).toInt64)), .inl (s1), .inr (.inr (.inl (some (204))))], 0, 0, ix_mem 276 I J T)) rfl trivial ?_
    refine ix_subW ([some (.inr (.inr (.inl (some (204))))), some (.inl (x1)), none, none, none]) (ix_subS (ix_subS (ix_subS (ix_subN (ix_subS (ix_sub0)))))) ?_
    exact tj_X12_sum_j96_10_k204 h75 hV10 hQ
def wj_X12_sum_j71_10 (x1 : Int32) (x3 : Int32) (I : Nat → Nat → Int32) (J : Nat → Nat → Int64) (T : Option Nat) (V10 : Int32 → Int32 → (Nat → Nat → Int32) → (Nat → Nat → Int64) → Option Nat → Prop) (P : Int32 → (Nat → Nat → Int32) → (Nat → Nat → Int64) → Option Nat → Prop) : Prop := ((x3 = (-1 : Int32) → wj_X12_sum_j82_10_k204 (x1) (x3) ((0 : Int32)) I J T V10 P) ∧ (¬ (x3 = (-1 : Int32)) → wj_X12_sum_j82_10_k204 (x1) (x3) ((1 : Int32)) I J T V10 P))
set_option maxRecDepth 20000 in
theorem tj_X12_sum_j71_10 {d : Nat} {x1 : Int32} {x3 : Int32} {I : Nat → Nat → Int32} {J : Nat → Nat → Int64} {T : Option Nat} {V10 : Int32 → Int32 → (Nat → Nat → Int32) → (Nat → Nat → Int64) → Option Nat → Prop} {P : Int32 → (Nat → Nat → Int32) → (Nat → Nat → Int64) → Option Nat → Prop} {Q : ix_Q} (h : wj_X12_sum_j71_10 x1 x3 I J T V10 P) (hV10 : ∀ (x1 : Int32) (x2 : Int32) I J T, V10 x1 x2 I J T → ix_W (ix_C (d + 2)) (12, ix_lk ix_l264, (some .boolean), 0, 0, Nat.blt 0 0, none) Q (10, [some (.inr (.inr (.inl (some (204))))), some (.inl (x1)), some (.inl (x2)), none, none], [], 0, 0, ix_mem 276 I J T)) (hQ : ∀ v I J T, P v I J T → Q (some (.inl v)) (ix_mem 276 I J T)) : ix_W (ix_C (d + 2)) (12, ix_lk ix_l264, (some .boolean), 0, 0, Nat.blt 0 0, none) Q (71, [some (.inr (.inr (.inl (some (204))))), some (.inl (x1)), none, some (.inl (x3)), none], [], 0, 0, ix_mem 276 I J T) := by
  unfold wj_X12_sum_j71_10 at h
  refine ix_go 4 (x' := (if x3 = (-1 : Int32) then 77 else 81, [some (.inr (.inr (.inl (some (204))))), some (.inl (x1)), none, some (.inl (x3)), none], [.inr (.inr (.inl (some (204))))], 0, 0, ix_mem 276 I J T)) rfl trivial ?_
  refine ix_br (fun c72 => ?_) (fun c72 => ?_)
  · have h73 := h.1 c72
    refine ix_go 2 (x' := (82, [some (.inr (.inr (.inl (some (204))))), some (.inl (x1)), none, some (.inl (x3)), none], [.inl ((0 : Int32)), .inr (.inr (.inl (some (204))))], 0, 0, ix_mem 276 I J T)) rfl trivial ?_
    refine ix_subW ([some (.inr (.inr (.inl (some (204))))), some (.inl (x1)), none, some (.inl (x3)), none]) (ix_subS (ix_subS (ix_subS (ix_subS (ix_subS (ix_sub0)))))) ?_
    exact tj_X12_sum_j82_10_k204 h73 hV10 hQ
  · have h73 := h.2 c72
    refine ix_go 1 (x' := (82, [some (.inr (.inr (.inl (some (204))))), some (.inl (x1)), none, some (.inl (x3)), none], [.inl ((1 : Int32)), .inr (.inr (.inl (some (204))))], 0, 0, ix_mem 276 I J T)) rfl trivial ?_
    refine ix_subW ([some (.inr (.inr (.inl (some (204))))), some (.inl (x1)), none, some (.inl (x3)), none]) (ix_subS (ix_subS (ix_subS (ix_subS (ix_subS (ix_sub0)))))) ?_
    exact tj_X12_sum_j82_10_k204 h73 hV10 hQ
def wj_X12_sum_j117_10 (x1 : Int32) (x2 : Int32) (x4 : Int32) (I : Nat → Nat → Int32) (J : Nat → Nat → Int64) (T : Option Nat) (V10 : Int32 → Int32 → (Nat → Nat → Int32) → (Nat → Nat → Int64) → Option Nat → Prop) (P : Int32 → (Nat → Nat → Int32) → (Nat → Nat → Int64) → Option Nat → Prop) : Prop := wp_X12_isSign ((40 : Int32)) I J T (fun v82 I82 J82 T82 => ((v82 = 0 → wp_X12_fail ((2 : Int32)) I82 J82 T82 (fun v85 I85 J85 T85 => ix_01 (v85) = true ∧ P (v85) I85 J85 T85)) ∧ (¬ (v82 = 0) → ((x1 = (10 : Int32) → wp_X12_fail ((6 : Int32)) I82 J82 T82 (fun v88 I88 J88 T88 => ix_01 (v88) = true ∧ P (v88) I88 J88 T88)) ∧ (¬ (x1 = (10 : Int32)) → wp_X12_next I82 J82 T82 (fun I89 J89 T89 => wp_X12_opens (x1 + (1 : Int32)) (x4) I89 J89 T89 (fun I90 J90 T90 => V10 (x1 + (1 : Int32)) (x2) I90 J90 T90)))))))
set_option maxRecDepth 20000 in
theorem tj_X12_sum_j117_10 {d : Nat} {x1 : Int32} {x2 : Int32} {x4 : Int32} {I : Nat → Nat → Int32} {J : Nat → Nat → Int64} {T : Option Nat} {V10 : Int32 → Int32 → (Nat → Nat → Int32) → (Nat → Nat → Int64) → Option Nat → Prop} {P : Int32 → (Nat → Nat → Int32) → (Nat → Nat → Int64) → Option Nat → Prop} {Q : ix_Q} (h : wj_X12_sum_j117_10 x1 x2 x4 I J T V10 P) (hV10 : ∀ (x1 : Int32) (x2 : Int32) I J T, V10 x1 x2 I J T → ix_W (ix_C (d + 2)) (12, ix_lk ix_l264, (some .boolean), 0, 0, Nat.blt 0 0, none) Q (10, [some (.inr (.inr (.inl (some (204))))), some (.inl (x1)), some (.inl (x2)), none, none], [], 0, 0, ix_mem 276 I J T)) (hQ : ∀ v I J T, P v I J T → Q (some (.inl v)) (ix_mem 276 I J T)) : ix_W (ix_C (d + 2)) (12, ix_lk ix_l264, (some .boolean), 0, 0, Nat.blt 0 0, none) Q (117, [some (.inr (.inr (.inl (some (204))))), some (.inl (x1)), some (.inl (x2)), none, some (.inl (x4))], [], 0, 0, ix_mem 276 I J T) := by
  unfold wj_X12_sum_j117_10 at h
  refine ix_go 2 (x' := (120, [some (.inr (.inr (.inl (some (204))))), some (.inl (x1)), some (.inl (x2)), none, some (.inl (x4))], [.inl ((40 : Int32)), .inr (.inr (.inl (some (204))))], 0, 0, ix_mem 276 I J T)) rfl trivial ?_
  refine ix_sp rfl ⟨rfl, ⟨ix_lt rfl, ix_eq rfl, ix_lt rfl⟩, ix_le rfl, Nat.le_refl _, Nat.le_refl _, tp_X12_isSign h (fun v82 I82 J82 T82 h82 => ?_)⟩
  change ix_W _ _ _ (123, [some (.inr (.inr (.inl (some (204))))), some (.inl (x1)), some (.inl (x2)), none, some (.inl (x4))], [.inl (v82)], 0, 0, ix_mem 276 I82 J82 T82)
  refine ix_go 1 (x' := (if v82 = 0 then 126 else 132, [some (.inr (.inr (.inl (some (204))))), some (.inl (x1)), some (.inl (x2)), none, some (.inl (x4))], [], 0, 0, ix_mem 276 I82 J82 T82)) rfl trivial ?_
  refine ix_br (fun c83 => ?_) (fun c83 => ?_)
  · have h84 := h82.1 c83
    refine ix_go 2 (x' := (128, [some (.inr (.inr (.inl (some (204))))), some (.inl (x1)), some (.inl (x2)), none, some (.inl (x4))], [.inl ((2 : Int32)), .inr (.inr (.inl (some (204))))], 0, 0, ix_mem 276 I82 J82 T82)) rfl trivial ?_
    refine ix_sp rfl ⟨rfl, ⟨ix_lt rfl, ix_eq rfl, ix_lt rfl⟩, ix_le rfl, Nat.le_refl _, Nat.le_refl _, tp_X12_fail h84 (fun v85 I85 J85 T85 h85 => ?_)⟩
    change ix_W _ _ _ (131, [some (.inr (.inr (.inl (some (204))))), some (.inl (x1)), some (.inl (x2)), none, some (.inl (x4))], [.inl (v85)], 0, 0, ix_mem 276 I85 J85 T85)
    exact ix_sp rfl ⟨Nat.le_refl _, Nat.le_refl _, ix_01_ok h85.1, hQ _ _ _ _ h85.2⟩
  · have h84 := h82.2 c83
    refine ix_go 3 (x' := (if x1 = (10 : Int32) then 138 else 145, [some (.inr (.inr (.inl (some (204))))), some (.inl (x1)), some (.inl (x2)), none, some (.inl (x4))], [], 0, 0, ix_mem 276 I82 J82 T82)) rfl trivial ?_
    refine ix_br (fun c86 => ?_) (fun c86 => ?_)
    · have h87 := h84.1 c86
      refine ix_go 2 (x' := (141, [some (.inr (.inr (.inl (some (204))))), some (.inl (x1)), some (.inl (x2)), none, some (.inl (x4))], [.inl ((6 : Int32)), .inr (.inr (.inl (some (204))))], 0, 0, ix_mem 276 I82 J82 T82)) rfl trivial ?_
      refine ix_sp rfl ⟨rfl, ⟨ix_lt rfl, ix_eq rfl, ix_lt rfl⟩, ix_le rfl, Nat.le_refl _, Nat.le_refl _, tp_X12_fail h87 (fun v88 I88 J88 T88 h88 => ?_)⟩
      change ix_W _ _ _ (144, [some (.inr (.inr (.inl (some (204))))), some (.inl (x1)), some (.inl (x2)), none, some (.inl (x4))], [.inl (v88)], 0, 0, ix_mem 276 I88 J88 T88)
      exact ix_sp rfl ⟨Nat.le_refl _, Nat.le_refl _, ix_01_ok h88.1, hQ _ _ _ _ h88.2⟩
    · have h87 := h84.2 c86
      refine ix_go 1 (x' := (146, [some (.inr (.inr (.inl (some (204))))), some (.inl (x1)), some (.inl (x2)), none, some (.inl (x4))], [.inr (.inr (.inl (some (204))))], 0, 0, ix_mem 276 I82 J82 T82)) rfl trivial ?_
      refine ix_sp rfl ⟨rfl, ⟨ix_lt rfl, ix_eq rfl, ix_lt rfl⟩, ix_le rfl, Nat.le_refl _, Nat.le_refl _, tp_X12_next h87 (fun I89 J89 T89 h89 => ?_)⟩
      change ix_W _ _ _ (149, [some (.inr (.inr (.inl (some (204))))), some (.inl (x1)), some (.inl (x2)), none, some (.inl (x4))], [], 0, 0, ix_mem 276 I89 J89 T89)
      refine ix_go 4 (x' := (156, [some (.inr (.inr (.inl (some (204))))), some (.inl (x1 + (1 : Int32))), some (.inl (x2)), none, some (.inl (x4))], [.inl (x4), .inl (x1 + (1 : Int32)), .inr (.inr (.inl (some (204))))], 0, 0, ix_mem 276 I89 J89 T89)) rfl trivial ?_
      refine ix_sp rfl ⟨rfl, ⟨ix_lt rfl, ix_eq rfl, ix_lt rfl⟩, ix_le rfl, Nat.le_refl _, Nat.le_refl _, tp_X12_opens h89 (fun I90 J90 T90 h90 => ?_)⟩
      change ix_W _ _ _ (159, [some (.inr (.inr (.inl (some (204))))), some (.inl (x1 + (1 : Int32))), some (.inl (x2)), none, some (.inl (x4))], [], 0, 0, ix_mem 276 I90 J90 T90)
      refine ix_go 1 (x' := (10, [some (.inr (.inr (.inl (some (204))))), some (.inl (x1 + (1 : Int32))), some (.inl (x2)), none, some (.inl (x4))], [], 0, 0, ix_mem 276 I90 J90 T90)) rfl trivial ?_
      refine ix_subW ([some (.inr (.inr (.inl (some (204))))), some (.inl (x1 + (1 : Int32))), some (.inl (x2)), none, none]) (ix_subS (ix_subS (ix_subS (ix_subS (ix_subN (ix_sub0)))))) ?_
      exact hV10 _ _ _ _ _ h90
def wj_X12_sum_j56_10 (x1 : Int32) (x2 : Int32) (x3 : Int32) (s0 : Int32) (I : Nat → Nat → Int32) (J : Nat → Nat → Int64) (T : Option Nat) (V10 : Int32 → Int32 → (Nat → Nat → Int32) → (Nat → Nat → Int64) → Option Nat → Prop) (P : Int32 → (Nat → Nat → Int32) → (Nat → Nat → Int64) → Option Nat → Prop) : Prop := ((I 204 17 = (3 : Int32) → wj_X12_sum_j71_10 (x1) (x3) I J T V10 P) ∧ (¬ (I 204 17 = (3 : Int32)) → ((x3 = (-1 : Int32) → ((s0 ≤ 0 → wj_X12_sum_j117_10 (x1) (x2) (s0) I J T V10 P) ∧ (¬ (s0 ≤ 0) → wp_X12_next I J T (fun I91 J91 T91 => wj_X12_sum_j117_10 (x1) (x2) (s0) I91 J91 T91 V10 P)))) ∧ (¬ (x3 = (-1 : Int32)) → wj_X12_sum_j71_10 (x1) (x3) I J T V10 P))))
set_option maxRecDepth 20000 in
theorem tj_X12_sum_j56_10 {d : Nat} {x1 : Int32} {x2 : Int32} {x3 : Int32} {s0 : Int32} {I : Nat → Nat → Int32} {J : Nat → Nat → Int64} {T : Option Nat} {V10 : Int32 → Int32 → (Nat → Nat → Int32) → (Nat → Nat → Int64) → Option Nat → Prop} {P : Int32 → (Nat → Nat → Int32) → (Nat → Nat → Int64) → Option Nat → Prop} {Q : ix_Q} (h : wj_X12_sum_j56_10 x1 x2 x3 s0 I J T V10 P) (hV10 : ∀ (x1 : Int32) (x2 : Int32) I J T, V10 x1 x2 I J T → ix_W (ix_C (d + 2)) (12, ix_lk ix_l264, (some .boolean), 0, 0, Nat.blt 0 0, none) Q (10, [some (.inr (.inr (.inl (some (204))))), some (.inl (x1)), some (.inl (x2)), none, none], [], 0, 0, ix_mem 276 I J T)) (hQ : ∀ v I J T, P v I J T → Q (some (.inl v)) (ix_mem 276 I J T)) : ix_W (ix_C (d + 2)) (12, ix_lk ix_l264, (some .boolean), 0, 0, Nat.blt 0 0, none) Q (56, [some (.inr (.inr (.inl (some (204))))), some (.inl (x1)), some (.inl (x2)), some (.inl (x3)), none], [.inl (s0)], 0, 0, ix_mem 276 I J T) := by
  unfold wj_X12_sum_j56_10 at h
  refine ix_go 5 (x' := (if I 204 17 = (3 : Int32) then 71 else 66, [some (.inr (.inr (.inl (some (204))))), some (.inl (x1)), some (.inl (x2)), some (.inl (x3)), some (.inl (s0))], [], 0, 0, ix_mem 276 I J T)) rfl ⟨rfl, rfl⟩ ?_
  refine ix_br (fun c70 => ?_) (fun c70 => ?_)
  · have h71 := h.1 c70
    refine ix_subW ([some (.inr (.inr (.inl (some (204))))), some (.inl (x1)), none, some (.inl (x3)), none]) (ix_subS (ix_subS (ix_subN (ix_subS (ix_subN (ix_sub0)))))) ?_
    exact tj_X12_sum_j71_10 h71 hV10 hQ
  · have h71 := h.2 c70
    refine ix_go 3 (x' := (if x3 = (-1 : Int32) then 108 else 71, [some (.inr (.inr (.inl (some (204))))), some (.inl (x1)), some (.inl (x2)), some (.inl (x3)), some (.inl (s0))], [], 0, 0, ix_mem 276 I J T)) rfl trivial ?_
    refine ix_br (fun c78 => ?_) (fun c78 => ?_)
    · have h79 := h71.1 c78
      refine ix_go 2 (x' := (if s0 ≤ 0 then 117 else 113, [some (.inr (.inr (.inl (some (204))))), some (.inl (x1)), some (.inl (x2)), some (.inl (x3)), some (.inl (s0))], [], 0, 0, ix_mem 276 I J T)) rfl trivial ?_
      refine ix_br (fun c80 => ?_) (fun c80 => ?_)
      · have h81 := h79.1 c80
        refine ix_subW ([some (.inr (.inr (.inl (some (204))))), some (.inl (x1)), some (.inl (x2)), none, some (.inl (s0))]) (ix_subS (ix_subS (ix_subS (ix_subN (ix_subS (ix_sub0)))))) ?_
        exact tj_X12_sum_j117_10 h81 hV10 hQ
      · have h81 := h79.2 c80
        refine ix_go 1 (x' := (114, [some (.inr (.inr (.inl (some (204))))), some (.inl (x1)), some (.inl (x2)), some (.inl (x3)), some (.inl (s0))], [.inr (.inr (.inl (some (204))))], 0, 0, ix_mem 276 I J T)) rfl trivial ?_
        refine ix_sp rfl ⟨rfl, ⟨ix_lt rfl, ix_eq rfl, ix_lt rfl⟩, ix_le rfl, Nat.le_refl _, Nat.le_refl _, tp_X12_next h81 (fun I91 J91 T91 h91 => ?_)⟩
        change ix_W _ _ _ (117, [some (.inr (.inr (.inl (some (204))))), some (.inl (x1)), some (.inl (x2)), some (.inl (x3)), some (.inl (s0))], [], 0, 0, ix_mem 276 I91 J91 T91)
        refine ix_subW ([some (.inr (.inr (.inl (some (204))))), some (.inl (x1)), some (.inl (x2)), none, some (.inl (s0))]) (ix_subS (ix_subS (ix_subS (ix_subN (ix_subS (ix_sub0)))))) ?_
        exact tj_X12_sum_j117_10 h91 hV10 hQ
    · have h79 := h71.2 c78
      refine ix_subW ([some (.inr (.inr (.inl (some (204))))), some (.inl (x1)), none, some (.inl (x3)), none]) (ix_subS (ix_subS (ix_subN (ix_subS (ix_subN (ix_sub0)))))) ?_
      exact tj_X12_sum_j71_10 h79 hV10 hQ
def wb_X12_sum_10 (x1 : Int32) (x2 : Int32) (I : Nat → Nat → Int32) (J : Nat → Nat → Int64) (T : Option Nat) (V10 : Int32 → Int32 → (Nat → Nat → Int32) → (Nat → Nat → Int64) → Option Nat → Prop) (P : Int32 → (Nat → Nat → Int32) → (Nat → Nat → Int64) → Option Nat → Prop) : Prop := ((I 204 22 = 0 → ((x2 = 0 → ix_inb (x1) 16 = true ∧ ((I 236 (x1).toNatClampNeg = 0 → wj_X12_sum_j182_10 (x1) (x2) I J T V10 P) ∧ (¬ (I 236 (x1).toNatClampNeg = 0) → ix_inb (x1) 16 = true ∧ wp_X12_puts (I 236 (x1).toNatClampNeg) ((0 : Int64)) I J T (fun I62 J62 T62 => wj_X12_sum_j182_10 (x1) (x2) I62 J62 T62 V10 P)))) ∧ (¬ (x2 = 0) → wp_X12_inWords_rs4 I J T (fun v63 I63 J63 T63 => wp_X12_isKey ((9 : Int32)) I63 J63 T63 (fun v64 I64 J64 T64 => ((v64 = 0 → wp_X12_isKey ((10 : Int32)) I64 J64 T64 (fun v67 I67 J67 T67 => ((v67 = 0 → wj_X12_sum_j56_10 (x1) (x2) (v63) ((0 : Int32)) I67 J67 T67 V10 P) ∧ (¬ (v67 = 0) → wj_X12_sum_j56_10 (x1) (x2) (v63) ((3 : Int32)) I67 J67 T67 V10 P)))) ∧ (¬ (v64 = 0) → wj_X12_sum_j56_10 (x1) (x2) (v63) ((1 : Int32)) I64 J64 T64 V10 P))))))) ∧ (¬ (I 204 22 = 0) → P ((0 : Int32)) I J T))
def wl_X12_sum_10 (x1 : Int32) (x2 : Int32) (I : Nat → Nat → Int32) (J : Nat → Nat → Int64) (T : Option Nat) (P : Int32 → (Nat → Nat → Int32) → (Nat → Nat → Int64) → Option Nat → Prop) : Prop := ∀ V : Int32 → Int32 → (Nat → Nat → Int32) → (Nat → Nat → Int64) → Option Nat → Prop, (∀ (x1 : Int32) (x2 : Int32) (I : Nat → Nat → Int32) (J : Nat → Nat → Int64) (T : Option Nat), wb_X12_sum_10 x1 x2 I J T V P → V x1 x2 I J T) → V x1 x2 I J T
set_option maxRecDepth 20000 in
theorem tl_X12_sum_10 {d : Nat} {x1 : Int32} {x2 : Int32} {I : Nat → Nat → Int32} {J : Nat → Nat → Int64} {T : Option Nat} {P : Int32 → (Nat → Nat → Int32) → (Nat → Nat → Int64) → Option Nat → Prop} {Q : ix_Q} (h : wl_X12_sum_10 x1 x2 I J T P) (hQ : ∀ v I J T, P v I J T → Q (some (.inl v)) (ix_mem 276 I J T)) : ix_W (ix_C (d + 4)) (12, ix_lk ix_l264, (some .boolean), 0, 0, Nat.blt 0 0, none) Q (10, [some (.inr (.inr (.inl (some (204))))), some (.inl (x1)), some (.inl (x2)), none, none], [], 0, 0, ix_mem 276 I J T) := by
  refine h (fun x1 x2 I J T => ix_W (ix_C (d + 4)) (12, ix_lk ix_l264, (some .boolean), 0, 0, Nat.blt 0 0, none) Q (10, [some (.inr (.inr (.inl (some (204))))), some (.inl (x1)), some (.inl (x2)), none, none], [], 0, 0, ix_mem 276 I J T)) ?_
  intro x1 x2 I J T hb
  unfold wb_X12_sum_10 at hb
  refine ix_go 3 (x' := (if I 204 22 = 0 then 17 else 388, [some (.inr (.inr (.inl (some (204))))), some (.inl (x1)), some (.inl (x2)), none, none], [], 0, 0, ix_mem 276 I J T)) rfl ⟨rfl, rfl⟩ ?_
  refine ix_br (fun c2 => ?_) (fun c2 => ?_)
  · have h3 := hb.1 c2
    refine ix_go 2 (x' := (if x2 = 0 then 162 else 21, [some (.inr (.inr (.inl (some (204))))), some (.inl (x1)), some (.inl (x2)), none, none], [], 0, 0, ix_mem 276 I J T)) rfl trivial ?_
    refine ix_br (fun c4 => ?_) (fun c4 => ?_)
    · have h5 := h3.1 c4
      obtain ⟨p6, h7⟩ := h5
      refine ix_go 5 (x' := (if I 236 (x1).toNatClampNeg = 0 then 182 else 171, [some (.inr (.inr (.inl (some (204))))), some (.inl (x1)), some (.inl (x2)), none, none], [], 0, 0, ix_mem 276 I J T)) rfl ⟨rfl, rfl, rfl, rfl, p6⟩ ?_
      refine ix_br (fun c8 => ?_) (fun c8 => ?_)
      · have h9 := h7.1 c8
        refine ix_subW ([some (.inr (.inr (.inl (some (204))))), some (.inl (x1)), some (.inl (x2)), none, none]) (ix_subS (ix_subS (ix_subS (ix_subS (ix_subS (ix_sub0)))))) ?_
        exact tj_X12_sum_j182_10 h9 (fun _ _ I J T hv => hv) hQ
      · have h9 := h7.2 c8
        obtain ⟨p60, h61⟩ := h9
        refine ix_go 6 (x' := (179, [some (.inr (.inr (.inl (some (204))))), some (.inl (x1)), some (.inl (x2)), none, none], [.inr (.inl ((0 : Int64))), .inl (I 236 (x1).toNatClampNeg), .inr (.inr (.inl (some (204))))], 0, 0, ix_mem 276 I J T)) rfl ⟨rfl, rfl, rfl, rfl, p60⟩ ?_
        refine ix_sp rfl ⟨rfl, ⟨ix_lt rfl, ix_eq rfl, ix_lt rfl⟩, ix_le rfl, Nat.le_refl _, Nat.le_refl _, tp_X12_puts h61 (fun I62 J62 T62 h62 => ?_)⟩
        change ix_W _ _ _ (182, [some (.inr (.inr (.inl (some (204))))), some (.inl (x1)), some (.inl (x2)), none, none], [], 0, 0, ix_mem 276 I62 J62 T62)
        refine ix_subW ([some (.inr (.inr (.inl (some (204))))), some (.inl (x1)), some (.inl (x2)), none, none]) (ix_subS (ix_subS (ix_subS (ix_subS (ix_subS (ix_sub0)))))) ?_
        exact tj_X12_sum_j182_10 h62 (fun _ _ I J T hv => hv) hQ
    · have h5 := h3.2 c4
      refine ix_go 2 (x' := (25, [some (.inr (.inr (.inl (some (204))))), some (.inl (x1)), some (.inl (x2)), none, none], [.inr (.inr (.inr 4)), .inr (.inr (.inl (some (204))))], 0, 0, ix_mem 276 I J T)) rfl trivial ?_
      refine ix_sp rfl ⟨rfl, ⟨ix_lt rfl, ix_eq rfl, ix_lt rfl⟩, ix_le rfl, Nat.le_refl _, Nat.le_refl _, tp_X12_inWords_rs4 h5 (fun v63 I63 J63 T63 h63 => ?_)⟩
      change ix_W _ _ _ (28, [some (.inr (.inr (.inl (some (204))))), some (.inl (x1)), some (.inl (x2)), none, none], [.inl (v63)], 0, 0, ix_mem 276 I63 J63 T63)
      refine ix_go 3 (x' := (32, [some (.inr (.inr (.inl (some (204))))), some (.inl (x1)), some (.inl (x2)), some (.inl (v63)), none], [.inl ((9 : Int32)), .inr (.inr (.inl (some (204))))], 0, 0, ix_mem 276 I63 J63 T63)) rfl trivial ?_
      refine ix_sp rfl ⟨rfl, ⟨ix_lt rfl, ix_eq rfl, ix_lt rfl⟩, ix_le rfl, Nat.le_refl _, Nat.le_refl _, tp_X12_isKey h63 (fun v64 I64 J64 T64 h64 => ?_)⟩
      change ix_W _ _ _ (35, [some (.inr (.inr (.inl (some (204))))), some (.inl (x1)), some (.inl (x2)), some (.inl (v63)), none], [.inl (v64)], 0, 0, ix_mem 276 I64 J64 T64)
      refine ix_go 1 (x' := (if v64 = 0 then 42 else 38, [some (.inr (.inr (.inl (some (204))))), some (.inl (x1)), some (.inl (x2)), some (.inl (v63)), none], [], 0, 0, ix_mem 276 I64 J64 T64)) rfl trivial ?_
      refine ix_br (fun c65 => ?_) (fun c65 => ?_)
      · have h66 := h64.1 c65
        refine ix_go 2 (x' := (45, [some (.inr (.inr (.inl (some (204))))), some (.inl (x1)), some (.inl (x2)), some (.inl (v63)), none], [.inl ((10 : Int32)), .inr (.inr (.inl (some (204))))], 0, 0, ix_mem 276 I64 J64 T64)) rfl trivial ?_
        refine ix_sp rfl ⟨rfl, ⟨ix_lt rfl, ix_eq rfl, ix_lt rfl⟩, ix_le rfl, Nat.le_refl _, Nat.le_refl _, tp_X12_isKey h66 (fun v67 I67 J67 T67 h67 => ?_)⟩
        change ix_W _ _ _ (48, [some (.inr (.inr (.inl (some (204))))), some (.inl (x1)), some (.inl (x2)), some (.inl (v63)), none], [.inl (v67)], 0, 0, ix_mem 276 I67 J67 T67)
        refine ix_go 1 (x' := (if v67 = 0 then 55 else 51, [some (.inr (.inr (.inl (some (204))))), some (.inl (x1)), some (.inl (x2)), some (.inl (v63)), none], [], 0, 0, ix_mem 276 I67 J67 T67)) rfl trivial ?_
        refine ix_br (fun c68 => ?_) (fun c68 => ?_)
        · have h69 := h67.1 c68
          refine ix_go 1 (x' := (56, [some (.inr (.inr (.inl (some (204))))), some (.inl (x1)), some (.inl (x2)), some (.inl (v63)), none], [.inl ((0 : Int32))], 0, 0, ix_mem 276 I67 J67 T67)) rfl trivial ?_
          refine ix_subW ([some (.inr (.inr (.inl (some (204))))), some (.inl (x1)), some (.inl (x2)), some (.inl (v63)), none]) (ix_subS (ix_subS (ix_subS (ix_subS (ix_subS (ix_sub0)))))) ?_
          exact tj_X12_sum_j56_10 h69 (fun _ _ I J T hv => hv) hQ
        · have h69 := h67.2 c68
          refine ix_go 2 (x' := (56, [some (.inr (.inr (.inl (some (204))))), some (.inl (x1)), some (.inl (x2)), some (.inl (v63)), none], [.inl ((3 : Int32))], 0, 0, ix_mem 276 I67 J67 T67)) rfl trivial ?_
          refine ix_subW ([some (.inr (.inr (.inl (some (204))))), some (.inl (x1)), some (.inl (x2)), some (.inl (v63)), none]) (ix_subS (ix_subS (ix_subS (ix_subS (ix_subS (ix_sub0)))))) ?_
          exact tj_X12_sum_j56_10 h69 (fun _ _ I J T hv => hv) hQ
      · have h66 := h64.2 c65
        refine ix_go 2 (x' := (56, [some (.inr (.inr (.inl (some (204))))), some (.inl (x1)), some (.inl (x2)), some (.inl (v63)), none], [.inl ((1 : Int32))], 0, 0, ix_mem 276 I64 J64 T64)) rfl trivial ?_
        refine ix_subW ([some (.inr (.inr (.inl (some (204))))), some (.inl (x1)), some (.inl (x2)), some (.inl (v63)), none]) (ix_subS (ix_subS (ix_subS (ix_subS (ix_subS (ix_sub0)))))) ?_
        exact tj_X12_sum_j56_10 h66 (fun _ _ I J T hv => hv) hQ
  · have h3 := hb.2 c2
    refine ix_go 1 (x' := (389, [some (.inr (.inr (.inl (some (204))))), some (.inl (x1)), some (.inl (x2)), none, none], [.inl ((0 : Int32))], 0, 0, ix_mem 276 I J T)) rfl trivial ?_
    exact ix_sp rfl ⟨Nat.le_refl _, Nat.le_refl _, ix_01_ok rfl, hQ _ _ _ _ h3⟩
def wp_X12_sum (I : Nat → Nat → Int32) (J : Nat → Nat → Int64) (T : Option Nat) (P : Int32 → (Nat → Nat → Int32) → (Nat → Nat → Int64) → Option Nat → Prop) : Prop := wp_X12_opens ((0 : Int32)) ((0 : Int32)) I J T (fun I1 J1 T1 => wl_X12_sum_10 ((0 : Int32)) ((1 : Int32)) I1 J1 T1 P)
set_option maxRecDepth 20000 in
theorem tp_X12_sum {d : Nat} {I : Nat → Nat → Int32} {J : Nat → Nat → Int64} {T : Option Nat} {P : Int32 → (Nat → Nat → Int32) → (Nat → Nat → Int64) → Option Nat → Prop} {Q : ix_Q} (h : wp_X12_sum I J T P) (hQ : ∀ v I J T, P v I J T → Q (some (.inl v)) (ix_mem 276 I J T)) : ix_C (d + 5) 264 [.inr (.inr (.inl (some (204))))] (ix_mem 276 I J T) Q := by
  unfold wp_X12_sum at h
  refine ix_enter (ls := [some (.inr (.inr (.inl (some (204))))), none, none, none, none]) rfl rfl rfl (Nat.le_of_ble_eq_true rfl) ?_
  refine ix_go 5 (x' := (5, [some (.inr (.inr (.inl (some (204))))), some (.inl ((0 : Int32))), none, none, none], [.inl ((0 : Int32)), .inl ((0 : Int32)), .inr (.inr (.inl (some (204))))], 0, 0, ix_mem 276 I J T)) rfl trivial ?_
  refine ix_sp rfl ⟨rfl, ⟨ix_lt rfl, ix_eq rfl, ix_lt rfl⟩, ix_le rfl, Nat.le_refl _, Nat.le_refl _, tp_X12_opens h (fun I1 J1 T1 h1 => ?_)⟩
  change ix_W _ _ _ (8, [some (.inr (.inr (.inl (some (204))))), some (.inl ((0 : Int32))), none, none, none], [], 0, 0, ix_mem 276 I1 J1 T1)
  refine ix_go 2 (x' := (10, [some (.inr (.inr (.inl (some (204))))), some (.inl ((0 : Int32))), some (.inl ((1 : Int32))), none, none], [], 0, 0, ix_mem 276 I1 J1 T1)) rfl trivial ?_
  refine ix_subW ([some (.inr (.inr (.inl (some (204))))), some (.inl ((0 : Int32))), some (.inl ((1 : Int32))), none, none]) (ix_subS (ix_subS (ix_subS (ix_subS (ix_subS (ix_sub0)))))) ?_
  exact tl_X12_sum_10 h1 hQ
