def wj_X12_list_j72_2 (x1 : Int32) (x2 : Int32) (I : Nat → Nat → Int32) (J : Nat → Nat → Int64) (T : Option Nat) (V2 : Int32 → (Nat → Nat → Int32) → (Nat → Nat → Int64) → Option Nat → Prop) (P : Int32 → (Nat → Nat → Int32) → (Nat → Nat → Int64) → Option Nat → Prop) : Prop := ((x2 = 0 → P (x1) I J T) ∧ (¬ (x2 = 0) → wp_X12_next I J T (fun I9 J9 T9 => wp_X12_isSign ((44 : Int32)) I9 J9 T9 (fun v10 I10 J10 T10 => ((v10 = 0 → P ((x1) ||| (((1 : Int32)) <<< (((J 204 23).toInt32) &&& 31))) I10 J10 T10) ∧ (¬ (v10 = 0) → wp_X12_next I10 J10 T10 (fun I13 J13 T13 => V2 ((x1) ||| (((1 : Int32)) <<< (((J 204 23).toInt32) &&& 31))) I13 J13 T13)))))))
set_option maxRecDepth 20000 in
theorem tj_X12_list_j72_2 {d : Nat} {x1 : Int32} {x2 : Int32} {I : Nat → Nat → Int32} {J : Nat → Nat → Int64} {T : Option Nat} {V2 : Int32 → (Nat → Nat → Int32) → (Nat → Nat → Int64) → Option Nat → Prop} {P : Int32 → (Nat → Nat → Int32) → (Nat → Nat → Int64) → Option Nat → Prop} {Q : ix_Q} (h : wj_X12_list_j72_2 x1 x2 I J T V2 P) (hV2 : ∀ (x1 : Int32) I J T, V2 x1 I J T → ix_W (ix_C (d + 2)) (12, ix_lk ix_l265, (some .int), 0, 0, Nat.blt 0 0, none) Q (2, [some (.inr (.inr (.inl (some (204))))), some (.inl (x1)), none], [], 0, 0, ix_mem 276 I J T)) (hQ : ∀ v I J T, P v I J T → Q (some (.inl v)) (ix_mem 276 I J T)) : ix_W (ix_C (d + 2)) (12, ix_lk ix_l265, (some .int), 0, 0, Nat.blt 0 0, none) Q (72, [some (.inr (.inr (.inl (some (204))))), some (.inl (x1)), some (.inl (x2))], [], 0, 0, ix_mem 276 I J T) := by
  unfold wj_X12_list_j72_2 at h
  refine ix_go 2 (x' := (if x2 = 0 then 76 else 78, [some (.inr (.inr (.inl (some (204))))), some (.inl (x1)), some (.inl (x2))], [], 0, 0, ix_mem 276 I J T)) rfl trivial ?_
  refine ix_br (fun c7 => ?_) (fun c7 => ?_)
  · have h8 := h.1 c7
    refine ix_go 1 (x' := (77, [some (.inr (.inr (.inl (some (204))))), some (.inl (x1)), some (.inl (x2))], [.inl (x1)], 0, 0, ix_mem 276 I J T)) rfl trivial ?_
    exact ix_sp rfl ⟨Nat.le_refl _, Nat.le_refl _, trivial, hQ _ _ _ _ h8⟩
  · have h8 := h.2 c7
    refine ix_go 7 (x' := (87, [some (.inr (.inr (.inl (some (204))))), some (.inl (x1)), some (.inl (x2))], [.inl ((x1) ||| (((1 : Int32)) <<< (((J 204 23).toInt32) &&& 31)))], 0, 0, ix_mem 276 I J T)) rfl ⟨rfl, rfl⟩ ?_
    refine ix_go 2 (x' := (89, [some (.inr (.inr (.inl (some (204))))), some (.inl ((x1) ||| (((1 : Int32)) <<< (((J 204 23).toInt32) &&& 31)))), some (.inl (x2))], [.inr (.inr (.inl (some (204))))], 0, 0, ix_mem 276 I J T)) rfl trivial ?_
    refine ix_sp rfl ⟨rfl, ⟨ix_lt rfl, ix_eq rfl, ix_lt rfl⟩, ix_le rfl, Nat.le_refl _, Nat.le_refl _, tp_X12_next h8 (fun I9 J9 T9 h9 => ?_)⟩
    change ix_W _ _ _ (92, [some (.inr (.inr (.inl (some (204))))), some (.inl ((x1) ||| (((1 : Int32)) <<< (((J 204 23).toInt32) &&& 31)))), some (.inl (x2))], [], 0, 0, ix_mem 276 I9 J9 T9)
    refine ix_go 2 (x' := (95, [some (.inr (.inr (.inl (some (204))))), some (.inl ((x1) ||| (((1 : Int32)) <<< (((J 204 23).toInt32) &&& 31)))), some (.inl (x2))], [.inl ((44 : Int32)), .inr (.inr (.inl (some (204))))], 0, 0, ix_mem 276 I9 J9 T9)) rfl trivial ?_
    refine ix_sp rfl ⟨rfl, ⟨ix_lt rfl, ix_eq rfl, ix_lt rfl⟩, ix_le rfl, Nat.le_refl _, Nat.le_refl _, tp_X12_isSign h9 (fun v10 I10 J10 T10 h10 => ?_)⟩
    change ix_W _ _ _ (98, [some (.inr (.inr (.inl (some (204))))), some (.inl ((x1) ||| (((1 : Int32)) <<< (((J 204 23).toInt32) &&& 31)))), some (.inl (x2))], [.inl (v10)], 0, 0, ix_mem 276 I10 J10 T10)
    refine ix_go 1 (x' := (if v10 = 0 then 101 else 103, [some (.inr (.inr (.inl (some (204))))), some (.inl ((x1) ||| (((1 : Int32)) <<< (((J 204 23).toInt32) &&& 31)))), some (.inl (x2))], [], 0, 0, ix_mem 276 I10 J10 T10)) rfl trivial ?_
    refine ix_br (fun c11 => ?_) (fun c11 => ?_)
    · have h12 := h10.1 c11
      refine ix_go 1 (x' := (102, [some (.inr (.inr (.inl (some (204))))), some (.inl ((x1) ||| (((1 : Int32)) <<< (((J 204 23).toInt32) &&& 31)))), some (.inl (x2))], [.inl ((x1) ||| (((1 : Int32)) <<< (((J 204 23).toInt32) &&& 31)))], 0, 0, ix_mem 276 I10 J10 T10)) rfl trivial ?_
      exact ix_sp rfl ⟨Nat.le_refl _, Nat.le_refl _, trivial, hQ _ _ _ _ h12⟩
    · have h12 := h10.2 c11
      refine ix_go 1 (x' := (104, [some (.inr (.inr (.inl (some (204))))), some (.inl ((x1) ||| (((1 : Int32)) <<< (((J 204 23).toInt32) &&& 31)))), some (.inl (x2))], [.inr (.inr (.inl (some (204))))], 0, 0, ix_mem 276 I10 J10 T10)) rfl trivial ?_
      refine ix_sp rfl ⟨rfl, ⟨ix_lt rfl, ix_eq rfl, ix_lt rfl⟩, ix_le rfl, Nat.le_refl _, Nat.le_refl _, tp_X12_next h12 (fun I13 J13 T13 h13 => ?_)⟩
      change ix_W _ _ _ (107, [some (.inr (.inr (.inl (some (204))))), some (.inl ((x1) ||| (((1 : Int32)) <<< (((J 204 23).toInt32) &&& 31)))), some (.inl (x2))], [], 0, 0, ix_mem 276 I13 J13 T13)
      refine ix_go 1 (x' := (2, [some (.inr (.inr (.inl (some (204))))), some (.inl ((x1) ||| (((1 : Int32)) <<< (((J 204 23).toInt32) &&& 31)))), some (.inl (x2))], [], 0, 0, ix_mem 276 I13 J13 T13)) rfl trivial ?_
      refine ix_subW ([some (.inr (.inr (.inl (some (204))))), some (.inl ((x1) ||| (((1 : Int32)) <<< (((J 204 23).toInt32) &&& 31)))), none]) (ix_subS (ix_subS (ix_subN (ix_sub0)))) ?_
      exact hV2 _ _ _ _ h13
def wj_X12_list_j71_2 (x1 : Int32) (s0 : Int32) (I : Nat → Nat → Int32) (J : Nat → Nat → Int64) (T : Option Nat) (V2 : Int32 → (Nat → Nat → Int32) → (Nat → Nat → Int64) → Option Nat → Prop) (P : Int32 → (Nat → Nat → Int32) → (Nat → Nat → Int64) → Option Nat → Prop) : Prop := wj_X12_list_j72_2 (x1) (s0) I J T V2 P
set_option maxRecDepth 20000 in
theorem tj_X12_list_j71_2 {d : Nat} {x1 : Int32} {s0 : Int32} {I : Nat → Nat → Int32} {J : Nat → Nat → Int64} {T : Option Nat} {V2 : Int32 → (Nat → Nat → Int32) → (Nat → Nat → Int64) → Option Nat → Prop} {P : Int32 → (Nat → Nat → Int32) → (Nat → Nat → Int64) → Option Nat → Prop} {Q : ix_Q} (h : wj_X12_list_j71_2 x1 s0 I J T V2 P) (hV2 : ∀ (x1 : Int32) I J T, V2 x1 I J T → ix_W (ix_C (d + 2)) (12, ix_lk ix_l265, (some .int), 0, 0, Nat.blt 0 0, none) Q (2, [some (.inr (.inr (.inl (some (204))))), some (.inl (x1)), none], [], 0, 0, ix_mem 276 I J T)) (hQ : ∀ v I J T, P v I J T → Q (some (.inl v)) (ix_mem 276 I J T)) : ix_W (ix_C (d + 2)) (12, ix_lk ix_l265, (some .int), 0, 0, Nat.blt 0 0, none) Q (71, [some (.inr (.inr (.inl (some (204))))), some (.inl (x1)), none], [.inl (s0)], 0, 0, ix_mem 276 I J T) := by
  unfold wj_X12_list_j71_2 at h
  refine ix_go 1 (x' := (72, [some (.inr (.inr (.inl (some (204))))), some (.inl (x1)), some (.inl (s0))], [], 0, 0, ix_mem 276 I J T)) rfl trivial ?_
  refine ix_subW ([some (.inr (.inr (.inl (some (204))))), some (.inl (x1)), some (.inl (s0))]) (ix_subS (ix_subS (ix_subS (ix_sub0)))) ?_
  exact tj_X12_list_j72_2 h hV2 hQ
def wj_X12_list_j66_2 (x1 : Int32) (I : Nat → Nat → Int32) (J : Nat → Nat → Int64) (T : Option Nat) (V2 : Int32 → (Nat → Nat → Int32) → (Nat → Nat → Int64) → Option Nat → Prop) (P : Int32 → (Nat → Nat → Int32) → (Nat → Nat → Int64) → Option Nat → Prop) : Prop := wj_X12_list_j71_2 (x1) ((1 : Int32)) I J T V2 P
set_option maxRecDepth 20000 in
theorem tj_X12_list_j66_2 {d : Nat} {x1 : Int32} {I : Nat → Nat → Int32} {J : Nat → Nat → Int64} {T : Option Nat} {V2 : Int32 → (Nat → Nat → Int32) → (Nat → Nat → Int64) → Option Nat → Prop} {P : Int32 → (Nat → Nat → Int32) → (Nat → Nat → Int64) → Option Nat → Prop} {Q : ix_Q} (h : wj_X12_list_j66_2 x1 I J T V2 P) (hV2 : ∀ (x1 : Int32) I J T, V2 x1 I J T → ix_W (ix_C (d + 2)) (12, ix_lk ix_l265, (some .int), 0, 0, Nat.blt 0 0, none) Q (2, [some (.inr (.inr (.inl (some (204))))), some (.inl (x1)), none], [], 0, 0, ix_mem 276 I J T)) (hQ : ∀ v I J T, P v I J T → Q (some (.inl v)) (ix_mem 276 I J T)) : ix_W (ix_C (d + 2)) (12, ix_lk ix_l265, (some .int), 0, 0, Nat.blt 0 0, none) Q (66, [some (.inr (.inr (.inl (some (204))))), some (.inl (x1)), none], [], 0, 0, ix_mem 276 I J T) := by
  unfold wj_X12_list_j66_2 at h
  refine ix_go 2 (x' := (71, [some (.inr (.inr (.inl (some (204))))), some (.inl (x1)), none], [.inl ((1 : Int32))], 0, 0, ix_mem 276 I J T)) rfl trivial ?_
  refine ix_subW ([some (.inr (.inr (.inl (some (204))))), some (.inl (x1)), none]) (ix_subS (ix_subS (ix_subS (ix_sub0)))) ?_
  exact tj_X12_list_j71_2 h hV2 hQ
def wj_X12_list_j58_2 (x1 : Int32) (I : Nat → Nat → Int32) (J : Nat → Nat → Int64) (T : Option Nat) (V2 : Int32 → (Nat → Nat → Int32) → (Nat → Nat → Int64) → Option Nat → Prop) (P : Int32 → (Nat → Nat → Int32) → (Nat → Nat → Int64) → Option Nat → Prop) : Prop := wp_X12_fail ((5 : Int32)) I J T (fun v18 I18 J18 T18 => ((v18 = 0 → wj_X12_list_j71_2 (x1) ((0 : Int32)) I18 J18 T18 V2 P) ∧ (¬ (v18 = 0) → wj_X12_list_j66_2 (x1) I18 J18 T18 V2 P)))
set_option maxRecDepth 20000 in
theorem tj_X12_list_j58_2 {d : Nat} {x1 : Int32} {I : Nat → Nat → Int32} {J : Nat → Nat → Int64} {T : Option Nat} {V2 : Int32 → (Nat → Nat → Int32) → (Nat → Nat → Int64) → Option Nat → Prop} {P : Int32 → (Nat → Nat → Int32) → (Nat → Nat → Int64) → Option Nat → Prop} {Q : ix_Q} (h : wj_X12_list_j58_2 x1 I J T V2 P) (hV2 : ∀ (x1 : Int32) I J T, V2 x1 I J T → ix_W (ix_C (d + 2)) (12, ix_lk ix_l265, (some .int), 0, 0, Nat.blt 0 0, none) Q (2, [some (.inr (.inr (.inl (some (204))))), some (.inl (x1)), none], [], 0, 0, ix_mem 276 I J T)) (hQ : ∀ v I J T, P v I J T → Q (some (.inl v)) (ix_mem 276 I J T)) : ix_W (ix_C (d + 2)) (12, ix_lk ix_l265, (some .int), 0, 0, Nat.blt 0 0, none) Q (58, [some (.inr (.inr (.inl (some (204))))), some (.inl (x1)), none], [], 0, 0, ix_mem 276 I J T) := by
  unfold wj_X12_list_j58_2 at h
  refine ix_go 2 (x' := (60, [some (.inr (.inr (.inl (some (204))))), some (.inl (x1)), none], [.inl ((5 : Int32)), .inr (.inr (.inl (some (204))))], 0, 0, ix_mem 276 I J T)) rfl trivial ?_
  refine ix_sp rfl ⟨rfl, ⟨ix_lt rfl, ix_eq rfl, ix_lt rfl⟩, ix_le rfl, Nat.le_refl _, Nat.le_refl _, tp_X12_fail h (fun v18 I18 J18 T18 h18 => ?_)⟩
  change ix_W _ _ _ (63, [some (.inr (.inr (.inl (some (204))))), some (.inl (x1)), none], [.inl (v18)], 0, 0, ix_mem 276 I18 J18 T18)
  refine ix_go 1 (x' := (if v18 = 0 then 70 else 66, [some (.inr (.inr (.inl (some (204))))), some (.inl (x1)), none], [], 0, 0, ix_mem 276 I18 J18 T18)) rfl trivial ?_
  refine ix_br (fun c19 => ?_) (fun c19 => ?_)
  · have h20 := h18.1 c19
    refine ix_go 1 (x' := (71, [some (.inr (.inr (.inl (some (204))))), some (.inl (x1)), none], [.inl ((0 : Int32))], 0, 0, ix_mem 276 I18 J18 T18)) rfl trivial ?_
    refine ix_subW ([some (.inr (.inr (.inl (some (204))))), some (.inl (x1)), none]) (ix_subS (ix_subS (ix_subS (ix_sub0)))) ?_
    exact tj_X12_list_j71_2 h20 hV2 hQ
  · have h20 := h18.2 c19
    refine ix_subW ([some (.inr (.inr (.inl (some (204))))), some (.inl (x1)), none]) (ix_subS (ix_subS (ix_subS (ix_sub0)))) ?_
    exact tj_X12_list_j66_2 h20 hV2 hQ
def wj_X12_list_j30_2 (x1 : Int32) (s0 : Int32) (I : Nat → Nat → Int32) (J : Nat → Nat → Int64) (T : Option Nat) (V2 : Int32 → (Nat → Nat → Int32) → (Nat → Nat → Int64) → Option Nat → Prop) (P : Int32 → (Nat → Nat → Int32) → (Nat → Nat → Int64) → Option Nat → Prop) : Prop := ((s0 = 0 → wj_X12_list_j72_2 (x1) (s0) I J T V2 P) ∧ (¬ (s0 = 0) → ((lg_cmp (J 204 23) ((6 : Int64)) ≤ 0 → ((((x1) >>> (((J 204 23).toInt32) &&& 31)) &&& ((1 : Int32)) = 0 → wj_X12_list_j66_2 (x1) I J T V2 P) ∧ (¬ (((x1) >>> (((J 204 23).toInt32) &&& 31)) &&& ((1 : Int32)) = 0) → wj_X12_list_j58_2 (x1) I J T V2 P))) ∧ (¬ (lg_cmp (J 204 23) ((6 : Int64)) ≤ 0) → wj_X12_list_j58_2 (x1) I J T V2 P))))
set_option maxRecDepth 20000 in
theorem tj_X12_list_j30_2 {d : Nat} {x1 : Int32} {s0 : Int32} {I : Nat → Nat → Int32} {J : Nat → Nat → Int64} {T : Option Nat} {V2 : Int32 → (Nat → Nat → Int32) → (Nat → Nat → Int64) → Option Nat → Prop} {P : Int32 → (Nat → Nat → Int32) → (Nat → Nat → Int64) → Option Nat → Prop} {Q : ix_Q} (h : wj_X12_list_j30_2 x1 s0 I J T V2 P) (hV2 : ∀ (x1 : Int32) I J T, V2 x1 I J T → ix_W (ix_C (d + 2)) (12, ix_lk ix_l265, (some .int), 0, 0, Nat.blt 0 0, none) Q (2, [some (.inr (.inr (.inl (some (204))))), some (.inl (x1)), none], [], 0, 0, ix_mem 276 I J T)) (hQ : ∀ v I J T, P v I J T → Q (some (.inl v)) (ix_mem 276 I J T)) : ix_W (ix_C (d + 2)) (12, ix_lk ix_l265, (some .int), 0, 0, Nat.blt 0 0, none) Q (30, [some (.inr (.inr (.inl (some (204))))), some (.inl (x1)), none], [.inl (s0)], 0, 0, ix_mem 276 I J T) := by
  unfold wj_X12_list_j30_2 at h
  refine ix_go 3 (x' := (if s0 = 0 then 72 else 35, [some (.inr (.inr (.inl (some (204))))), some (.inl (x1)), some (.inl (s0))], [], 0, 0, ix_mem 276 I J T)) rfl trivial ?_
  refine ix_br (fun c5 => ?_) (fun c5 => ?_)
  · have h6 := h.1 c5
    refine ix_subW ([some (.inr (.inr (.inl (some (204))))), some (.inl (x1)), some (.inl (s0))]) (ix_subS (ix_subS (ix_subS (ix_sub0)))) ?_
    exact tj_X12_list_j72_2 h6 hV2 hQ
  · have h6 := h.2 c5
    refine ix_go 5 (x' := (if lg_cmp (J 204 23) ((6 : Int64)) ≤ 0 then 46 else 58, [some (.inr (.inr (.inl (some (204))))), some (.inl (x1)), some (.inl (s0))], [], 0, 0, ix_mem 276 I J T)) rfl ⟨rfl, rfl⟩ ?_
    refine ix_br (fun c14 => ?_) (fun c14 => ?_)
    · have h15 := h6.1 c14
      refine ix_go 7 (x' := (55, [some (.inr (.inr (.inl (some (204))))), some (.inl (x1)), some (.inl (s0))], [.inl (((x1) >>> (((J 204 23).toInt32) &&& 31)) &&& ((1 : Int32)))], 0, 0, ix_mem 276 I J T)) rfl ⟨rfl, rfl⟩ ?_
      refine ix_go 1 (x' := (if ((x1) >>> (((J 204 23).toInt32) &&& 31)) &&& ((1 : Int32)) = 0 then 66 else 58, [some (.inr (.inr (.inl (some (204))))), some (.inl (x1)), some (.inl (s0))], [], 0, 0, ix_mem 276 I J T)) rfl trivial ?_
      refine ix_br (fun c16 => ?_) (fun c16 => ?_)
      · have h17 := h15.1 c16
        refine ix_subW ([some (.inr (.inr (.inl (some (204))))), some (.inl (x1)), none]) (ix_subS (ix_subS (ix_subN (ix_sub0)))) ?_
        exact tj_X12_list_j66_2 h17 hV2 hQ
      · have h17 := h15.2 c16
        refine ix_subW ([some (.inr (.inr (.inl (some (204))))), some (.inl (x1)), none]) (ix_subS (ix_subS (ix_subN (ix_sub0)))) ?_
        exact tj_X12_list_j58_2 h17 hV2 hQ
    · have h15 := h6.2 c14
      refine ix_subW ([some (.inr (.inr (.inl (some (204))))), some (.inl (x1)), none]) (ix_subS (ix_subS (ix_subN (ix_sub0)))) ?_
      exact tj_X12_list_j58_2 h15 hV2 hQ
def wj_X12_list_j25_2 (x1 : Int32) (I : Nat → Nat → Int32) (J : Nat → Nat → Int64) (T : Option Nat) (V2 : Int32 → (Nat → Nat → Int32) → (Nat → Nat → Int64) → Option Nat → Prop) (P : Int32 → (Nat → Nat → Int32) → (Nat → Nat → Int64) → Option Nat → Prop) : Prop := wj_X12_list_j30_2 (x1) ((1 : Int32)) I J T V2 P
set_option maxRecDepth 20000 in
theorem tj_X12_list_j25_2 {d : Nat} {x1 : Int32} {I : Nat → Nat → Int32} {J : Nat → Nat → Int64} {T : Option Nat} {V2 : Int32 → (Nat → Nat → Int32) → (Nat → Nat → Int64) → Option Nat → Prop} {P : Int32 → (Nat → Nat → Int32) → (Nat → Nat → Int64) → Option Nat → Prop} {Q : ix_Q} (h : wj_X12_list_j25_2 x1 I J T V2 P) (hV2 : ∀ (x1 : Int32) I J T, V2 x1 I J T → ix_W (ix_C (d + 2)) (12, ix_lk ix_l265, (some .int), 0, 0, Nat.blt 0 0, none) Q (2, [some (.inr (.inr (.inl (some (204))))), some (.inl (x1)), none], [], 0, 0, ix_mem 276 I J T)) (hQ : ∀ v I J T, P v I J T → Q (some (.inl v)) (ix_mem 276 I J T)) : ix_W (ix_C (d + 2)) (12, ix_lk ix_l265, (some .int), 0, 0, Nat.blt 0 0, none) Q (25, [some (.inr (.inr (.inl (some (204))))), some (.inl (x1)), none], [], 0, 0, ix_mem 276 I J T) := by
  unfold wj_X12_list_j25_2 at h
  refine ix_go 2 (x' := (30, [some (.inr (.inr (.inl (some (204))))), some (.inl (x1)), none], [.inl ((1 : Int32))], 0, 0, ix_mem 276 I J T)) rfl trivial ?_
  refine ix_subW ([some (.inr (.inr (.inl (some (204))))), some (.inl (x1)), none]) (ix_subS (ix_subS (ix_subS (ix_sub0)))) ?_
  exact tj_X12_list_j30_2 h hV2 hQ
def wb_X12_list_2 (x1 : Int32) (I : Nat → Nat → Int32) (J : Nat → Nat → Int64) (T : Option Nat) (V2 : Int32 → (Nat → Nat → Int32) → (Nat → Nat → Int64) → Option Nat → Prop) (P : Int32 → (Nat → Nat → Int32) → (Nat → Nat → Int64) → Option Nat → Prop) : Prop := ((I 204 22 = 0 → ((I 204 17 = (3 : Int32) → wj_X12_list_j25_2 (x1) I J T V2 P) ∧ (¬ (I 204 17 = (3 : Int32)) → wp_X12_fail ((2 : Int32)) I J T (fun v21 I21 J21 T21 => ((v21 = 0 → wj_X12_list_j30_2 (x1) ((0 : Int32)) I21 J21 T21 V2 P) ∧ (¬ (v21 = 0) → wj_X12_list_j25_2 (x1) I21 J21 T21 V2 P)))))) ∧ (¬ (I 204 22 = 0) → P (x1) I J T))
def wl_X12_list_2 (x1 : Int32) (I : Nat → Nat → Int32) (J : Nat → Nat → Int64) (T : Option Nat) (P : Int32 → (Nat → Nat → Int32) → (Nat → Nat → Int64) → Option Nat → Prop) : Prop := ∀ V : Int32 → (Nat → Nat → Int32) → (Nat → Nat → Int64) → Option Nat → Prop, (∀ (x1 : Int32) (I : Nat → Nat → Int32) (J : Nat → Nat → Int64) (T : Option Nat), wb_X12_list_2 x1 I J T V P → V x1 I J T) → V x1 I J T
set_option maxRecDepth 20000 in
theorem tl_X12_list_2 {d : Nat} {x1 : Int32} {I : Nat → Nat → Int32} {J : Nat → Nat → Int64} {T : Option Nat} {P : Int32 → (Nat → Nat → Int32) → (Nat → Nat → Int64) → Option Nat → Prop} {Q : ix_Q} (h : wl_X12_list_2 x1 I J T P) (hQ : ∀ v I J T, P v I J T → Q (some (.inl v)) (ix_mem 276 I J T)) : ix_W (ix_C (d + 2)) (12, ix_lk ix_l265, (some .int), 0, 0, Nat.blt 0 0, none) Q (2, [some (.inr (.inr (.inl (some (204))))), some (.inl (x1)), none], [], 0, 0, ix_mem 276 I J T) := by
  refine h (fun x1 I J T => ix_W (ix_C (d + 2)) (12, ix_lk ix_l265, (some .int), 0, 0, Nat.blt 0 0, none) Q (2, [some (.inr (.inr (.inl (some (204))))), some (.inl (x1)), none], [], 0, 0, ix_mem 276 I J T)) ?_
  intro x1 I J T hb
  unfold wb_X12_list_2 at hb
  refine ix_go 3 (x' := (if I 204 22 = 0 then 9 else 110, [some (.inr (.inr (.inl (some (204))))), some (.inl (x1)), none], [], 0, 0, ix_mem 276 I J T)) rfl ⟨rfl, rfl⟩ ?_
  refine ix_br (fun c1 => ?_) (fun c1 => ?_)
  · have h2 := hb.1 c1
    refine ix_go 4 (x' := (if I 204 17 = (3 : Int32) then 25 else 17, [some (.inr (.inr (.inl (some (204))))), some (.inl (x1)), none], [], 0, 0, ix_mem 276 I J T)) rfl ⟨rfl, rfl⟩ ?_
    refine ix_br (fun c3 => ?_) (fun c3 => ?_)
    · have h4 := h2.1 c3
      refine ix_subW ([some (.inr (.inr (.inl (some (204))))), some (.inl (x1)), none]) (ix_subS (ix_subS (ix_subS (ix_sub0)))) ?_
      exact tj_X12_list_j25_2 h4 (fun _ I J T hv => hv) hQ
    · have h4 := h2.2 c3
      refine ix_go 2 (x' := (19, [some (.inr (.inr (.inl (some (204))))), some (.inl (x1)), none], [.inl ((2 : Int32)), .inr (.inr (.inl (some (204))))], 0, 0, ix_mem 276 I J T)) rfl trivial ?_
      refine ix_sp rfl ⟨rfl, ⟨ix_lt rfl, ix_eq rfl, ix_lt rfl⟩, ix_le rfl, Nat.le_refl _, Nat.le_refl _, tp_X12_fail h4 (fun v21 I21 J21 T21 h21 => ?_)⟩
      change ix_W _ _ _ (22, [some (.inr (.inr (.inl (some (204))))), some (.inl (x1)), none], [.inl (v21)], 0, 0, ix_mem 276 I21 J21 T21)
      refine ix_go 1 (x' := (if v21 = 0 then 29 else 25, [some (.inr (.inr (.inl (some (204))))), some (.inl (x1)), none], [], 0, 0, ix_mem 276 I21 J21 T21)) rfl trivial ?_
      refine ix_br (fun c22 => ?_) (fun c22 => ?_)
      · have h23 := h21.1 c22
        refine ix_go 1 (x' := (30, [some (.inr (.inr (.inl (some (204))))), some (.inl (x1)), none], [.inl ((0 : Int32))], 0, 0, ix_mem 276 I21 J21 T21)) rfl trivial ?_
        refine ix_subW ([some (.inr (.inr (.inl (some (204))))), some (.inl (x1)), none]) (ix_subS (ix_subS (ix_subS (ix_sub0)))) ?_
        exact tj_X12_list_j30_2 h23 (fun _ I J T hv => hv) hQ
      · have h23 := h21.2 c22
        refine ix_subW ([some (.inr (.inr (.inl (some (204))))), some (.inl (x1)), none]) (ix_subS (ix_subS (ix_subS (ix_sub0)))) ?_
        exact tj_X12_list_j25_2 h23 (fun _ I J T hv => hv) hQ
  · have h2 := hb.2 c1
    refine ix_go 1 (x' := (111, [some (.inr (.inr (.inl (some (204))))), some (.inl (x1)), none], [.inl (x1)], 0, 0, ix_mem 276 I J T)) rfl trivial ?_
    exact ix_sp rfl ⟨Nat.le_refl _, Nat.le_refl _, trivial, hQ _ _ _ _ h2⟩
def wp_X12_list (I : Nat → Nat → Int32) (J : Nat → Nat → Int64) (T : Option Nat) (P : Int32 → (Nat → Nat → Int32) → (Nat → Nat → Int64) → Option Nat → Prop) : Prop := wl_X12_list_2 ((0 : Int32)) I J T P
set_option maxRecDepth 20000 in
theorem tp_X12_list {d : Nat} {I : Nat → Nat → Int32} {J : Nat → Nat → Int64} {T : Option Nat} {P : Int32 → (Nat → Nat → Int32) → (Nat → Nat → Int64) → Option Nat → Prop} {Q : ix_Q} (h : wp_X12_list I J T P) (hQ : ∀ v I J T, P v I J T → Q (some (.inl v)) (ix_mem 276 I J T)) : ix_C (d + 3) 265 [.inr (.inr (.inl (some (204))))] (ix_mem 276 I J T) Q := by
  unfold wp_X12_list at h
  refine ix_enter (ls := [some (.inr (.inr (.inl (some (204))))), none, none]) rfl rfl rfl (Nat.le_of_ble_eq_true rfl) ?_
  refine ix_go 2 (x' := (2, [some (.inr (.inr (.inl (some (204))))), some (.inl ((0 : Int32))), none], [], 0, 0, ix_mem 276 I J T)) rfl trivial ?_
  refine ix_subW ([some (.inr (.inr (.inl (some (204))))), some (.inl ((0 : Int32))), none]) (ix_subS (ix_subS (ix_subS (ix_sub0)))) ?_
  exact tl_X12_list_2 h hQ
def wj_X12_one_j99 (x2 : Int32) (I : Nat → Nat → Int32) (J : Nat → Nat → Int64) (T : Option Nat) (P : Int32 → (Nat → Nat → Int32) → (Nat → Nat → Int64) → Option Nat → Prop) : Prop := ix_inb (x2) 1000 = true ∧ wp_X12_next (ix_u2 I 229 (x2).toNatClampNeg ((J 204 23).toInt32)) J T (fun I33 J33 T33 => ix_inb (x2) 1000 = true ∧ wp_X12_sum (ix_u2 I33 227 (x2).toNatClampNeg (I33 204 44)) J33 T33 (fun v36 I36 J36 T36 => ((v36 = 0 → P ((0 : Int32)) I36 J36 T36) ∧ (¬ (v36 = 0) → ix_inb (x2) 1000 = true ∧ P ((1 : Int32)) (ix_u2 (ix_u2 I36 228 (x2).toNatClampNeg (I36 204 44)) 204 45 ((I36 204 45) + ((1 : Int32)))) J36 T36))))
set_option maxRecDepth 20000 in
theorem tj_X12_one_j99 {d : Nat} {x2 : Int32} {I : Nat → Nat → Int32} {J : Nat → Nat → Int64} {T : Option Nat} {P : Int32 → (Nat → Nat → Int32) → (Nat → Nat → Int64) → Option Nat → Prop} {Q : ix_Q} (h : wj_X12_one_j99 x2 I J T P) (hQ : ∀ v I J T, P v I J T → Q (some (.inl v)) (ix_mem 276 I J T)) : ix_W (ix_C (d + 5)) (12, ix_lk ix_l266, (some .boolean), 0, 0, Nat.blt 0 0, none) Q (99, [some (.inr (.inr (.inl (some (204))))), none, some (.inl (x2))], [], 0, 0, ix_mem 276 I J T) := by
  unfold wj_X12_one_j99 at h
  obtain ⟨p31, h32⟩ := h
  refine ix_go 7 (x' := (110, [some (.inr (.inr (.inl (some (204))))), none, some (.inl (x2))], [], 0, 0, ix_mem 276 (ix_u2 I 229 (x2).toNatClampNeg ((J 204 23).toInt32)) J T)) rfl ⟨rfl, rfl, rfl, rfl, rfl, rfl, p31⟩ ?_
  refine ix_go 1 (x' := (111, [some (.inr (.inr (.inl (some (204))))), none, some (.inl (x2))], [.inr (.inr (.inl (some (204))))], 0, 0, ix_mem 276 (ix_u2 I 229 (x2).toNatClampNeg ((J 204 23).toInt32)) J T)) rfl trivial ?_
  refine ix_sp rfl ⟨rfl, ⟨ix_lt rfl, ix_eq rfl, ix_lt rfl⟩, ix_le rfl, Nat.le_refl _, Nat.le_refl _, tp_X12_next h32 (fun I33 J33 T33 h33 => ?_)⟩
  change ix_W _ _ _ (114, [some (.inr (.inr (.inl (some (204))))), none, some (.inl (x2))], [], 0, 0, ix_mem 276 I33 J33 T33)
  obtain ⟨p34, h35⟩ := h33
  refine ix_go 7 (x' := (125, [some (.inr (.inr (.inl (some (204))))), none, some (.inl (x2))], [.inr (.inr (.inl (some (204))))], 0, 0, ix_mem 276 (ix_u2 I33 227 (x2).toNatClampNeg (I33 204 44)) J33 T33)) rfl ⟨rfl, rfl, rfl, rfl, rfl, rfl, p34⟩ ?_
  refine ix_sp rfl ⟨rfl, ⟨ix_lt rfl, ix_eq rfl, ix_lt rfl⟩, ix_le rfl, Nat.le_refl _, Nat.le_refl _, tp_X12_sum h35 (fun v36 I36 J36 T36 h36 => ?_)⟩
  change ix_W _ _ _ (128, [some (.inr (.inr (.inl (some (204))))), none, some (.inl (x2))], [.inl (v36)], 0, 0, ix_mem 276 I36 J36 T36)
  refine ix_go 1 (x' := (if v36 = 0 then 131 else 133, [some (.inr (.inr (.inl (some (204))))), none, some (.inl (x2))], [], 0, 0, ix_mem 276 I36 J36 T36)) rfl trivial ?_
  refine ix_br (fun c37 => ?_) (fun c37 => ?_)
  · have h38 := h36.1 c37
    refine ix_go 1 (x' := (132, [some (.inr (.inr (.inl (some (204))))), none, some (.inl (x2))], [.inl ((0 : Int32))], 0, 0, ix_mem 276 I36 J36 T36)) rfl trivial ?_
    exact ix_sp rfl ⟨Nat.le_refl _, Nat.le_refl _, ix_01_ok rfl, hQ _ _ _ _ h38⟩
  · have h38 := h36.2 c37
    obtain ⟨p39, h40⟩ := h38
    refine ix_go 7 (x' := (144, [some (.inr (.inr (.inl (some (204))))), none, some (.inl (x2))], [.inr (.inr (.inl (some (204))))], 0, 0, ix_mem 276 (ix_u2 I36 228 (x2).toNatClampNeg (I36 204 44)) J36 T36)) rfl ⟨rfl, rfl, rfl, rfl, rfl, rfl, p39⟩ ?_
    refine ix_go 6 (x' := (154, [some (.inr (.inr (.inl (some (204))))), none, some (.inl (x2))], [.inl ((1 : Int32))], 0, 0, ix_mem 276 (ix_u2 (ix_u2 I36 228 (x2).toNatClampNeg (I36 204 44)) 204 45 ((I36 204 45) + ((1 : Int32)))) J36 T36)) rfl ⟨rfl, rfl, rfl, rfl⟩ ?_
    exact ix_sp rfl ⟨Nat.le_refl _, Nat.le_refl _, ix_01_ok rfl, hQ _ _ _ _ h40⟩
def wj_X12_one_j37 (x2 : Int32) (I : Nat → Nat → Int32) (J : Nat → Nat → Int64) (T : Option Nat) (P : Int32 → (Nat → Nat → Int32) → (Nat → Nat → Int64) → Option Nat → Prop) : Prop := ix_inb (x2) 1000 = true ∧ wp_X12_sum (ix_u2 I 225 (x2).toNatClampNeg (I 204 44)) J T (fun v16 I16 J16 T16 => ((v16 = 0 → P ((0 : Int32)) I16 J16 T16) ∧ (¬ (v16 = 0) → ix_inb (x2) 1000 = true ∧ wp_X12_isSign ((60 : Int32)) (ix_u2 I16 226 (x2).toNatClampNeg (I16 204 44)) J16 T16 (fun v21 I21 J21 T21 => ((v21 = 0 → wp_X12_isSign ((62 : Int32)) I21 J21 T21 (fun v24 I24 J24 T24 => ((v24 = 0 → wp_X12_isSign ((61 : Int32)) I24 J24 T24 (fun v27 I27 J27 T27 => ((v27 = 0 → wp_X12_fail ((2 : Int32)) I27 J27 T27 (fun v30 I30 J30 T30 => ix_01 (v30) = true ∧ P (v30) I30 J30 T30)) ∧ (¬ (v27 = 0) → wj_X12_one_j99 (x2) I27 J27 T27 P)))) ∧ (¬ (v24 = 0) → wj_X12_one_j99 (x2) I24 J24 T24 P)))) ∧ (¬ (v21 = 0) → wj_X12_one_j99 (x2) I21 J21 T21 P))))))
set_option maxRecDepth 20000 in
theorem tj_X12_one_j37 {d : Nat} {x2 : Int32} {I : Nat → Nat → Int32} {J : Nat → Nat → Int64} {T : Option Nat} {P : Int32 → (Nat → Nat → Int32) → (Nat → Nat → Int64) → Option Nat → Prop} {Q : ix_Q} (h : wj_X12_one_j37 x2 I J T P) (hQ : ∀ v I J T, P v I J T → Q (some (.inl v)) (ix_mem 276 I J T)) : ix_W (ix_C (d + 5)) (12, ix_lk ix_l266, (some .boolean), 0, 0, Nat.blt 0 0, none) Q (37, [some (.inr (.inr (.inl (some (204))))), none, some (.inl (x2))], [], 0, 0, ix_mem 276 I J T) := by
  unfold wj_X12_one_j37 at h
  obtain ⟨p14, h15⟩ := h
  refine ix_go 7 (x' := (48, [some (.inr (.inr (.inl (some (204))))), none, some (.inl (x2))], [.inr (.inr (.inl (some (204))))], 0, 0, ix_mem 276 (ix_u2 I 225 (x2).toNatClampNeg (I 204 44)) J T)) rfl ⟨rfl, rfl, rfl, rfl, rfl, rfl, p14⟩ ?_
  refine ix_sp rfl ⟨rfl, ⟨ix_lt rfl, ix_eq rfl, ix_lt rfl⟩, ix_le rfl, Nat.le_refl _, Nat.le_refl _, tp_X12_sum h15 (fun v16 I16 J16 T16 h16 => ?_)⟩
  change ix_W _ _ _ (51, [some (.inr (.inr (.inl (some (204))))), none, some (.inl (x2))], [.inl (v16)], 0, 0, ix_mem 276 I16 J16 T16)
  refine ix_go 1 (x' := (if v16 = 0 then 54 else 56, [some (.inr (.inr (.inl (some (204))))), none, some (.inl (x2))], [], 0, 0, ix_mem 276 I16 J16 T16)) rfl trivial ?_
  refine ix_br (fun c17 => ?_) (fun c17 => ?_)
  · have h18 := h16.1 c17
    refine ix_go 1 (x' := (55, [some (.inr (.inr (.inl (some (204))))), none, some (.inl (x2))], [.inl ((0 : Int32))], 0, 0, ix_mem 276 I16 J16 T16)) rfl trivial ?_
    exact ix_sp rfl ⟨Nat.le_refl _, Nat.le_refl _, ix_01_ok rfl, hQ _ _ _ _ h18⟩
  · have h18 := h16.2 c17
    obtain ⟨p19, h20⟩ := h18
    refine ix_go 7 (x' := (67, [some (.inr (.inr (.inl (some (204))))), none, some (.inl (x2))], [.inr (.inr (.inl (some (204))))], 0, 0, ix_mem 276 (ix_u2 I16 226 (x2).toNatClampNeg (I16 204 44)) J16 T16)) rfl ⟨rfl, rfl, rfl, rfl, rfl, rfl, p19⟩ ?_
    refine ix_go 1 (x' := (69, [some (.inr (.inr (.inl (some (204))))), none, some (.inl (x2))], [.inl ((60 : Int32)), .inr (.inr (.inl (some (204))))], 0, 0, ix_mem 276 (ix_u2 I16 226 (x2).toNatClampNeg (I16 204 44)) J16 T16)) rfl trivial ?_
    refine ix_sp rfl ⟨rfl, ⟨ix_lt rfl, ix_eq rfl, ix_lt rfl⟩, ix_le rfl, Nat.le_refl _, Nat.le_refl _, tp_X12_isSign h20 (fun v21 I21 J21 T21 h21 => ?_)⟩
    change ix_W _ _ _ (72, [some (.inr (.inr (.inl (some (204))))), none, some (.inl (x2))], [.inl (v21)], 0, 0, ix_mem 276 I21 J21 T21)
    refine ix_go 1 (x' := (if v21 = 0 then 75 else 99, [some (.inr (.inr (.inl (some (204))))), none, some (.inl (x2))], [], 0, 0, ix_mem 276 I21 J21 T21)) rfl trivial ?_
    refine ix_br (fun c22 => ?_) (fun c22 => ?_)
    · have h23 := h21.1 c22
      refine ix_go 2 (x' := (78, [some (.inr (.inr (.inl (some (204))))), none, some (.inl (x2))], [.inl ((62 : Int32)), .inr (.inr (.inl (some (204))))], 0, 0, ix_mem 276 I21 J21 T21)) rfl trivial ?_
      refine ix_sp rfl ⟨rfl, ⟨ix_lt rfl, ix_eq rfl, ix_lt rfl⟩, ix_le rfl, Nat.le_refl _, Nat.le_refl _, tp_X12_isSign h23 (fun v24 I24 J24 T24 h24 => ?_)⟩
      change ix_W _ _ _ (81, [some (.inr (.inr (.inl (some (204))))), none, some (.inl (x2))], [.inl (v24)], 0, 0, ix_mem 276 I24 J24 T24)
      refine ix_go 1 (x' := (if v24 = 0 then 84 else 99, [some (.inr (.inr (.inl (some (204))))), none, some (.inl (x2))], [], 0, 0, ix_mem 276 I24 J24 T24)) rfl trivial ?_
      refine ix_br (fun c25 => ?_) (fun c25 => ?_)
      · have h26 := h24.1 c25
        refine ix_go 2 (x' := (87, [some (.inr (.inr (.inl (some (204))))), none, some (.inl (x2))], [.inl ((61 : Int32)), .inr (.inr (.inl (some (204))))], 0, 0, ix_mem 276 I24 J24 T24)) rfl trivial ?_
        refine ix_sp rfl ⟨rfl, ⟨ix_lt rfl, ix_eq rfl, ix_lt rfl⟩, ix_le rfl, Nat.le_refl _, Nat.le_refl _, tp_X12_isSign h26 (fun v27 I27 J27 T27 h27 => ?_)⟩
        change ix_W _ _ _ (90, [some (.inr (.inr (.inl (some (204))))), none, some (.inl (x2))], [.inl (v27)], 0, 0, ix_mem 276 I27 J27 T27)
        refine ix_go 1 (x' := (if v27 = 0 then 93 else 99, [some (.inr (.inr (.inl (some (204))))), none, some (.inl (x2))], [], 0, 0, ix_mem 276 I27 J27 T27)) rfl trivial ?_
        refine ix_br (fun c28 => ?_) (fun c28 => ?_)
        · have h29 := h27.1 c28
          refine ix_go 2 (x' := (95, [some (.inr (.inr (.inl (some (204))))), none, some (.inl (x2))], [.inl ((2 : Int32)), .inr (.inr (.inl (some (204))))], 0, 0, ix_mem 276 I27 J27 T27)) rfl trivial ?_
          refine ix_sp rfl ⟨rfl, ⟨ix_lt rfl, ix_eq rfl, ix_lt rfl⟩, ix_le rfl, Nat.le_refl _, Nat.le_refl _, tp_X12_fail h29 (fun v30 I30 J30 T30 h30 => ?_)⟩
          change ix_W _ _ _ (98, [some (.inr (.inr (.inl (some (204))))), none, some (.inl (x2))], [.inl (v30)], 0, 0, ix_mem 276 I30 J30 T30)
          exact ix_sp rfl ⟨Nat.le_refl _, Nat.le_refl _, ix_01_ok h30.1, hQ _ _ _ _ h30.2⟩
        · have h29 := h27.2 c28
          refine ix_subW ([some (.inr (.inr (.inl (some (204))))), none, some (.inl (x2))]) (ix_subS (ix_subS (ix_subS (ix_sub0)))) ?_
          exact tj_X12_one_j99 h29 hQ
      · have h26 := h24.2 c25
        refine ix_subW ([some (.inr (.inr (.inl (some (204))))), none, some (.inl (x2))]) (ix_subS (ix_subS (ix_subS (ix_sub0)))) ?_
        exact tj_X12_one_j99 h26 hQ
    · have h23 := h21.2 c22
      refine ix_subW ([some (.inr (.inr (.inl (some (204))))), none, some (.inl (x2))]) (ix_subS (ix_subS (ix_subS (ix_sub0)))) ?_
      exact tj_X12_one_j99 h23 hQ
def wp_X12_one (a0 : Int32) (I : Nat → Nat → Int32) (J : Nat → Nat → Int64) (T : Option Nat) (P : Int32 → (Nat → Nat → Int32) → (Nat → Nat → Int64) → Option Nat → Prop) : Prop := (false || (true && ix_01 (a0))) = true ∧ ix_inb (I 204 45) 1000 = true ∧ wp_X12_isKey ((8 : Int32)) (ix_u2 I 231 (I 204 45).toNatClampNeg (a0)) J T (fun v5 I5 J5 T5 => (false || (true && ix_01 (v5))) = true ∧ ix_inb (I 204 45) 1000 = true ∧ ix_inb (I 204 45) 1000 = true ∧ (((ix_u2 I5 230 (I 204 45).toNatClampNeg (v5)) 230 (I 204 45).toNatClampNeg = 0 → wj_X12_one_j37 (I 204 45) (ix_u2 I5 230 (I 204 45).toNatClampNeg (v5)) J5 T5 P) ∧ (¬ ((ix_u2 I5 230 (I 204 45).toNatClampNeg (v5)) 230 (I 204 45).toNatClampNeg = 0) → wp_X12_next (ix_u2 I5 230 (I 204 45).toNatClampNeg (v5)) J5 T5 (fun I41 J41 T41 => wj_X12_one_j37 (I 204 45) I41 J41 T41 P))))
set_option maxRecDepth 20000 in
theorem tp_X12_one {d : Nat} {a0 : Int32} {I : Nat → Nat → Int32} {J : Nat → Nat → Int64} {T : Option Nat} {P : Int32 → (Nat → Nat → Int32) → (Nat → Nat → Int64) → Option Nat → Prop} {Q : ix_Q} (h : wp_X12_one a0 I J T P) (hQ : ∀ v I J T, P v I J T → Q (some (.inl v)) (ix_mem 276 I J T)) : ix_C (d + 6) 266 [.inr (.inr (.inl (some (204)))), .inl (a0)] (ix_mem 276 I J T) Q := by
  unfold wp_X12_one at h
  refine ix_enter (ls := [some (.inr (.inr (.inl (some (204))))), some (.inl (a0)), none]) rfl rfl rfl (Nat.le_of_ble_eq_true rfl) ?_
  refine ix_go 7 (x' := (11, [some (.inr (.inr (.inl (some (204))))), some (.inl (a0)), some (.inl (I 204 45))], [.inl (a0), .inl (I 204 45), .inr (.inr (.inl (some (231))))], 0, 0, ix_mem 276 I J T)) rfl ⟨rfl, rfl, rfl, rfl⟩ ?_
  obtain ⟨p1, h2⟩ := h
  obtain ⟨p3, h4⟩ := h2
  refine ix_go 6 (x' := (20, [some (.inr (.inr (.inl (some (204))))), some (.inl (a0)), some (.inl (I 204 45))], [.inl ((8 : Int32)), .inr (.inr (.inl (some (204)))), .inl (I 204 45), .inr (.inr (.inl (some (230))))], 0, 0, ix_mem 276 (ix_u2 I 231 (I 204 45).toNatClampNeg (a0)) J T)) rfl ⟨rfl, p1, p3, rfl, rfl⟩ ?_
  refine ix_sp rfl ⟨rfl, ⟨ix_lt rfl, ix_eq rfl, ix_lt rfl⟩, ix_le rfl, Nat.le_refl _, Nat.le_refl _, tp_X12_isKey h4 (fun v5 I5 J5 T5 h5 => ?_)⟩
  change ix_W _ _ _ (23, [some (.inr (.inr (.inl (some (204))))), some (.inl (a0)), some (.inl (I 204 45))], [.inl (v5), .inl (I 204 45), .inr (.inr (.inl (some (230))))], 0, 0, ix_mem 276 I5 J5 T5)
  obtain ⟨p6, h7⟩ := h5
  obtain ⟨p8, h9⟩ := h7
  obtain ⟨p10, h11⟩ := h9
  refine ix_go 6 (x' := (if (ix_u2 I5 230 (I 204 45).toNatClampNeg (v5)) 230 (I 204 45).toNatClampNeg = 0 then 37 else 33, [some (.inr (.inr (.inl (some (204))))), some (.inl (a0)), some (.inl (I 204 45))], [], 0, 0, ix_mem 276 (ix_u2 I5 230 (I 204 45).toNatClampNeg (v5)) J5 T5)) rfl ⟨rfl, p6, p8, rfl, rfl, rfl, rfl, p10⟩ ?_
  refine ix_br (fun c12 => ?_) (fun c12 => ?_)
  · have h13 := h11.1 c12
    refine ix_subW ([some (.inr (.inr (.inl (some (204))))), none, some (.inl (I 204 45))]) (ix_subS (ix_subN (ix_subS (ix_sub0)))) ?_
    exact tj_X12_one_j37 h13 hQ
  · have h13 := h11.2 c12
    refine ix_go 1 (x' := (34, [some (.inr (.inr (.inl (some (204))))), some (.inl (a0)), some (.inl (I 204 45))], [.inr (.inr (.inl (some (204))))], 0, 0, ix_mem 276 (ix_u2 I5 230 (I 204 45).toNatClampNeg (v5)) J5 T5)) rfl trivial ?_
    refine ix_sp rfl ⟨rfl, ⟨ix_lt rfl, ix_eq rfl, ix_lt rfl⟩, ix_le rfl, Nat.le_refl _, Nat.le_refl _, tp_X12_next h13 (fun I41 J41 T41 h41 => ?_)⟩
    change ix_W _ _ _ (37, [some (.inr (.inr (.inl (some (204))))), some (.inl (a0)), some (.inl (I 204 45))], [], 0, 0, ix_mem 276 I41 J41 T41)
    refine ix_subW ([some (.inr (.inr (.inl (some (204))))), none, some (.inl (I 204 45))]) (ix_subS (ix_subN (ix_subS (ix_sub0)))) ?_
    exact tj_X12_one_j37 h41 hQ
def wb_X12_test_6 (x1 : Int32) (I : Nat → Nat → Int32) (J : Nat → Nat → Int64) (T : Option Nat) (V6 : Int32 → (Nat → Nat → Int32) → (Nat → Nat → Int64) → Option Nat → Prop) (P : Int32 → (Nat → Nat → Int32) → (Nat → Nat → Int64) → Option Nat → Prop) : Prop := ((x1 = 0 → ix_01 (x1) = true ∧ P (x1) I J T) ∧ (¬ (x1 = 0) → wp_X12_isKey ((6 : Int32)) I J T (fun v4 I4 J4 T4 => ((v4 = 0 → wp_X12_isKey ((7 : Int32)) I4 J4 T4 (fun v7 I7 J7 T7 => ((v7 = 0 → ix_01 (x1) = true ∧ P (x1) I7 J7 T7) ∧ (¬ (v7 = 0) → wp_X12_isKey ((6 : Int32)) I7 J7 T7 (fun v10 I10 J10 T10 => wp_X12_next I10 J10 T10 (fun I11 J11 T11 => wp_X12_one (v10) I11 J11 T11 (fun v12 I12 J12 T12 => V6 (v12) I12 J12 T12))))))) ∧ (¬ (v4 = 0) → wp_X12_isKey ((6 : Int32)) I4 J4 T4 (fun v13 I13 J13 T13 => wp_X12_next I13 J13 T13 (fun I14 J14 T14 => wp_X12_one (v13) I14 J14 T14 (fun v15 I15 J15 T15 => V6 (v15) I15 J15 T15))))))))
def wl_X12_test_6 (x1 : Int32) (I : Nat → Nat → Int32) (J : Nat → Nat → Int64) (T : Option Nat) (P : Int32 → (Nat → Nat → Int32) → (Nat → Nat → Int64) → Option Nat → Prop) : Prop := ∀ V : Int32 → (Nat → Nat → Int32) → (Nat → Nat → Int64) → Option Nat → Prop, (∀ (x1 : Int32) (I : Nat → Nat → Int32) (J : Nat → Nat → Int64) (T : Option Nat), wb_X12_test_6 x1 I J T V P → V x1 I J T) → V x1 I J T
set_option maxRecDepth 20000 in
theorem tl_X12_test_6 {d : Nat} {x1 : Int32} {I : Nat → Nat → Int32} {J : Nat → Nat → Int64} {T : Option Nat} {P : Int32 → (Nat → Nat → Int32) → (Nat → Nat → Int64) → Option Nat → Prop} {Q : ix_Q} (h : wl_X12_test_6 x1 I J T P) (hQ : ∀ v I J T, P v I J T → Q (some (.inl v)) (ix_mem 276 I J T)) : ix_W (ix_C (d + 6)) (12, ix_lk ix_l267, (some .boolean), 0, 0, Nat.blt 0 0, none) Q (6, [some (.inr (.inr (.inl (some (204))))), some (.inl (x1)), none], [], 0, 0, ix_mem 276 I J T) := by
  refine h (fun x1 I J T => ix_W (ix_C (d + 6)) (12, ix_lk ix_l267, (some .boolean), 0, 0, Nat.blt 0 0, none) Q (6, [some (.inr (.inr (.inl (some (204))))), some (.inl (x1)), none], [], 0, 0, ix_mem 276 I J T)) ?_
  intro x1 I J T hb
  unfold wb_X12_test_6 at hb
  refine ix_go 2 (x' := (if x1 = 0 then 48 else 10, [some (.inr (.inr (.inl (some (204))))), some (.inl (x1)), none], [], 0, 0, ix_mem 276 I J T)) rfl trivial ?_
  refine ix_br (fun c2 => ?_) (fun c2 => ?_)
  · have h3 := hb.1 c2
    refine ix_go 1 (x' := (49, [some (.inr (.inr (.inl (some (204))))), some (.inl (x1)), none], [.inl (x1)], 0, 0, ix_mem 276 I J T)) rfl trivial ?_
    exact ix_sp rfl ⟨Nat.le_refl _, Nat.le_refl _, ix_01_ok h3.1, hQ _ _ _ _ h3.2⟩
  · have h3 := hb.2 c2
    refine ix_go 2 (x' := (13, [some (.inr (.inr (.inl (some (204))))), some (.inl (x1)), none], [.inl ((6 : Int32)), .inr (.inr (.inl (some (204))))], 0, 0, ix_mem 276 I J T)) rfl trivial ?_
    refine ix_sp rfl ⟨rfl, ⟨ix_lt rfl, ix_eq rfl, ix_lt rfl⟩, ix_le rfl, Nat.le_refl _, Nat.le_refl _, tp_X12_isKey h3 (fun v4 I4 J4 T4 h4 => ?_)⟩
    change ix_W _ _ _ (16, [some (.inr (.inr (.inl (some (204))))), some (.inl (x1)), none], [.inl (v4)], 0, 0, ix_mem 276 I4 J4 T4)
    refine ix_go 1 (x' := (if v4 = 0 then 19 else 28, [some (.inr (.inr (.inl (some (204))))), some (.inl (x1)), none], [], 0, 0, ix_mem 276 I4 J4 T4)) rfl trivial ?_
    refine ix_br (fun c5 => ?_) (fun c5 => ?_)
    · have h6 := h4.1 c5
      refine ix_go 2 (x' := (22, [some (.inr (.inr (.inl (some (204))))), some (.inl (x1)), none], [.inl ((7 : Int32)), .inr (.inr (.inl (some (204))))], 0, 0, ix_mem 276 I4 J4 T4)) rfl trivial ?_
      refine ix_sp rfl ⟨rfl, ⟨ix_lt rfl, ix_eq rfl, ix_lt rfl⟩, ix_le rfl, Nat.le_refl _, Nat.le_refl _, tp_X12_isKey h6 (fun v7 I7 J7 T7 h7 => ?_)⟩
      change ix_W _ _ _ (25, [some (.inr (.inr (.inl (some (204))))), some (.inl (x1)), none], [.inl (v7)], 0, 0, ix_mem 276 I7 J7 T7)
      refine ix_go 1 (x' := (if v7 = 0 then 48 else 28, [some (.inr (.inr (.inl (some (204))))), some (.inl (x1)), none], [], 0, 0, ix_mem 276 I7 J7 T7)) rfl trivial ?_
      refine ix_br (fun c8 => ?_) (fun c8 => ?_)
      · have h9 := h7.1 c8
        refine ix_go 1 (x' := (49, [some (.inr (.inr (.inl (some (204))))), some (.inl (x1)), none], [.inl (x1)], 0, 0, ix_mem 276 I7 J7 T7)) rfl trivial ?_
        exact ix_sp rfl ⟨Nat.le_refl _, Nat.le_refl _, ix_01_ok h9.1, hQ _ _ _ _ h9.2⟩
      · have h9 := h7.2 c8
        refine ix_go 2 (x' := (31, [some (.inr (.inr (.inl (some (204))))), some (.inl (x1)), none], [.inl ((6 : Int32)), .inr (.inr (.inl (some (204))))], 0, 0, ix_mem 276 I7 J7 T7)) rfl trivial ?_
        refine ix_sp rfl ⟨rfl, ⟨ix_lt rfl, ix_eq rfl, ix_lt rfl⟩, ix_le rfl, Nat.le_refl _, Nat.le_refl _, tp_X12_isKey h9 (fun v10 I10 J10 T10 h10 => ?_)⟩
        change ix_W _ _ _ (34, [some (.inr (.inr (.inl (some (204))))), some (.inl (x1)), none], [.inl (v10)], 0, 0, ix_mem 276 I10 J10 T10)
        refine ix_go 2 (x' := (36, [some (.inr (.inr (.inl (some (204))))), some (.inl (x1)), some (.inl (v10))], [.inr (.inr (.inl (some (204))))], 0, 0, ix_mem 276 I10 J10 T10)) rfl trivial ?_
        refine ix_sp rfl ⟨rfl, ⟨ix_lt rfl, ix_eq rfl, ix_lt rfl⟩, ix_le rfl, Nat.le_refl _, Nat.le_refl _, tp_X12_next h10 (fun I11 J11 T11 h11 => ?_)⟩
        change ix_W _ _ _ (39, [some (.inr (.inr (.inl (some (204))))), some (.inl (x1)), some (.inl (v10))], [], 0, 0, ix_mem 276 I11 J11 T11)
        refine ix_go 2 (x' := (41, [some (.inr (.inr (.inl (some (204))))), some (.inl (x1)), some (.inl (v10))], [.inl (v10), .inr (.inr (.inl (some (204))))], 0, 0, ix_mem 276 I11 J11 T11)) rfl trivial ?_
        refine ix_sp rfl ⟨rfl, ⟨ix_lt rfl, ix_eq rfl, ix_lt rfl⟩, ix_le rfl, Nat.le_refl _, Nat.le_refl _, tp_X12_one h11 (fun v12 I12 J12 T12 h12 => ?_)⟩
        change ix_W _ _ _ (44, [some (.inr (.inr (.inl (some (204))))), some (.inl (x1)), some (.inl (v10))], [.inl (v12)], 0, 0, ix_mem 276 I12 J12 T12)
        refine ix_go 2 (x' := (6, [some (.inr (.inr (.inl (some (204))))), some (.inl (v12)), some (.inl (v10))], [], 0, 0, ix_mem 276 I12 J12 T12)) rfl trivial ?_
        refine ix_subW ([some (.inr (.inr (.inl (some (204))))), some (.inl (v12)), none]) (ix_subS (ix_subS (ix_subN (ix_sub0)))) ?_
        exact h12
    · have h6 := h4.2 c5
      refine ix_go 2 (x' := (31, [some (.inr (.inr (.inl (some (204))))), some (.inl (x1)), none], [.inl ((6 : Int32)), .inr (.inr (.inl (some (204))))], 0, 0, ix_mem 276 I4 J4 T4)) rfl trivial ?_
      refine ix_sp rfl ⟨rfl, ⟨ix_lt rfl, ix_eq rfl, ix_lt rfl⟩, ix_le rfl, Nat.le_refl _, Nat.le_refl _, tp_X12_isKey h6 (fun v13 I13 J13 T13 h13 => ?_)⟩
      change ix_W _ _ _ (34, [some (.inr (.inr (.inl (some (204))))), some (.inl (x1)), none], [.inl (v13)], 0, 0, ix_mem 276 I13 J13 T13)
      refine ix_go 2 (x' := (36, [some (.inr (.inr (.inl (some (204))))), some (.inl (x1)), some (.inl (v13))], [.inr (.inr (.inl (some (204))))], 0, 0, ix_mem 276 I13 J13 T13)) rfl trivial ?_
      refine ix_sp rfl ⟨rfl, ⟨ix_lt rfl, ix_eq rfl, ix_lt rfl⟩, ix_le rfl, Nat.le_refl _, Nat.le_refl _, tp_X12_next h13 (fun I14 J14 T14 h14 => ?_)⟩
      change ix_W _ _ _ (39, [some (.inr (.inr (.inl (some (204))))), some (.inl (x1)), some (.inl (v13))], [], 0, 0, ix_mem 276 I14 J14 T14)
      refine ix_go 2 (x' := (41, [some (.inr (.inr (.inl (some (204))))), some (.inl (x1)), some (.inl (v13))], [.inl (v13), .inr (.inr (.inl (some (204))))], 0, 0, ix_mem 276 I14 J14 T14)) rfl trivial ?_
      refine ix_sp rfl ⟨rfl, ⟨ix_lt rfl, ix_eq rfl, ix_lt rfl⟩, ix_le rfl, Nat.le_refl _, Nat.le_refl _, tp_X12_one h14 (fun v15 I15 J15 T15 h15 => ?_)⟩
      change ix_W _ _ _ (44, [some (.inr (.inr (.inl (some (204))))), some (.inl (x1)), some (.inl (v13))], [.inl (v15)], 0, 0, ix_mem 276 I15 J15 T15)
      refine ix_go 2 (x' := (6, [some (.inr (.inr (.inl (some (204))))), some (.inl (v15)), some (.inl (v13))], [], 0, 0, ix_mem 276 I15 J15 T15)) rfl trivial ?_
      refine ix_subW ([some (.inr (.inr (.inl (some (204))))), some (.inl (v15)), none]) (ix_subS (ix_subS (ix_subN (ix_sub0)))) ?_
      exact h15
def wp_X12_test (I : Nat → Nat → Int32) (J : Nat → Nat → Int64) (T : Option Nat) (P : Int32 → (Nat → Nat → Int32) → (Nat → Nat → Int64) → Option Nat → Prop) : Prop := wp_X12_one ((1 : Int32)) I J T (fun v1 I1 J1 T1 => wl_X12_test_6 (v1) I1 J1 T1 P)
set_option maxRecDepth 20000 in
theorem tp_X12_test {d : Nat} {I : Nat → Nat → Int32} {J : Nat → Nat → Int64} {T : Option Nat} {P : Int32 → (Nat → Nat → Int32) → (Nat → Nat → Int64) → Option Nat → Prop} {Q : ix_Q} (h : wp_X12_test I J T P) (hQ : ∀ v I J T, P v I J T → Q (some (.inl v)) (ix_mem 276 I J T)) : ix_C (d + 7) 267 [.inr (.inr (.inl (some (204))))] (ix_mem 276 I J T) Q := by
  unfold wp_X12_test at h
  refine ix_enter (ls := [some (.inr (.inr (.inl (some (204))))), none, none]) rfl rfl rfl (Nat.le_of_ble_eq_true rfl) ?_
  refine ix_go 2 (x' := (2, [some (.inr (.inr (.inl (some (204))))), none, none], [.inl ((1 : Int32)), .inr (.inr (.inl (some (204))))], 0, 0, ix_mem 276 I J T)) rfl trivial ?_
  refine ix_sp rfl ⟨rfl, ⟨ix_lt rfl, ix_eq rfl, ix_lt rfl⟩, ix_le rfl, Nat.le_refl _, Nat.le_refl _, tp_X12_one h (fun v1 I1 J1 T1 h1 => ?_)⟩
  change ix_W _ _ _ (5, [some (.inr (.inr (.inl (some (204))))), none, none], [.inl (v1)], 0, 0, ix_mem 276 I1 J1 T1)
  refine ix_go 1 (x' := (6, [some (.inr (.inr (.inl (some (204))))), some (.inl (v1)), none], [], 0, 0, ix_mem 276 I1 J1 T1)) rfl trivial ?_
  refine ix_subW ([some (.inr (.inr (.inl (some (204))))), some (.inl (v1)), none]) (ix_subS (ix_subS (ix_subS (ix_sub0)))) ?_
  exact tl_X12_test_6 h1 hQ
def wj_X12_clause_j332_77_130 (x3 : Int32) (I : Nat → Nat → Int32) (J : Nat → Nat → Int64) (T : Option Nat) (V77 : Int64 → Int32 → (Nat → Nat → Int32) → (Nat → Nat → Int64) → Option Nat → Prop) (V130 : Int64 → Int32 → Int32 → (Nat → Nat → Int32) → (Nat → Nat → Int64) → Option Nat → Prop) (P : Int32 → (Nat → Nat → Int32) → (Nat → Nat → Int64) → Option Nat → Prop) : Prop := ix_inb (x3) 60 = true ∧ wp_X12_isKey ((5 : Int32)) (ix_u2 I 221 (x3).toNatClampNeg (I 204 45)) J T (fun v68 I68 J68 T68 => ((v68 = 0 → wp_X12_fail ((2 : Int32)) I68 J68 T68 (fun v71 I71 J71 T71 => ix_01 (v71) = true ∧ P (v71) I71 J71 T71)) ∧ (¬ (v68 = 0) → wp_X12_next I68 J68 T68 (fun I72 J72 T72 => ix_inb (x3) 60 = true ∧ wp_X12_sum (ix_u2 I72 222 (x3).toNatClampNeg (I72 204 44)) J72 T72 (fun v75 I75 J75 T75 => ((v75 = 0 → P ((0 : Int32)) I75 J75 T75) ∧ (¬ (v75 = 0) → ix_inb (x3) 60 = true ∧ ix_inb (I75 204 24) 5 = true ∧ ix_inb (I75 204 24) 5 = true ∧ wp_X12_want ((59 : Int32)) (ix_u2 (ix_u2 I75 223 (x3).toNatClampNeg (I75 204 44)) 216 (I75 204 24).toNatClampNeg ((I75 216 (I75 204 24).toNatClampNeg) + ((1 : Int32)))) J75 T75 (fun v84 I84 J84 T84 => ix_01 (v84) = true ∧ P (v84) I84 J84 T84))))))))
set_option maxRecDepth 20000 in
theorem tj_X12_clause_j332_77_130 {d : Nat} {x3 : Int32} {I : Nat → Nat → Int32} {J : Nat → Nat → Int64} {T : Option Nat} {V77 : Int64 → Int32 → (Nat → Nat → Int32) → (Nat → Nat → Int64) → Option Nat → Prop} {V130 : Int64 → Int32 → Int32 → (Nat → Nat → Int32) → (Nat → Nat → Int64) → Option Nat → Prop} {P : Int32 → (Nat → Nat → Int32) → (Nat → Nat → Int64) → Option Nat → Prop} {Q : ix_Q} (h : wj_X12_clause_j332_77_130 x3 I J T V77 V130 P) (hV77 : ∀ (x1 : Int64) (x3 : Int32) I J T, V77 x1 x3 I J T → ix_W (ix_C (d + 5)) (12, ix_lk ix_l268, (some .boolean), 0, 0, Nat.blt 0 0, none) Q (77, [some (.inr (.inr (.inl (some (204))))), some (.inr (.inl (x1))), none, some (.inl (x3)), none], [], 0, 0, ix_mem 276 I J T)) (hV130 : ∀ (x1 : Int64) (x3 : Int32) (x4 : Int32) I J T, V130 x1 x3 x4 I J T → ix_W (ix_C (d + 5)) (12, ix_lk ix_l268, (some .boolean), 0, 0, Nat.blt 0 0, none) Q (130, [some (.inr (.inr (.inl (some (204))))), some (.inr (.inl (x1))), none, some (.inl (x3)), some (.inl (x4))], [], 0, 0, ix_mem 276 I J T)) (hQ : ∀ v I J T, P v I J T → Q (some (.inl v)) (ix_mem 276 I J T)) : ix_W (ix_C (d + 5)) (12, ix_lk ix_l268, (some .boolean), 0, 0, Nat.blt 0 0, none) Q (332, [some (.inr (.inr (.inl (some (204))))), none, none, some (.inl (x3)), none], [], 0, 0, ix_mem 276 I J T) := by
  unfold wj_X12_clause_j332_77_130 at h
  obtain ⟨p66, h67⟩ := h
  refine ix_go 7 (x' := (343, [some (.inr (.inr (.inl (some (204))))), none, none, some (.inl (x3)), none], [.inr (.inr (.inl (some (204))))], 0, 0, ix_mem 276 (ix_u2 I 221 (x3).toNatClampNeg (I 204 45)) J T)) rfl ⟨rfl, rfl, rfl, rfl, rfl, rfl, p66⟩ ?_
  refine ix_go 1 (x' := (344, [some (.inr (.inr (.inl (some (204))))), none, none, some (.inl (x3)), none], [.inl ((5 : Int32)), .inr (.inr (.inl (some (204))))], 0, 0, ix_mem 276 (ix_u2 I 221 (x3).toNatClampNeg (I 204 45)) J T)) rfl trivial ?_
  refine ix_sp rfl ⟨rfl, ⟨ix_lt rfl, ix_eq rfl, ix_lt rfl⟩, ix_le rfl, Nat.le_refl _, Nat.le_refl _, tp_X12_isKey h67 (fun v68 I68 J68 T68 h68 => ?_)⟩
  change ix_W _ _ _ (347, [some (.inr (.inr (.inl (some (204))))), none, none, some (.inl (x3)), none], [.inl (v68)], 0, 0, ix_mem 276 I68 J68 T68)
  refine ix_go 1 (x' := (if v68 = 0 then 350 else 356, [some (.inr (.inr (.inl (some (204))))), none, none, some (.inl (x3)), none], [], 0, 0, ix_mem 276 I68 J68 T68)) rfl trivial ?_
  refine ix_br (fun c69 => ?_) (fun c69 => ?_)
  · have h70 := h68.1 c69
    refine ix_go 2 (x' := (352, [some (.inr (.inr (.inl (some (204))))), none, none, some (.inl (x3)), none], [.inl ((2 : Int32)), .inr (.inr (.inl (some (204))))], 0, 0, ix_mem 276 I68 J68 T68)) rfl trivial ?_
    refine ix_sp rfl ⟨rfl, ⟨ix_lt rfl, ix_eq rfl, ix_lt rfl⟩, ix_le rfl, Nat.le_refl _, Nat.le_refl _, tp_X12_fail h70 (fun v71 I71 J71 T71 h71 => ?_)⟩
    change ix_W _ _ _ (355, [some (.inr (.inr (.inl (some (204))))), none, none, some (.inl (x3)), none], [.inl (v71)], 0, 0, ix_mem 276 I71 J71 T71)
    exact ix_sp rfl ⟨Nat.le_refl _, Nat.le_refl _, ix_01_ok h71.1, hQ _ _ _ _ h71.2⟩
  · have h70 := h68.2 c69
    refine ix_go 1 (x' := (357, [some (.inr (.inr (.inl (some (204))))), none, none, some (.inl (x3)), none], [.inr (.inr (.inl (some (204))))], 0, 0, ix_mem 276 I68 J68 T68)) rfl trivial ?_
    refine ix_sp rfl ⟨rfl, ⟨ix_lt rfl, ix_eq rfl, ix_lt rfl⟩, ix_le rfl, Nat.le_refl _, Nat.le_refl _, tp_X12_next h70 (fun I72 J72 T72 h72 => ?_)⟩
    change ix_W _ _ _ (360, [some (.inr (.inr (.inl (some (204))))), none, none, some (.inl (x3)), none], [], 0, 0, ix_mem 276 I72 J72 T72)
    obtain ⟨p73, h74⟩ := h72
    refine ix_go 7 (x' := (371, [some (.inr (.inr (.inl (some (204))))), none, none, some (.inl (x3)), none], [.inr (.inr (.inl (some (204))))], 0, 0, ix_mem 276 (ix_u2 I72 222 (x3).toNatClampNeg (I72 204 44)) J72 T72)) rfl ⟨rfl, rfl, rfl, rfl, rfl, rfl, p73⟩ ?_
    refine ix_sp rfl ⟨rfl, ⟨ix_lt rfl, ix_eq rfl, ix_lt rfl⟩, ix_le rfl, Nat.le_refl _, Nat.le_refl _, tp_X12_sum h74 (fun v75 I75 J75 T75 h75 => ?_)⟩
    change ix_W _ _ _ (374, [some (.inr (.inr (.inl (some (204))))), none, none, some (.inl (x3)), none], [.inl (v75)], 0, 0, ix_mem 276 I75 J75 T75)
    refine ix_go 1 (x' := (if v75 = 0 then 377 else 379, [some (.inr (.inr (.inl (some (204))))), none, none, some (.inl (x3)), none], [], 0, 0, ix_mem 276 I75 J75 T75)) rfl trivial ?_
    refine ix_br (fun c76 => ?_) (fun c76 => ?_)
    · have h77 := h75.1 c76
      refine ix_go 1 (x' := (378, [some (.inr (.inr (.inl (some (204))))), none, none, some (.inl (x3)), none], [.inl ((0 : Int32))], 0, 0, ix_mem 276 I75 J75 T75)) rfl trivial ?_
      exact ix_sp rfl ⟨Nat.le_refl _, Nat.le_refl _, ix_01_ok rfl, hQ _ _ _ _ h77⟩
    · have h77 := h75.2 c76
      obtain ⟨p78, h79⟩ := h77
      refine ix_go 7 (x' := (390, [some (.inr (.inr (.inl (some (204))))), none, none, some (.inl (x3)), none], [.inr (.inr (.inl (some (204))))], 0, 0, ix_mem 276 (ix_u2 I75 223 (x3).toNatClampNeg (I75 204 44)) J75 T75)) rfl ⟨rfl, rfl, rfl, rfl, rfl, rfl, p78⟩ ?_
      obtain ⟨p80, h81⟩ := h79
      refine ix_go 7 (x' := (401, [some (.inr (.inr (.inl (some (204))))), none, none, some (.inl (x3)), none], [.inl ((I75 216 (I75 204 24).toNatClampNeg) + ((1 : Int32))), .inl (I75 204 24), .inr (.inr (.inl (some (216))))], 0, 0, ix_mem 276 (ix_u2 I75 223 (x3).toNatClampNeg (I75 204 44)) J75 T75)) rfl ⟨rfl, rfl, rfl, rfl, rfl, rfl, p80⟩ ?_
      obtain ⟨p82, h83⟩ := h81
      refine ix_go 3 (x' := (405, [some (.inr (.inr (.inl (some (204))))), none, none, some (.inl (x3)), none], [.inl ((59 : Int32)), .inr (.inr (.inl (some (204))))], 0, 0, ix_mem 276 (ix_u2 (ix_u2 I75 223 (x3).toNatClampNeg (I75 204 44)) 216 (I75 204 24).toNatClampNeg ((I75 216 (I75 204 24).toNatClampNeg) + ((1 : Int32)))) J75 T75)) rfl ⟨rfl, rfl, p82⟩ ?_
      refine ix_sp rfl ⟨rfl, ⟨ix_lt rfl, ix_eq rfl, ix_lt rfl⟩, ix_le rfl, Nat.le_refl _, Nat.le_refl _, tp_X12_want h83 (fun v84 I84 J84 T84 h84 => ?_)⟩
      change ix_W _ _ _ (408, [some (.inr (.inr (.inl (some (204))))), none, none, some (.inl (x3)), none], [.inl (v84)], 0, 0, ix_mem 276 I84 J84 T84)
      exact ix_sp rfl ⟨Nat.le_refl _, Nat.le_refl _, ix_01_ok h84.1, hQ _ _ _ _ h84.2⟩
def wj_X12_clause_j292_77_130 (x3 : Int32) (I : Nat → Nat → Int32) (J : Nat → Nat → Int64) (T : Option Nat) (V77 : Int64 → Int32 → (Nat → Nat → Int32) → (Nat → Nat → Int64) → Option Nat → Prop) (V130 : Int64 → Int32 → Int32 → (Nat → Nat → Int32) → (Nat → Nat → Int64) → Option Nat → Prop) (P : Int32 → (Nat → Nat → Int32) → (Nat → Nat → Int64) → Option Nat → Prop) : Prop := ((I 204 22 ≤ 0 → ix_inb (x3) 60 = true ∧ wp_X12_isKey ((4 : Int32)) (ix_u2 I 220 (x3).toNatClampNeg (I 204 45)) J T (fun v63 I63 J63 T63 => ((v63 = 0 → wj_X12_clause_j332_77_130 (x3) I63 J63 T63 V77 V130 P) ∧ (¬ (v63 = 0) → wp_X12_next I63 J63 T63 (fun I85 J85 T85 => wp_X12_test I85 J85 T85 (fun v86 I86 J86 T86 => ((v86 = 0 → P ((0 : Int32)) I86 J86 T86) ∧ (¬ (v86 = 0) → wj_X12_clause_j332_77_130 (x3) I86 J86 T86 V77 V130 P)))))))) ∧ (¬ (I 204 22 ≤ 0) → P ((0 : Int32)) I J T))
set_option maxRecDepth 20000 in
theorem tj_X12_clause_j292_77_130 {d : Nat} {x3 : Int32} {I : Nat → Nat → Int32} {J : Nat → Nat → Int64} {T : Option Nat} {V77 : Int64 → Int32 → (Nat → Nat → Int32) → (Nat → Nat → Int64) → Option Nat → Prop} {V130 : Int64 → Int32 → Int32 → (Nat → Nat → Int32) → (Nat → Nat → Int64) → Option Nat → Prop} {P : Int32 → (Nat → Nat → Int32) → (Nat → Nat → Int64) → Option Nat → Prop} {Q : ix_Q} (h : wj_X12_clause_j292_77_130 x3 I J T V77 V130 P) (hV77 : ∀ (x1 : Int64) (x3 : Int32) I J T, V77 x1 x3 I J T → ix_W (ix_C (d + 7)) (12, ix_lk ix_l268, (some .boolean), 0, 0, Nat.blt 0 0, none) Q (77, [some (.inr (.inr (.inl (some (204))))), some (.inr (.inl (x1))), none, some (.inl (x3)), none], [], 0, 0, ix_mem 276 I J T)) (hV130 : ∀ (x1 : Int64) (x3 : Int32) (x4 : Int32) I J T, V130 x1 x3 x4 I J T → ix_W (ix_C (d + 7)) (12, ix_lk ix_l268, (some .boolean), 0, 0, Nat.blt 0 0, none) Q (130, [some (.inr (.inr (.inl (some (204))))), some (.inr (.inl (x1))), none, some (.inl (x3)), some (.inl (x4))], [], 0, 0, ix_mem 276 I J T)) (hQ : ∀ v I J T, P v I J T → Q (some (.inl v)) (ix_mem 276 I J T)) : ix_W (ix_C (d + 7)) (12, ix_lk ix_l268, (some .boolean), 0, 0, Nat.blt 0 0, none) Q (292, [some (.inr (.inr (.inl (some (204))))), none, none, some (.inl (x3)), none], [], 0, 0, ix_mem 276 I J T) := by
  unfold wj_X12_clause_j292_77_130 at h
  refine ix_go 3 (x' := (if I 204 22 ≤ 0 then 301 else 299, [some (.inr (.inr (.inl (some (204))))), none, none, some (.inl (x3)), none], [], 0, 0, ix_mem 276 I J T)) rfl ⟨rfl, rfl⟩ ?_
  refine ix_br (fun c59 => ?_) (fun c59 => ?_)
  · have h60 := h.1 c59
    obtain ⟨p61, h62⟩ := h60
    refine ix_go 7 (x' := (312, [some (.inr (.inr (.inl (some (204))))), none, none, some (.inl (x3)), none], [.inr (.inr (.inl (some (204))))], 0, 0, ix_mem 276 (ix_u2 I 220 (x3).toNatClampNeg (I 204 45)) J T)) rfl ⟨rfl, rfl, rfl, rfl, rfl, rfl, p61⟩ ?_
    refine ix_go 1 (x' := (313, [some (.inr (.inr (.inl (some (204))))), none, none, some (.inl (x3)), none], [.inl ((4 : Int32)), .inr (.inr (.inl (some (204))))], 0, 0, ix_mem 276 (ix_u2 I 220 (x3).toNatClampNeg (I 204 45)) J T)) rfl trivial ?_
    refine ix_sp rfl ⟨rfl, ⟨ix_lt rfl, ix_eq rfl, ix_lt rfl⟩, ix_le rfl, Nat.le_refl _, Nat.le_refl _, tp_X12_isKey h62 (fun v63 I63 J63 T63 h63 => ?_)⟩
    change ix_W _ _ _ (316, [some (.inr (.inr (.inl (some (204))))), none, none, some (.inl (x3)), none], [.inl (v63)], 0, 0, ix_mem 276 I63 J63 T63)
    refine ix_go 1 (x' := (if v63 = 0 then 332 else 319, [some (.inr (.inr (.inl (some (204))))), none, none, some (.inl (x3)), none], [], 0, 0, ix_mem 276 I63 J63 T63)) rfl trivial ?_
    refine ix_br (fun c64 => ?_) (fun c64 => ?_)
    · have h65 := h63.1 c64
      refine ix_subW ([some (.inr (.inr (.inl (some (204))))), none, none, some (.inl (x3)), none]) (ix_subS (ix_subS (ix_subS (ix_subS (ix_subS (ix_sub0)))))) ?_
      exact tj_X12_clause_j332_77_130 h65 hV77 hV130 hQ
    · have h65 := h63.2 c64
      refine ix_go 1 (x' := (320, [some (.inr (.inr (.inl (some (204))))), none, none, some (.inl (x3)), none], [.inr (.inr (.inl (some (204))))], 0, 0, ix_mem 276 I63 J63 T63)) rfl trivial ?_
      refine ix_sp rfl ⟨rfl, ⟨ix_lt rfl, ix_eq rfl, ix_lt rfl⟩, ix_le rfl, Nat.le_refl _, Nat.le_refl _, tp_X12_next h65 (fun I85 J85 T85 h85 => ?_)⟩
      change ix_W _ _ _ (323, [some (.inr (.inr (.inl (some (204))))), none, none, some (.inl (x3)), none], [], 0, 0, ix_mem 276 I85 J85 T85)
      refine ix_go 1 (x' := (324, [some (.inr (.inr (.inl (some (204))))), none, none, some (.inl (x3)), none], [.inr (.inr (.inl (some (204))))], 0, 0, ix_mem 276 I85 J85 T85)) rfl trivial ?_
      refine ix_sp rfl ⟨rfl, ⟨ix_lt rfl, ix_eq rfl, ix_lt rfl⟩, ix_le rfl, Nat.le_refl _, Nat.le_refl _, tp_X12_test h85 (fun v86 I86 J86 T86 h86 => ?_)⟩
      change ix_W _ _ _ (327, [some (.inr (.inr (.inl (some (204))))), none, none, some (.inl (x3)), none], [.inl (v86)], 0, 0, ix_mem 276 I86 J86 T86)
      refine ix_go 1 (x' := (if v86 = 0 then 330 else 332, [some (.inr (.inr (.inl (some (204))))), none, none, some (.inl (x3)), none], [], 0, 0, ix_mem 276 I86 J86 T86)) rfl trivial ?_
      refine ix_br (fun c87 => ?_) (fun c87 => ?_)
      · have h88 := h86.1 c87
        refine ix_go 1 (x' := (331, [some (.inr (.inr (.inl (some (204))))), none, none, some (.inl (x3)), none], [.inl ((0 : Int32))], 0, 0, ix_mem 276 I86 J86 T86)) rfl trivial ?_
        exact ix_sp rfl ⟨Nat.le_refl _, Nat.le_refl _, ix_01_ok rfl, hQ _ _ _ _ h88⟩
      · have h88 := h86.2 c87
        refine ix_subW ([some (.inr (.inr (.inl (some (204))))), none, none, some (.inl (x3)), none]) (ix_subS (ix_subS (ix_subS (ix_subS (ix_subS (ix_sub0)))))) ?_
        exact tj_X12_clause_j332_77_130 h88 hV77 hV130 hQ
  · have h60 := h.2 c59
    refine ix_go 1 (x' := (300, [some (.inr (.inr (.inl (some (204))))), none, none, some (.inl (x3)), none], [.inl ((0 : Int32))], 0, 0, ix_mem 276 I J T)) rfl trivial ?_
    exact ix_sp rfl ⟨Nat.le_refl _, Nat.le_refl _, ix_01_ok rfl, hQ _ _ _ _ h60⟩
def wj_X12_clause_j263_77_130 (x3 : Int32) (I : Nat → Nat → Int32) (J : Nat → Nat → Int64) (T : Option Nat) (V77 : Int64 → Int32 → (Nat → Nat → Int32) → (Nat → Nat → Int64) → Option Nat → Prop) (V130 : Int64 → Int32 → Int32 → (Nat → Nat → Int32) → (Nat → Nat → Int64) → Option Nat → Prop) (P : Int32 → (Nat → Nat → Int32) → (Nat → Nat → Int64) → Option Nat → Prop) : Prop := ((I 204 22 = 0 → wp_X12_isKey ((3 : Int32)) I J T (fun v56 I56 J56 T56 => ((v56 = 0 → wj_X12_clause_j292_77_130 (x3) I56 J56 T56 V77 V130 P) ∧ (¬ (v56 = 0) → wp_X12_next I56 J56 T56 (fun I89 J89 T89 => wp_X12_list I89 J89 T89 (fun v90 I90 J90 T90 => ix_inb (x3) 60 = true ∧ wj_X12_clause_j292_77_130 (x3) (ix_u2 I90 219 (x3).toNatClampNeg (v90)) J90 T90 V77 V130 P)))))) ∧ (¬ (I 204 22 = 0) → wj_X12_clause_j292_77_130 (x3) I J T V77 V130 P))
set_option maxRecDepth 20000 in
theorem tj_X12_clause_j263_77_130 {d : Nat} {x3 : Int32} {I : Nat → Nat → Int32} {J : Nat → Nat → Int64} {T : Option Nat} {V77 : Int64 → Int32 → (Nat → Nat → Int32) → (Nat → Nat → Int64) → Option Nat → Prop} {V130 : Int64 → Int32 → Int32 → (Nat → Nat → Int32) → (Nat → Nat → Int64) → Option Nat → Prop} {P : Int32 → (Nat → Nat → Int32) → (Nat → Nat → Int64) → Option Nat → Prop} {Q : ix_Q} (h : wj_X12_clause_j263_77_130 x3 I J T V77 V130 P) (hV77 : ∀ (x1 : Int64) (x3 : Int32) I J T, V77 x1 x3 I J T → ix_W (ix_C (d + 7)) (12, ix_lk ix_l268, (some .boolean), 0, 0, Nat.blt 0 0, none) Q (77, [some (.inr (.inr (.inl (some (204))))), some (.inr (.inl (x1))), none, some (.inl (x3)), none], [], 0, 0, ix_mem 276 I J T)) (hV130 : ∀ (x1 : Int64) (x3 : Int32) (x4 : Int32) I J T, V130 x1 x3 x4 I J T → ix_W (ix_C (d + 7)) (12, ix_lk ix_l268, (some .boolean), 0, 0, Nat.blt 0 0, none) Q (130, [some (.inr (.inr (.inl (some (204))))), some (.inr (.inl (x1))), none, some (.inl (x3)), some (.inl (x4))], [], 0, 0, ix_mem 276 I J T)) (hQ : ∀ v I J T, P v I J T → Q (some (.inl v)) (ix_mem 276 I J T)) : ix_W (ix_C (d + 7)) (12, ix_lk ix_l268, (some .boolean), 0, 0, Nat.blt 0 0, none) Q (263, [some (.inr (.inr (.inl (some (204))))), none, none, some (.inl (x3)), none], [], 0, 0, ix_mem 276 I J T) := by
  unfold wj_X12_clause_j263_77_130 at h
  refine ix_go 3 (x' := (if I 204 22 = 0 then 270 else 292, [some (.inr (.inr (.inl (some (204))))), none, none, some (.inl (x3)), none], [], 0, 0, ix_mem 276 I J T)) rfl ⟨rfl, rfl⟩ ?_
  refine ix_br (fun c54 => ?_) (fun c54 => ?_)
  · have h55 := h.1 c54
    refine ix_go 2 (x' := (272, [some (.inr (.inr (.inl (some (204))))), none, none, some (.inl (x3)), none], [.inl ((3 : Int32)), .inr (.inr (.inl (some (204))))], 0, 0, ix_mem 276 I J T)) rfl trivial ?_
    refine ix_sp rfl ⟨rfl, ⟨ix_lt rfl, ix_eq rfl, ix_lt rfl⟩, ix_le rfl, Nat.le_refl _, Nat.le_refl _, tp_X12_isKey h55 (fun v56 I56 J56 T56 h56 => ?_)⟩
    change ix_W _ _ _ (275, [some (.inr (.inr (.inl (some (204))))), none, none, some (.inl (x3)), none], [.inl (v56)], 0, 0, ix_mem 276 I56 J56 T56)
    refine ix_go 1 (x' := (if v56 = 0 then 292 else 278, [some (.inr (.inr (.inl (some (204))))), none, none, some (.inl (x3)), none], [], 0, 0, ix_mem 276 I56 J56 T56)) rfl trivial ?_
    refine ix_br (fun c57 => ?_) (fun c57 => ?_)
    · have h58 := h56.1 c57
      refine ix_subW ([some (.inr (.inr (.inl (some (204))))), none, none, some (.inl (x3)), none]) (ix_subS (ix_subS (ix_subS (ix_subS (ix_subS (ix_sub0)))))) ?_
      exact tj_X12_clause_j292_77_130 h58 hV77 hV130 hQ
    · have h58 := h56.2 c57
      refine ix_go 1 (x' := (279, [some (.inr (.inr (.inl (some (204))))), none, none, some (.inl (x3)), none], [.inr (.inr (.inl (some (204))))], 0, 0, ix_mem 276 I56 J56 T56)) rfl trivial ?_
      refine ix_sp rfl ⟨rfl, ⟨ix_lt rfl, ix_eq rfl, ix_lt rfl⟩, ix_le rfl, Nat.le_refl _, Nat.le_refl _, tp_X12_next h58 (fun I89 J89 T89 h89 => ?_)⟩
      change ix_W _ _ _ (282, [some (.inr (.inr (.inl (some (204))))), none, none, some (.inl (x3)), none], [], 0, 0, ix_mem 276 I89 J89 T89)
      refine ix_go 4 (x' := (288, [some (.inr (.inr (.inl (some (204))))), none, none, some (.inl (x3)), none], [.inr (.inr (.inl (some (204)))), .inl (x3), .inr (.inr (.inl (some (219))))], 0, 0, ix_mem 276 I89 J89 T89)) rfl ⟨rfl, rfl⟩ ?_
      refine ix_sp rfl ⟨rfl, ⟨ix_lt rfl, ix_eq rfl, ix_lt rfl⟩, ix_le rfl, Nat.le_refl _, Nat.le_refl _, tp_X12_list h89 (fun v90 I90 J90 T90 h90 => ?_)⟩
      change ix_W _ _ _ (291, [some (.inr (.inr (.inl (some (204))))), none, none, some (.inl (x3)), none], [.inl (v90), .inl (x3), .inr (.inr (.inl (some (219))))], 0, 0, ix_mem 276 I90 J90 T90)
      obtain ⟨p91, h92⟩ := h90
      refine ix_go 1 (x' := (292, [some (.inr (.inr (.inl (some (204))))), none, none, some (.inl (x3)), none], [], 0, 0, ix_mem 276 (ix_u2 I90 219 (x3).toNatClampNeg (v90)) J90 T90)) rfl ⟨rfl, rfl, p91⟩ ?_
      refine ix_subW ([some (.inr (.inr (.inl (some (204))))), none, none, some (.inl (x3)), none]) (ix_subS (ix_subS (ix_subS (ix_subS (ix_subS (ix_sub0)))))) ?_
      exact tj_X12_clause_j292_77_130 h92 hV77 hV130 hQ
  · have h55 := h.2 c54
    refine ix_subW ([some (.inr (.inr (.inl (some (204))))), none, none, some (.inl (x3)), none]) (ix_subS (ix_subS (ix_subS (ix_subS (ix_subS (ix_sub0)))))) ?_
    exact tj_X12_clause_j292_77_130 h55 hV77 hV130 hQ
def wj_X12_clause_j222_77_130_k217 (x3 : Int32) (s1 : Int32) (s2 : Int32) (I : Nat → Nat → Int32) (J : Nat → Nat → Int64) (T : Option Nat) (V77 : Int64 → Int32 → (Nat → Nat → Int32) → (Nat → Nat → Int64) → Option Nat → Prop) (V130 : Int64 → Int32 → Int32 → (Nat → Nat → Int32) → (Nat → Nat → Int64) → Option Nat → Prop) (P : Int32 → (Nat → Nat → Int32) → (Nat → Nat → Int64) → Option Nat → Prop) : Prop := ix_inb (s1) 60 = true ∧ wp_X12_next (ix_u2 I 217 (s1).toNatClampNeg (s2)) J T (fun I46 J46 T46 => ix_inb (x3) 60 = true ∧ ix_inb (x3) 60 = true ∧ wp_X12_isKey ((2 : Int32)) (ix_u2 (ix_u2 I46 218 (x3).toNatClampNeg ((-1 : Int32))) 219 (x3).toNatClampNeg ((-1 : Int32))) J46 T46 (fun v51 I51 J51 T51 => ((v51 = 0 → wj_X12_clause_j263_77_130 (x3) I51 J51 T51 V77 V130 P) ∧ (¬ (v51 = 0) → wp_X12_next I51 J51 T51 (fun I93 J93 T93 => wp_X12_list I93 J93 T93 (fun v94 I94 J94 T94 => ix_inb (x3) 60 = true ∧ wj_X12_clause_j263_77_130 (x3) (ix_u2 I94 218 (x3).toNatClampNeg (v94)) J94 T94 V77 V130 P))))))
set_option maxRecDepth 20000 in
theorem tj_X12_clause_j222_77_130_k217 {d : Nat} {x3 : Int32} {s1 : Int32} {s2 : Int32} {I : Nat → Nat → Int32} {J : Nat → Nat → Int64} {T : Option Nat} {V77 : Int64 → Int32 → (Nat → Nat → Int32) → (Nat → Nat → Int64) → Option Nat → Prop} {V130 : Int64 → Int32 → Int32 → (Nat → Nat → Int32) → (Nat → Nat → Int64) → Option Nat → Prop} {P : Int32 → (Nat → Nat → Int32) → (Nat → Nat → Int64) → Option Nat → Prop} {Q : ix_Q} (h : wj_X12_clause_j222_77_130_k217 x3 s1 s2 I J T V77 V130 P) (hV77 : ∀ (x1 : Int64) (x3 : Int32) I J T, V77 x1 x3 I J T → ix_W (ix_C (d + 7)) (12, ix_lk ix_l268, (some .boolean), 0, 0, Nat.blt 0 0, none) Q (77, [some (.inr (.inr (.inl (some (204))))), some (.inr (.inl (x1))), none, some (.inl (x3)), none], [], 0, 0, ix_mem 276 I J T)) (hV130 : ∀ (x1 : Int64) (x3 : Int32) (x4 : Int32) I J T, V130 x1 x3 x4 I J T → ix_W (ix_C (d + 7)) (12, ix_lk ix_l268, (some .boolean), 0, 0, Nat.blt 0 0, none) Q (130, [some (.inr (.inr (.inl (some (204))))), some (.inr (.inl (x1))), none, some (.inl (x3)), some (.inl (x4))], [], 0, 0, ix_mem 276 I J T)) (hQ : ∀ v I J T, P v I J T → Q (some (.inl v)) (ix_mem 276 I J T)) : ix_W (ix_C (d + 7)) (12, ix_lk ix_l268, (some .boolean), 0, 0, Nat.blt 0 0, none) Q (222, [some (.inr (.inr (.inl (some (204))))), none, none, some (.inl (x3)), none], [.inl (s2), .inl (s1), .inr (.inr (.inl (some (217))))], 0, 0, ix_mem 276 I J T) := by
  unfold wj_X12_clause_j222_77_130_k217 at h
  obtain ⟨p44, h45⟩ := h
  refine ix_go 2 (x' := (224, [some (.inr (.inr (.inl (some (204))))), none, none, some (.inl (x3)), none], [.inr (.inr (.inl (some (204))))], 0, 0, ix_mem 276 (ix_u2 I 217 (s1).toNatClampNeg (s2)) J T)) rfl ⟨rfl, rfl, p44⟩ ?_
  refine ix_sp rfl ⟨rfl, ⟨ix_lt rfl, ix_eq rfl, ix_lt rfl⟩, ix_le rfl, Nat.le_refl _, Nat.le_refl _, tp_X12_next h45 (fun I46 J46 T46 h46 => ?_)⟩
  change ix_W _ _ _ (227, [some (.inr (.inr (.inl (some (204))))), none, none, some (.inl (x3)), none], [], 0, 0, ix_mem 276 I46 J46 T46)
  obtain ⟨p47, h48⟩ := h46
  refine ix_go 7 (x' := (238, [some (.inr (.inr (.inl (some (204))))), none, none, some (.inl (x3)), none], [.inr (.inr (.inl (some (219))))], 0, 0, ix_mem 276 (ix_u2 I46 218 (x3).toNatClampNeg ((-1 : Int32))) J46 T46)) rfl ⟨rfl, rfl, rfl, rfl, p47, rfl, rfl⟩ ?_
  obtain ⟨p49, h50⟩ := h48
  refine ix_go 5 (x' := (243, [some (.inr (.inr (.inl (some (204))))), none, none, some (.inl (x3)), none], [.inl ((2 : Int32)), .inr (.inr (.inl (some (204))))], 0, 0, ix_mem 276 (ix_u2 (ix_u2 I46 218 (x3).toNatClampNeg ((-1 : Int32))) 219 (x3).toNatClampNeg ((-1 : Int32))) J46 T46)) rfl ⟨rfl, rfl, p49⟩ ?_
  refine ix_sp rfl ⟨rfl, ⟨ix_lt rfl, ix_eq rfl, ix_lt rfl⟩, ix_le rfl, Nat.le_refl _, Nat.le_refl _, tp_X12_isKey h50 (fun v51 I51 J51 T51 h51 => ?_)⟩
  change ix_W _ _ _ (246, [some (.inr (.inr (.inl (some (204))))), none, none, some (.inl (x3)), none], [.inl (v51)], 0, 0, ix_mem 276 I51 J51 T51)
  refine ix_go 1 (x' := (if v51 = 0 then 263 else 249, [some (.inr (.inr (.inl (some (204))))), none, none, some (.inl (x3)), none], [], 0, 0, ix_mem 276 I51 J51 T51)) rfl trivial ?_
  refine ix_br (fun c52 => ?_) (fun c52 => ?_)
  · have h53 := h51.1 c52
    refine ix_subW ([some (.inr (.inr (.inl (some (204))))), none, none, some (.inl (x3)), none]) (ix_subS (ix_subS (ix_subS (ix_subS (ix_subS (ix_sub0)))))) ?_
    exact tj_X12_clause_j263_77_130 h53 hV77 hV130 hQ
  · have h53 := h51.2 c52
    refine ix_go 1 (x' := (250, [some (.inr (.inr (.inl (some (204))))), none, none, some (.inl (x3)), none], [.inr (.inr (.inl (some (204))))], 0, 0, ix_mem 276 I51 J51 T51)) rfl trivial ?_
    refine ix_sp rfl ⟨rfl, ⟨ix_lt rfl, ix_eq rfl, ix_lt rfl⟩, ix_le rfl, Nat.le_refl _, Nat.le_refl _, tp_X12_next h53 (fun I93 J93 T93 h93 => ?_)⟩
    change ix_W _ _ _ (253, [some (.inr (.inr (.inl (some (204))))), none, none, some (.inl (x3)), none], [], 0, 0, ix_mem 276 I93 J93 T93)
    refine ix_go 4 (x' := (259, [some (.inr (.inr (.inl (some (204))))), none, none, some (.inl (x3)), none], [.inr (.inr (.inl (some (204)))), .inl (x3), .inr (.inr (.inl (some (218))))], 0, 0, ix_mem 276 I93 J93 T93)) rfl ⟨rfl, rfl⟩ ?_
    refine ix_sp rfl ⟨rfl, ⟨ix_lt rfl, ix_eq rfl, ix_lt rfl⟩, ix_le rfl, Nat.le_refl _, Nat.le_refl _, tp_X12_list h93 (fun v94 I94 J94 T94 h94 => ?_)⟩
    change ix_W _ _ _ (262, [some (.inr (.inr (.inl (some (204))))), none, none, some (.inl (x3)), none], [.inl (v94), .inl (x3), .inr (.inr (.inl (some (218))))], 0, 0, ix_mem 276 I94 J94 T94)
    obtain ⟨p95, h96⟩ := h94
    refine ix_go 1 (x' := (263, [some (.inr (.inr (.inl (some (204))))), none, none, some (.inl (x3)), none], [], 0, 0, ix_mem 276 (ix_u2 I94 218 (x3).toNatClampNeg (v94)) J94 T94)) rfl ⟨rfl, rfl, p95⟩ ?_
    refine ix_subW ([some (.inr (.inr (.inl (some (204))))), none, none, some (.inl (x3)), none]) (ix_subS (ix_subS (ix_subS (ix_subS (ix_subS (ix_sub0)))))) ?_
    exact tj_X12_clause_j263_77_130 h96 hV77 hV130 hQ
def wj_X12_clause_j204_77_130 (x3 : Int32) (I : Nat → Nat → Int32) (J : Nat → Nat → Int64) (T : Option Nat) (V77 : Int64 → Int32 → (Nat → Nat → Int32) → (Nat → Nat → Int64) → Option Nat → Prop) (V130 : Int64 → Int32 → Int32 → (Nat → Nat → Int32) → (Nat → Nat → Int64) → Option Nat → Prop) (P : Int32 → (Nat → Nat → Int32) → (Nat → Nat → Int64) → Option Nat → Prop) : Prop := wp_X12_isKey ((1 : Int32)) I J T (fun v41 I41 J41 T41 => ((v41 = 0 → wj_X12_clause_j222_77_130_k217 (x3) (x3) ((0 : Int32)) I41 J41 T41 V77 V130 P) ∧ (¬ (v41 = 0) → wj_X12_clause_j222_77_130_k217 (x3) (x3) ((1 : Int32)) I41 J41 T41 V77 V130 P)))
set_option maxRecDepth 20000 in
theorem tj_X12_clause_j204_77_130 {d : Nat} {x3 : Int32} {I : Nat → Nat → Int32} {J : Nat → Nat → Int64} {T : Option Nat} {V77 : Int64 → Int32 → (Nat → Nat → Int32) → (Nat → Nat → Int64) → Option Nat → Prop} {V130 : Int64 → Int32 → Int32 → (Nat → Nat → Int32) → (Nat → Nat → Int64) → Option Nat → Prop} {P : Int32 → (Nat → Nat → Int32) → (Nat → Nat → Int64) → Option Nat → Prop} {Q : ix_Q} (h : wj_X12_clause_j204_77_130 x3 I J T V77 V130 P) (hV77 : ∀ (x1 : Int64) (x3 : Int32) I J T, V77 x1 x3 I J T → ix_W (ix_C (d + 7)) (12, ix_lk ix_l268, (some .boolean), 0, 0, Nat.blt 0 0, none) Q (77, [some (.inr (.inr (.inl (some (204))))), some (.inr (.inl (x1))), none, some (.inl (x3)), none], [], 0, 0, ix_mem 276 I J T)) (hV130 : ∀ (x1 : Int64) (x3 : Int32) (x4 : Int32) I J T, V130 x1 x3 x4 I J T → ix_W (ix_C (d + 7)) (12, ix_lk ix_l268, (some .boolean), 0, 0, Nat.blt 0 0, none) Q (130, [some (.inr (.inr (.inl (some (204))))), some (.inr (.inl (x1))), none, some (.inl (x3)), some (.inl (x4))], [], 0, 0, ix_mem 276 I J T)) (hQ : ∀ v I J T, P v I J T → Q (some (.inl v)) (ix_mem 276 I J T)) : ix_W (ix_C (d + 7)) (12, ix_lk ix_l268, (some .boolean), 0, 0, Nat.blt 0 0, none) Q (204, [some (.inr (.inr (.inl (some (204))))), none, none, some (.inl (x3)), none], [], 0, 0, ix_mem 276 I J T) := by
  unfold wj_X12_clause_j204_77_130 at h
  refine ix_go 5 (x' := (211, [some (.inr (.inr (.inl (some (204))))), none, none, some (.inl (x3)), none], [.inl ((1 : Int32)), .inr (.inr (.inl (some (204)))), .inl (x3), .inr (.inr (.inl (some (217))))], 0, 0, ix_mem 276 I J T)) rfl ⟨rfl, rfl⟩ ?_
  refine ix_sp rfl ⟨rfl, ⟨ix_lt rfl, ix_eq rfl, ix_lt rfl⟩, ix_le rfl, Nat.le_refl _, Nat.le_refl _, tp_X12_isKey h (fun v41 I41 J41 T41 h41 => ?_)⟩
  change ix_W _ _ _ (214, [some (.inr (.inr (.inl (some (204))))), none, none, some (.inl (x3)), none], [.inl (v41), .inl (x3), .inr (.inr (.inl (some (217))))], 0, 0, ix_mem 276 I41 J41 T41)
  refine ix_go 1 (x' := (if v41 = 0 then 221 else 217, [some (.inr (.inr (.inl (some (204))))), none, none, some (.inl (x3)), none], [.inl (x3), .inr (.inr (.inl (some (217))))], 0, 0, ix_mem 276 I41 J41 T41)) rfl trivial ?_
  refine ix_br (fun c42 => ?_) (fun c42 => ?_)
  · have h43 := h41.1 c42
    refine ix_go 1 (x' := (222, [some (.inr (.inr (.inl (some (204))))), none, none, some (.inl (x3)), none], [.inl ((0 : Int32)), .inl (x3), .inr (.inr (.inl (some (217))))], 0, 0, ix_mem 276 I41 J41 T41)) rfl trivial ?_
    refine ix_subW ([some (.inr (.inr (.inl (some (204))))), none, none, some (.inl (x3)), none]) (ix_subS (ix_subS (ix_subS (ix_subS (ix_subS (ix_sub0)))))) ?_
    exact tj_X12_clause_j222_77_130_k217 h43 hV77 hV130 hQ
  · have h43 := h41.2 c42
    refine ix_go 2 (x' := (222, [some (.inr (.inr (.inl (some (204))))), none, none, some (.inl (x3)), none], [.inl ((1 : Int32)), .inl (x3), .inr (.inr (.inl (some (217))))], 0, 0, ix_mem 276 I41 J41 T41)) rfl trivial ?_
    refine ix_subW ([some (.inr (.inr (.inl (some (204))))), none, none, some (.inl (x3)), none]) (ix_subS (ix_subS (ix_subS (ix_subS (ix_subS (ix_sub0)))))) ?_
    exact tj_X12_clause_j222_77_130_k217 h43 hV77 hV130 hQ
def wb_X12_clause_130_77 (x1 : Int64) (x3 : Int32) (x4 : Int32) (I : Nat → Nat → Int32) (J : Nat → Nat → Int64) (T : Option Nat) (V130 : Int64 → Int32 → Int32 → (Nat → Nat → Int32) → (Nat → Nat → Int64) → Option Nat → Prop) (V77 : Int64 → Int32 → (Nat → Nat → Int32) → (Nat → Nat → Int64) → Option Nat → Prop) (P : Int32 → (Nat → Nat → Int32) → (Nat → Nat → Int64) → Option Nat → Prop) : Prop := ((x4 < x3 → ix_inb (x4) 60 = true ∧ ((lg_cmp (J 224 (x4).toNatClampNeg) (x1) = 0 → wp_X12_fail ((4 : Int32)) I J T (fun v27 I27 J27 T27 => ix_01 (v27) = true ∧ P (v27) I27 J27 T27)) ∧ (¬ (lg_cmp (J 224 (x4).toNatClampNeg) (x1) = 0) → V130 (x1) (x3) (x4 + (1 : Int32)) I J T))) ∧ (¬ (x4 < x3) → ix_inb (x3) 60 = true ∧ wp_X12_next I (ix_u2 J 224 (x3).toNatClampNeg (x1)) T (fun I30 J30 T30 => wp_X12_want ((58 : Int32)) I30 J30 T30 (fun v31 I31 J31 T31 => ((v31 = 0 → P ((0 : Int32)) I31 J31 T31) ∧ (¬ (v31 = 0) → wp_X12_isKey ((0 : Int32)) I31 J31 T31 (fun v34 I34 J34 T34 => ((v34 = 0 → wp_X12_isKey ((1 : Int32)) I34 J34 T34 (fun v37 I37 J37 T37 => ((v37 = 0 → wp_X12_fail ((2 : Int32)) I37 J37 T37 (fun v40 I40 J40 T40 => ix_01 (v40) = true ∧ P (v40) I40 J40 T40)) ∧ (¬ (v37 = 0) → wj_X12_clause_j204_77_130 (x3) I37 J37 T37 V77 V130 P)))) ∧ (¬ (v34 = 0) → wj_X12_clause_j204_77_130 (x3) I34 J34 T34 V77 V130 P)))))))))
def wl_X12_clause_130_77 (x1 : Int64) (x3 : Int32) (x4 : Int32) (I : Nat → Nat → Int32) (J : Nat → Nat → Int64) (T : Option Nat) (V77 : Int64 → Int32 → (Nat → Nat → Int32) → (Nat → Nat → Int64) → Option Nat → Prop) (P : Int32 → (Nat → Nat → Int32) → (Nat → Nat → Int64) → Option Nat → Prop) : Prop := ∀ V : Int64 → Int32 → Int32 → (Nat → Nat → Int32) → (Nat → Nat → Int64) → Option Nat → Prop, (∀ (x1 : Int64) (x3 : Int32) (x4 : Int32) (I : Nat → Nat → Int32) (J : Nat → Nat → Int64) (T : Option Nat), wb_X12_clause_130_77 x1 x3 x4 I J T V V77 P → V x1 x3 x4 I J T) → V x1 x3 x4 I J T
set_option maxRecDepth 20000 in
theorem tl_X12_clause_130_77 {d : Nat} {x1 : Int64} {x3 : Int32} {x4 : Int32} {I : Nat → Nat → Int32} {J : Nat → Nat → Int64} {T : Option Nat} {V77 : Int64 → Int32 → (Nat → Nat → Int32) → (Nat → Nat → Int64) → Option Nat → Prop} {P : Int32 → (Nat → Nat → Int32) → (Nat → Nat → Int64) → Option Nat → Prop} {Q : ix_Q} (h : wl_X12_clause_130_77 x1 x3 x4 I J T V77 P) (hV77 : ∀ (x1 : Int64) (x3 : Int32) I J T, V77 x1 x3 I J T → ix_W (ix_C (d + 7)) (12, ix_lk ix_l268, (some .boolean), 0, 0, Nat.blt 0 0, none) Q (77, [some (.inr (.inr (.inl (some (204))))), some (.inr (.inl (x1))), none, some (.inl (x3)), none], [], 0, 0, ix_mem 276 I J T)) (hQ : ∀ v I J T, P v I J T → Q (some (.inl v)) (ix_mem 276 I J T)) : ix_W (ix_C (d + 7)) (12, ix_lk ix_l268, (some .boolean), 0, 0, Nat.blt 0 0, none) Q (130, [some (.inr (.inr (.inl (some (204))))), some (.inr (.inl (x1))), none, some (.inl (x3)), some (.inl (x4))], [], 0, 0, ix_mem 276 I J T) := by
  refine h (fun x1 x3 x4 I J T => ix_W (ix_C (d + 7)) (12, ix_lk ix_l268, (some .boolean), 0, 0, Nat.blt 0 0, none) Q (130, [some (.inr (.inr (.inl (some (204))))), some (.inr (.inl (x1))), none, some (.inl (x3)), some (.inl (x4))], [], 0, 0, ix_mem 276 I J T)) ?_
  intro x1 x3 x4 I J T hb
  unfold wb_X12_clause_130_77 at hb
  refine ix_go 3 (x' := (if x4 < x3 then 136 else 160, [some (.inr (.inr (.inl (some (204))))), some (.inr (.inl (x1))), none, some (.inl (x3)), some (.inl (x4))], [], 0, 0, ix_mem 276 I J T)) rfl trivial ?_
  refine ix_br (fun c21 => ?_) (fun c21 => ?_)
  · have h22 := hb.1 c21
    obtain ⟨p23, h24⟩ := h22
    refine ix_go 7 (x' := (if lg_cmp (J 224 (x4).toNatClampNeg) (x1) = 0 then 148 else 154, [some (.inr (.inr (.inl (some (204))))), some (.inr (.inl (x1))), none, some (.inl (x3)), some (.inl (x4))], [], 0, 0, ix_mem 276 I J T)) rfl ⟨rfl, rfl, rfl, rfl, p23⟩ ?_
    refine ix_br (fun c25 => ?_) (fun c25 => ?_)
    · have h26 := h24.1 c25
      refine ix_go 2 (x' := (150, [some (.inr (.inr (.inl (some (204))))), some (.inr (.inl (x1))), none, some (.inl (x3)), some (.inl (x4))], [.inl ((4 : Int32)), .inr (.inr (.inl (some (204))))], 0, 0, ix_mem 276 I J T)) rfl trivial ?_
      refine ix_sp rfl ⟨rfl, ⟨ix_lt rfl, ix_eq rfl, ix_lt rfl⟩, ix_le rfl, Nat.le_refl _, Nat.le_refl _, tp_X12_fail h26 (fun v27 I27 J27 T27 h27 => ?_)⟩
      change ix_W _ _ _ (153, [some (.inr (.inr (.inl (some (204))))), some (.inr (.inl (x1))), none, some (.inl (x3)), some (.inl (x4))], [.inl (v27)], 0, 0, ix_mem 276 I27 J27 T27)
      exact ix_sp rfl ⟨Nat.le_refl _, Nat.le_refl _, ix_01_ok h27.1, hQ _ _ _ _ h27.2⟩
    · have h26 := h24.2 c25
      refine ix_go 2 (x' := (130, [some (.inr (.inr (.inl (some (204))))), some (.inr (.inl (x1))), none, some (.inl (x3)), some (.inl (x4 + (1 : Int32)))], [], 0, 0, ix_mem 276 I J T)) rfl trivial ?_
      refine ix_subW ([some (.inr (.inr (.inl (some (204))))), some (.inr (.inl (x1))), none, some (.inl (x3)), some (.inl (x4 + (1 : Int32)))]) (ix_subS (ix_subS (ix_subS (ix_subS (ix_subS (ix_sub0)))))) ?_
      exact h26
  · have h22 := hb.2 c21
    obtain ⟨p28, h29⟩ := h22
    refine ix_go 6 (x' := (168, [some (.inr (.inr (.inl (some (204))))), some (.inr (.inl (x1))), none, some (.inl (x3)), some (.inl (x4))], [.inr (.inr (.inl (some (204))))], 0, 0, ix_mem 276 I (ix_u2 J 224 (x3).toNatClampNeg (x1)) T)) rfl ⟨rfl, rfl, rfl, rfl, p28⟩ ?_
    refine ix_sp rfl ⟨rfl, ⟨ix_lt rfl, ix_eq rfl, ix_lt rfl⟩, ix_le rfl, Nat.le_refl _, Nat.le_refl _, tp_X12_next h29 (fun I30 J30 T30 h30 => ?_)⟩
    change ix_W _ _ _ (171, [some (.inr (.inr (.inl (some (204))))), some (.inr (.inl (x1))), none, some (.inl (x3)), some (.inl (x4))], [], 0, 0, ix_mem 276 I30 J30 T30)
    refine ix_go 2 (x' := (174, [some (.inr (.inr (.inl (some (204))))), some (.inr (.inl (x1))), none, some (.inl (x3)), some (.inl (x4))], [.inl ((58 : Int32)), .inr (.inr (.inl (some (204))))], 0, 0, ix_mem 276 I30 J30 T30)) rfl trivial ?_
    refine ix_sp rfl ⟨rfl, ⟨ix_lt rfl, ix_eq rfl, ix_lt rfl⟩, ix_le rfl, Nat.le_refl _, Nat.le_refl _, tp_X12_want h30 (fun v31 I31 J31 T31 h31 => ?_)⟩
    change ix_W _ _ _ (177, [some (.inr (.inr (.inl (some (204))))), some (.inr (.inl (x1))), none, some (.inl (x3)), some (.inl (x4))], [.inl (v31)], 0, 0, ix_mem 276 I31 J31 T31)
    refine ix_go 1 (x' := (if v31 = 0 then 180 else 182, [some (.inr (.inr (.inl (some (204))))), some (.inr (.inl (x1))), none, some (.inl (x3)), some (.inl (x4))], [], 0, 0, ix_mem 276 I31 J31 T31)) rfl trivial ?_
    refine ix_br (fun c32 => ?_) (fun c32 => ?_)
    · have h33 := h31.1 c32
      refine ix_go 1 (x' := (181, [some (.inr (.inr (.inl (some (204))))), some (.inr (.inl (x1))), none, some (.inl (x3)), some (.inl (x4))], [.inl ((0 : Int32))], 0, 0, ix_mem 276 I31 J31 T31)) rfl trivial ?_
      exact ix_sp rfl ⟨Nat.le_refl _, Nat.le_refl _, ix_01_ok rfl, hQ _ _ _ _ h33⟩
    · have h33 := h31.2 c32
      refine ix_go 2 (x' := (184, [some (.inr (.inr (.inl (some (204))))), some (.inr (.inl (x1))), none, some (.inl (x3)), some (.inl (x4))], [.inl ((0 : Int32)), .inr (.inr (.inl (some (204))))], 0, 0, ix_mem 276 I31 J31 T31)) rfl trivial ?_
      refine ix_sp rfl ⟨rfl, ⟨ix_lt rfl, ix_eq rfl, ix_lt rfl⟩, ix_le rfl, Nat.le_refl _, Nat.le_refl _, tp_X12_isKey h33 (fun v34 I34 J34 T34 h34 => ?_)⟩
      change ix_W _ _ _ (187, [some (.inr (.inr (.inl (some (204))))), some (.inr (.inl (x1))), none, some (.inl (x3)), some (.inl (x4))], [.inl (v34)], 0, 0, ix_mem 276 I34 J34 T34)
      refine ix_go 1 (x' := (if v34 = 0 then 190 else 204, [some (.inr (.inr (.inl (some (204))))), some (.inr (.inl (x1))), none, some (.inl (x3)), some (.inl (x4))], [], 0, 0, ix_mem 276 I34 J34 T34)) rfl trivial ?_
      refine ix_br (fun c35 => ?_) (fun c35 => ?_)
      · have h36 := h34.1 c35
        refine ix_go 2 (x' := (192, [some (.inr (.inr (.inl (some (204))))), some (.inr (.inl (x1))), none, some (.inl (x3)), some (.inl (x4))], [.inl ((1 : Int32)), .inr (.inr (.inl (some (204))))], 0, 0, ix_mem 276 I34 J34 T34)) rfl trivial ?_
        refine ix_sp rfl ⟨rfl, ⟨ix_lt rfl, ix_eq rfl, ix_lt rfl⟩, ix_le rfl, Nat.le_refl _, Nat.le_refl _, tp_X12_isKey h36 (fun v37 I37 J37 T37 h37 => ?_)⟩
        change ix_W _ _ _ (195, [some (.inr (.inr (.inl (some (204))))), some (.inr (.inl (x1))), none, some (.inl (x3)), some (.inl (x4))], [.inl (v37)], 0, 0, ix_mem 276 I37 J37 T37)
        refine ix_go 1 (x' := (if v37 = 0 then 198 else 204, [some (.inr (.inr (.inl (some (204))))), some (.inr (.inl (x1))), none, some (.inl (x3)), some (.inl (x4))], [], 0, 0, ix_mem 276 I37 J37 T37)) rfl trivial ?_
        refine ix_br (fun c38 => ?_) (fun c38 => ?_)
        · have h39 := h37.1 c38
          refine ix_go 2 (x' := (200, [some (.inr (.inr (.inl (some (204))))), some (.inr (.inl (x1))), none, some (.inl (x3)), some (.inl (x4))], [.inl ((2 : Int32)), .inr (.inr (.inl (some (204))))], 0, 0, ix_mem 276 I37 J37 T37)) rfl trivial ?_
          refine ix_sp rfl ⟨rfl, ⟨ix_lt rfl, ix_eq rfl, ix_lt rfl⟩, ix_le rfl, Nat.le_refl _, Nat.le_refl _, tp_X12_fail h39 (fun v40 I40 J40 T40 h40 => ?_)⟩
          change ix_W _ _ _ (203, [some (.inr (.inr (.inl (some (204))))), some (.inr (.inl (x1))), none, some (.inl (x3)), some (.inl (x4))], [.inl (v40)], 0, 0, ix_mem 276 I40 J40 T40)
          exact ix_sp rfl ⟨Nat.le_refl _, Nat.le_refl _, ix_01_ok h40.1, hQ _ _ _ _ h40.2⟩
        · have h39 := h37.2 c38
          refine ix_subW ([some (.inr (.inr (.inl (some (204))))), none, none, some (.inl (x3)), none]) (ix_subS (ix_subN (ix_subS (ix_subS (ix_subN (ix_sub0)))))) ?_
          exact tj_X12_clause_j204_77_130 h39 hV77 (fun _ _ _ I J T hv => hv) hQ
      · have h36 := h34.2 c35
        refine ix_subW ([some (.inr (.inr (.inl (some (204))))), none, none, some (.inl (x3)), none]) (ix_subS (ix_subN (ix_subS (ix_subS (ix_subN (ix_sub0)))))) ?_
        exact tj_X12_clause_j204_77_130 h36 hV77 (fun _ _ _ I J T hv => hv) hQ
def wb_X12_clause_77 (x1 : Int64) (x3 : Int32) (I : Nat → Nat → Int32) (J : Nat → Nat → Int64) (T : Option Nat) (V77 : Int64 → Int32 → (Nat → Nat → Int32) → (Nat → Nat → Int64) → Option Nat → Prop) (P : Int32 → (Nat → Nat → Int32) → (Nat → Nat → Int64) → Option Nat → Prop) : Prop := ((x3 < I 204 19 → wp_X12_at (x3) I J T (fun v18 I18 J18 T18 => V77 (((x1) <<< (((8 : Int32)).toInt64 &&& 63)) ||| ((v18).toInt64)) (x3 + (1 : Int32)) I18 J18 T18)) ∧ (¬ (x3 < I 204 19) → ix_inb (I 204 24) 5 = true ∧ wl_X12_clause_130_77 (x1) ((((12 : Int32)) * (I 204 24)) + (I 216 (I 204 24).toNatClampNeg)) (((12 : Int32)) * (I 204 24)) I J T V77 P))
def wl_X12_clause_77 (x1 : Int64) (x3 : Int32) (I : Nat → Nat → Int32) (J : Nat → Nat → Int64) (T : Option Nat) (P : Int32 → (Nat → Nat → Int32) → (Nat → Nat → Int64) → Option Nat → Prop) : Prop := ∀ V : Int64 → Int32 → (Nat → Nat → Int32) → (Nat → Nat → Int64) → Option Nat → Prop, (∀ (x1 : Int64) (x3 : Int32) (I : Nat → Nat → Int32) (J : Nat → Nat → Int64) (T : Option Nat), wb_X12_clause_77 x1 x3 I J T V P → V x1 x3 I J T) → V x1 x3 I J T
set_option maxRecDepth 20000 in
theorem tl_X12_clause_77 {d : Nat} {x1 : Int64} {x3 : Int32} {I : Nat → Nat → Int32} {J : Nat → Nat → Int64} {T : Option Nat} {P : Int32 → (Nat → Nat → Int32) → (Nat → Nat → Int64) → Option Nat → Prop} {Q : ix_Q} (h : wl_X12_clause_77 x1 x3 I J T P) (hQ : ∀ v I J T, P v I J T → Q (some (.inl v)) (ix_mem 276 I J T)) : ix_W (ix_C (d + 7)) (12, ix_lk ix_l268, (some .boolean), 0, 0, Nat.blt 0 0, none) Q (77, [some (.inr (.inr (.inl (some (204))))), some (.inr (.inl (x1))), none, some (.inl (x3)), none], [], 0, 0, ix_mem 276 I J T) := by
  refine h (fun x1 x3 I J T => ix_W (ix_C (d + 7)) (12, ix_lk ix_l268, (some .boolean), 0, 0, Nat.blt 0 0, none) Q (77, [some (.inr (.inr (.inl (some (204))))), some (.inr (.inl (x1))), none, some (.inl (x3)), none], [], 0, 0, ix_mem 276 I J T)) ?_
  intro x1 x3 I J T hb
  unfold wb_X12_clause_77 at hb
  refine ix_go 4 (x' := (if x3 < I 204 19 then 85 else 103, [some (.inr (.inr (.inl (some (204))))), some (.inr (.inl (x1))), none, some (.inl (x3)), none], [], 0, 0, ix_mem 276 I J T)) rfl ⟨rfl, rfl⟩ ?_
  refine ix_br (fun c16 => ?_) (fun c16 => ?_)
  · have h17 := hb.1 c16
    refine ix_go 5 (x' := (91, [some (.inr (.inr (.inl (some (204))))), some (.inr (.inl (x1))), none, some (.inl (x3)), none], [.inl (x3), .inr (.inr (.inl (some (204)))), .inr (.inl ((x1) <<< (((8 : Int32)).toInt64 &&& 63)))], 0, 0, ix_mem 276 I J T)) rfl trivial ?_
    refine ix_sp rfl ⟨rfl, ⟨ix_lt rfl, ix_eq rfl, ix_lt rfl⟩, ix_le rfl, Nat.le_refl _, Nat.le_refl _, tp_X12_at h17 (fun v18 I18 J18 T18 h18 => ?_)⟩
    change ix_W _ _ _ (94, [some (.inr (.inr (.inl (some (204))))), some (.inr (.inl (x1))), none, some (.inl (x3)), none], [.inl (v18), .inr (.inl ((x1) <<< (((8 : Int32)).toInt64 &&& 63)))], 0, 0, ix_mem 276 I18 J18 T18)
    refine ix_go 5 (x' := (77, [some (.inr (.inr (.inl (some (204))))), some (.inr (.inl (((x1) <<< (((8 : Int32)).toInt64 &&& 63)) ||| ((v18).toInt64)))), none, some (.inl (x3 + (1 : Int32))), none], [], 0, 0, ix_mem 276 I18 J18 T18)) rfl trivial ?_
    refine ix_subW ([some (.inr (.inr (.inl (some (204))))), some (.inr (.inl (((x1) <<< (((8 : Int32)).toInt64 &&& 63)) ||| ((v18).toInt64)))), none, some (.inl (x3 + (1 : Int32))), none]) (ix_subS (ix_subS (ix_subS (ix_subS (ix_subS (ix_sub0)))))) ?_
    exact h18
  · have h17 := hb.2 c16
    refine ix_go 7 (x' := (115, [some (.inr (.inr (.inl (some (204))))), some (.inr (.inl (x1))), none, some (.inl (x3)), none], [.inr (.inr (.inl (some (204)))), .inr (.inr (.inl (some (216)))), .inl (((12 : Int32)) * (I 204 24))], 0, 0, ix_mem 276 I J T)) rfl ⟨rfl, rfl, rfl, rfl⟩ ?_
    obtain ⟨p19, h20⟩ := h17
    refine ix_go 7 (x' := (127, [some (.inr (.inr (.inl (some (204))))), some (.inr (.inl (x1))), none, some (.inl ((((12 : Int32)) * (I 204 24)) + (I 216 (I 204 24).toNatClampNeg))), none], [.inl (I 204 24), .inl ((12 : Int32))], 0, 0, ix_mem 276 I J T)) rfl ⟨rfl, rfl, rfl, rfl, p19, rfl, rfl⟩ ?_
    refine ix_go 2 (x' := (130, [some (.inr (.inr (.inl (some (204))))), some (.inr (.inl (x1))), none, some (.inl ((((12 : Int32)) * (I 204 24)) + (I 216 (I 204 24).toNatClampNeg))), some (.inl (((12 : Int32)) * (I 204 24)))], [], 0, 0, ix_mem 276 I J T)) rfl trivial ?_
    refine ix_subW ([some (.inr (.inr (.inl (some (204))))), some (.inr (.inl (x1))), none, some (.inl ((((12 : Int32)) * (I 204 24)) + (I 216 (I 204 24).toNatClampNeg))), some (.inl (((12 : Int32)) * (I 204 24)))]) (ix_subS (ix_subS (ix_subS (ix_subS (ix_subS (ix_sub0)))))) ?_
    exact tl_X12_clause_130_77 h20 (fun _ _ I J T hv => hv) hQ
def wj_X12_clause_j44 (I : Nat → Nat → Int32) (J : Nat → Nat → Int64) (T : Option Nat) (P : Int32 → (Nat → Nat → Int32) → (Nat → Nat → Int64) → Option Nat → Prop) : Prop := wp_X12_fail ((2 : Int32)) I J T (fun v97 I97 J97 T97 => ix_01 (v97) = true ∧ P (v97) I97 J97 T97)
set_option maxRecDepth 20000 in
theorem tj_X12_clause_j44 {d : Nat} {I : Nat → Nat → Int32} {J : Nat → Nat → Int64} {T : Option Nat} {P : Int32 → (Nat → Nat → Int32) → (Nat → Nat → Int64) → Option Nat → Prop} {Q : ix_Q} (h : wj_X12_clause_j44 I J T P) (hQ : ∀ v I J T, P v I J T → Q (some (.inl v)) (ix_mem 276 I J T)) : ix_W (ix_C (d + 1)) (12, ix_lk ix_l268, (some .boolean), 0, 0, Nat.blt 0 0, none) Q (44, [some (.inr (.inr (.inl (some (204))))), none, none, none, none], [], 0, 0, ix_mem 276 I J T) := by
  unfold wj_X12_clause_j44 at h
  refine ix_go 2 (x' := (46, [some (.inr (.inr (.inl (some (204))))), none, none, none, none], [.inl ((2 : Int32)), .inr (.inr (.inl (some (204))))], 0, 0, ix_mem 276 I J T)) rfl trivial ?_
  refine ix_sp rfl ⟨rfl, ⟨ix_lt rfl, ix_eq rfl, ix_lt rfl⟩, ix_le rfl, Nat.le_refl _, Nat.le_refl _, tp_X12_fail h (fun v97 I97 J97 T97 h97 => ?_)⟩
  change ix_W _ _ _ (49, [some (.inr (.inr (.inl (some (204))))), none, none, none, none], [.inl (v97)], 0, 0, ix_mem 276 I97 J97 T97)
  exact ix_sp rfl ⟨Nat.le_refl _, Nat.le_refl _, ix_01_ok h97.1, hQ _ _ _ _ h97.2⟩
def wp_X12_clause (I : Nat → Nat → Int32) (J : Nat → Nat → Int64) (T : Option Nat) (P : Int32 → (Nat → Nat → Int32) → (Nat → Nat → Int64) → Option Nat → Prop) : Prop := ((I 204 17 = (2 : Int32) → (((I 204 19) - (I 204 18) ≤ (8 : Int32) → wp_X12_inWords_rs3 I J T (fun v5 I5 J5 T5 => ((v5 = (-1 : Int32) → wp_X12_inWords_rs4 I5 J5 T5 (fun v8 I8 J8 T8 => ((v8 = (-1 : Int32) → ix_inb (I8 204 24) 5 = true ∧ ((I8 216 (I8 204 24).toNatClampNeg = (12 : Int32) → wp_X12_fail ((3 : Int32)) I8 J8 T8 (fun v15 I15 J15 T15 => ix_01 (v15) = true ∧ P (v15) I15 J15 T15)) ∧ (¬ (I8 216 (I8 204 24).toNatClampNeg = (12 : Int32)) → wl_X12_clause_77 ((0 : Int64)) (I8 204 18) I8 J8 T8 P))) ∧ (¬ (v8 = (-1 : Int32)) → wj_X12_clause_j44 I8 J8 T8 P)))) ∧ (¬ (v5 = (-1 : Int32)) → wj_X12_clause_j44 I5 J5 T5 P)))) ∧ (¬ ((I 204 19) - (I 204 18) ≤ (8 : Int32)) → wj_X12_clause_j44 I J T P))) ∧ (¬ (I 204 17 = (2 : Int32)) → wj_X12_clause_j44 I J T P))
set_option maxRecDepth 20000 in
theorem tp_X12_clause {d : Nat} {I : Nat → Nat → Int32} {J : Nat → Nat → Int64} {T : Option Nat} {P : Int32 → (Nat → Nat → Int32) → (Nat → Nat → Int64) → Option Nat → Prop} {Q : ix_Q} (h : wp_X12_clause I J T P) (hQ : ∀ v I J T, P v I J T → Q (some (.inl v)) (ix_mem 276 I J T)) : ix_C (d + 8) 268 [.inr (.inr (.inl (some (204))))] (ix_mem 276 I J T) Q := by
  unfold wp_X12_clause at h
  refine ix_enter (ls := [some (.inr (.inr (.inl (some (204))))), none, none, none, none]) rfl rfl rfl (Nat.le_of_ble_eq_true rfl) ?_
  refine ix_go 4 (x' := (if I 204 17 = (2 : Int32) then 8 else 44, [some (.inr (.inr (.inl (some (204))))), none, none, none, none], [], 0, 0, ix_mem 276 I J T)) rfl ⟨rfl, rfl⟩ ?_
  refine ix_br (fun c1 => ?_) (fun c1 => ?_)
  · have h2 := h.1 c1
    refine ix_go 7 (x' := (if (I 204 19) - (I 204 18) ≤ (8 : Int32) then 22 else 44, [some (.inr (.inr (.inl (some (204))))), none, none, none, none], [], 0, 0, ix_mem 276 I J T)) rfl ⟨rfl, rfl, rfl, rfl⟩ ?_
    refine ix_br (fun c3 => ?_) (fun c3 => ?_)
    · have h4 := h2.1 c3
      refine ix_go 2 (x' := (26, [some (.inr (.inr (.inl (some (204))))), none, none, none, none], [.inr (.inr (.inr 3)), .inr (.inr (.inl (some (204))))], 0, 0, ix_mem 276 I J T)) rfl trivial ?_
      refine ix_sp rfl ⟨rfl, ⟨ix_lt rfl, ix_eq rfl, ix_lt rfl⟩, ix_le rfl, Nat.le_refl _, Nat.le_refl _, tp_X12_inWords_rs3 h4 (fun v5 I5 J5 T5 h5 => ?_)⟩
      change ix_W _ _ _ (29, [some (.inr (.inr (.inl (some (204))))), none, none, none, none], [.inl (v5)], 0, 0, ix_mem 276 I5 J5 T5)
      refine ix_go 2 (x' := (if v5 = (-1 : Int32) then 33 else 44, [some (.inr (.inr (.inl (some (204))))), none, none, none, none], [], 0, 0, ix_mem 276 I5 J5 T5)) rfl trivial ?_
      refine ix_br (fun c6 => ?_) (fun c6 => ?_)
      · have h7 := h5.1 c6
        refine ix_go 2 (x' := (37, [some (.inr (.inr (.inl (some (204))))), none, none, none, none], [.inr (.inr (.inr 4)), .inr (.inr (.inl (some (204))))], 0, 0, ix_mem 276 I5 J5 T5)) rfl trivial ?_
        refine ix_sp rfl ⟨rfl, ⟨ix_lt rfl, ix_eq rfl, ix_lt rfl⟩, ix_le rfl, Nat.le_refl _, Nat.le_refl _, tp_X12_inWords_rs4 h7 (fun v8 I8 J8 T8 h8 => ?_)⟩
        change ix_W _ _ _ (40, [some (.inr (.inr (.inl (some (204))))), none, none, none, none], [.inl (v8)], 0, 0, ix_mem 276 I8 J8 T8)
        refine ix_go 2 (x' := (if v8 = (-1 : Int32) then 50 else 44, [some (.inr (.inr (.inl (some (204))))), none, none, none, none], [], 0, 0, ix_mem 276 I8 J8 T8)) rfl trivial ?_
        refine ix_br (fun c9 => ?_) (fun c9 => ?_)
        · have h10 := h8.1 c9
          obtain ⟨p11, h12⟩ := h10
          refine ix_go 7 (x' := (if I8 216 (I8 204 24).toNatClampNeg = (12 : Int32) then 64 else 70, [some (.inr (.inr (.inl (some (204))))), none, none, none, none], [], 0, 0, ix_mem 276 I8 J8 T8)) rfl ⟨rfl, rfl, rfl, rfl, rfl, rfl, p11⟩ ?_
          refine ix_br (fun c13 => ?_) (fun c13 => ?_)
          · have h14 := h12.1 c13
            refine ix_go 2 (x' := (66, [some (.inr (.inr (.inl (some (204))))), none, none, none, none], [.inl ((3 : Int32)), .inr (.inr (.inl (some (204))))], 0, 0, ix_mem 276 I8 J8 T8)) rfl trivial ?_
            refine ix_sp rfl ⟨rfl, ⟨ix_lt rfl, ix_eq rfl, ix_lt rfl⟩, ix_le rfl, Nat.le_refl _, Nat.le_refl _, tp_X12_fail h14 (fun v15 I15 J15 T15 h15 => ?_)⟩
            change ix_W _ _ _ (69, [some (.inr (.inr (.inl (some (204))))), none, none, none, none], [.inl (v15)], 0, 0, ix_mem 276 I15 J15 T15)
            exact ix_sp rfl ⟨Nat.le_refl _, Nat.le_refl _, ix_01_ok h15.1, hQ _ _ _ _ h15.2⟩
          · have h14 := h12.2 c13
            refine ix_go 5 (x' := (77, [some (.inr (.inr (.inl (some (204))))), some (.inr (.inl ((0 : Int64)))), none, some (.inl (I8 204 18)), none], [], 0, 0, ix_mem 276 I8 J8 T8)) rfl ⟨rfl, rfl⟩ ?_
            refine ix_subW ([some (.inr (.inr (.inl (some (204))))), some (.inr (.inl ((0 : Int64)))), none, some (.inl (I8 204 18)), none]) (ix_subS (ix_subS (ix_subS (ix_subS (ix_subS (ix_sub0)))))) ?_
            exact tl_X12_clause_77 h14 hQ
        · have h10 := h8.2 c9
          refine ix_subW ([some (.inr (.inr (.inl (some (204))))), none, none, none, none]) (ix_subS (ix_subS (ix_subS (ix_subS (ix_subS (ix_sub0)))))) ?_
          exact tj_X12_clause_j44 h10 hQ
      · have h7 := h5.2 c6
        refine ix_subW ([some (.inr (.inr (.inl (some (204))))), none, none, none, none]) (ix_subS (ix_subS (ix_subS (ix_subS (ix_subS (ix_sub0)))))) ?_
        exact tj_X12_clause_j44 h7 hQ
    · have h4 := h2.2 c3
      refine ix_subW ([some (.inr (.inr (.inl (some (204))))), none, none, none, none]) (ix_subS (ix_subS (ix_subS (ix_subS (ix_subS (ix_sub0)))))) ?_
      exact tj_X12_clause_j44 h4 hQ
  · have h2 := h.2 c1
    refine ix_subW ([some (.inr (.inr (.inl (some (204))))), none, none, none, none]) (ix_subS (ix_subS (ix_subS (ix_subS (ix_subS (ix_sub0)))))) ?_
    exact tj_X12_clause_j44 h2 hQ
