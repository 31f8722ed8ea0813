def wb_X10_extend_l6_24 (x1 : Int32) (x2 : Int32) (x3 : Int64) (x5 : Int32) (x6 : Int32) (I : Nat → Nat → Int32) (J : Nat → Nat → Int64) (T : Option Nat) (V24 : Int32 → Int32 → Int64 → Int32 → Int32 → (Nat → Nat → Int32) → (Nat → Nat → Int64) → Option Nat → Prop) (P : (Nat → Nat → Int32) → (Nat → Nat → Int64) → Option Nat → Prop) : Prop := wp_X5_count I J T (fun v7 I7 J7 T7 => ((x6 < v7 → wp_X5_hasRoad (x5) (x6) I7 J7 T7 (fun v10 I10 J10 T10 => ((v10 = 0 → V24 (x1) (x2) (x3) (x5) (x6 + (1 : Int32)) I10 J10 T10) ∧ (¬ (v10 = 0) → wp_X10_isOnPath (x6) (x1) I10 J10 T10 (fun v13 I13 J13 T13 => ((v13 = 0 → wp_X5_daysOf (x5) (x6) I13 J13 T13 (fun v16 I16 J16 T16 => wp_X5_freightOf (x5) (x6) I16 J16 T16 (fun v17 I17 J17 T17 => ix_inb (x1) 5 = true ∧ ((x6 = I17 97 2 → wp_X10_arrive ((x1) + ((1 : Int32))) ((x2) + (v16)) ((x3) + (((J16 97 3) * ((v17).toInt64)) / ((1000 : Int64)))) (ix_u2 I17 104 (x1).toNatClampNeg (x6)) J17 T17 (fun I22 J22 T22 => V24 (x1) (x2) (x3) (x5) (x6 + (1 : Int32)) I22 J22 T22)) ∧ (¬ (x6 = I17 97 2) → wp_X10_extend_l5 ((x1) + ((1 : Int32))) ((x2) + (v16)) ((x3) + (((J16 97 3) * ((v17).toInt64)) / ((1000 : Int64)))) (ix_u2 I17 104 (x1).toNatClampNeg (x6)) J17 T17 (fun I23 J23 T23 => V24 (x1) (x2) (x3) (x5) (x6 + (1 : Int32)) I23 J23 T23)))))) ∧ (¬ (v13 = 0) → V24 (x1) (x2) (x3) (x5) (x6 + (1 : Int32)) I13 J13 T13))))))) ∧ (¬ (x6 < v7) → P I7 J7 T7)))
def wl_X10_extend_l6_24 (x1 : Int32) (x2 : Int32) (x3 : Int64) (x5 : Int32) (x6 : Int32) (I : Nat → Nat → Int32) (J : Nat → Nat → Int64) (T : Option Nat) (P : (Nat → Nat → Int32) → (Nat → Nat → Int64) → Option Nat → Prop) : Prop := ∀ V : Int32 → Int32 → Int64 → Int32 → Int32 → (Nat → Nat → Int32) → (Nat → Nat → Int64) → Option Nat → Prop, (∀ (x1 : Int32) (x2 : Int32) (x3 : Int64) (x5 : Int32) (x6 : Int32) (I : Nat → Nat → Int32) (J : Nat → Nat → Int64) (T : Option Nat), wb_X10_extend_l6_24 x1 x2 x3 x5 x6 I J T V P → V x1 x2 x3 x5 x6 I J T) → V x1 x2 x3 x5 x6 I J T
set_option maxRecDepth 20000 in
theorem tl_X10_extend_l6_24 {d : Nat} {x1 : Int32} {x2 : Int32} {x3 : Int64} {x5 : Int32} {x6 : Int32} {I : Nat → Nat → Int32} {J : Nat → Nat → Int64} {T : Option Nat} {P : (Nat → Nat → Int32) → (Nat → Nat → Int64) → Option Nat → Prop} {Q : ix_Q} (h : wl_X10_extend_l6_24 x1 x2 x3 x5 x6 I J T P) (hQ : ∀ I J T, P I J T → Q none (ix_mem 276 I J T)) : ix_W (ix_C (d + 7)) (10, ix_lk ix_l150, none, 0, 0, Nat.blt 0 0, none) Q (24, [some (.inr (.inr (.inl (some (97))))), some (.inl (x1)), some (.inl (x2)), some (.inr (.inl (x3))), none, some (.inl (x5)), some (.inl (x6)), none, none, none], [], 0, 0, ix_mem 276 I J T) := by
  refine h (fun x1 x2 x3 x5 x6 I J T => ix_W (ix_C (d + 7)) (10, ix_lk ix_l150, none, 0, 0, Nat.blt 0 0, none) Q (24, [some (.inr (.inr (.inl (some (97))))), some (.inl (x1)), some (.inl (x2)), some (.inr (.inl (x3))), none, some (.inl (x5)), some (.inl (x6)), none, none, none], [], 0, 0, ix_mem 276 I J T)) ?_
  intro x1 x2 x3 x5 x6 I J T hb
  unfold wb_X10_extend_l6_24 at hb
  refine ix_go 3 (x' := (30, [some (.inr (.inr (.inl (some (97))))), some (.inl (x1)), some (.inl (x2)), some (.inr (.inl (x3))), none, some (.inl (x5)), some (.inl (x6)), none, none, none], [.inr (.inr (.inl (some (8)))), .inl (x6)], 0, 0, ix_mem 276 I J T)) rfl ⟨rfl, rfl⟩ ?_
  refine ix_sp rfl ⟨rfl, ⟨ix_lt rfl, ix_eq rfl, ix_lt rfl⟩, ix_le rfl, Nat.le_refl _, Nat.le_refl _, tp_X5_count hb (fun v7 I7 J7 T7 h7 => ?_)⟩
  change ix_W _ _ _ (33, [some (.inr (.inr (.inl (some (97))))), some (.inl (x1)), some (.inl (x2)), some (.inr (.inl (x3))), none, some (.inl (x5)), some (.inl (x6)), none, none, none], [.inl (v7), .inl (x6)], 0, 0, ix_mem 276 I7 J7 T7)
  refine ix_go 1 (x' := (if x6 < v7 then 36 else 151, [some (.inr (.inr (.inl (some (97))))), some (.inl (x1)), some (.inl (x2)), some (.inr (.inl (x3))), none, some (.inl (x5)), some (.inl (x6)), none, none, none], [], 0, 0, ix_mem 276 I7 J7 T7)) rfl trivial ?_
  refine ix_br (fun c8 => ?_) (fun c8 => ?_)
  · have h9 := h7.1 c8
    refine ix_go 4 (x' := (44, [some (.inr (.inr (.inl (some (97))))), some (.inl (x1)), some (.inl (x2)), some (.inr (.inl (x3))), none, some (.inl (x5)), some (.inl (x6)), none, none, none], [.inl (x6), .inl (x5), .inr (.inr (.inl (some (8))))], 0, 0, ix_mem 276 I7 J7 T7)) rfl ⟨rfl, rfl⟩ ?_
    refine ix_sp rfl ⟨rfl, ⟨ix_lt rfl, ix_eq rfl, ix_lt rfl⟩, ix_le rfl, Nat.le_refl _, Nat.le_refl _, tp_X5_hasRoad h9 (fun v10 I10 J10 T10 h10 => ?_)⟩
    change ix_W _ _ _ (47, [some (.inr (.inr (.inl (some (97))))), some (.inl (x1)), some (.inl (x2)), some (.inr (.inl (x3))), none, some (.inl (x5)), some (.inl (x6)), none, none, none], [.inl (v10)], 0, 0, ix_mem 276 I10 J10 T10)
    refine ix_go 1 (x' := (if v10 = 0 then 145 else 50, [some (.inr (.inr (.inl (some (97))))), some (.inl (x1)), some (.inl (x2)), some (.inr (.inl (x3))), none, some (.inl (x5)), some (.inl (x6)), none, none, none], [], 0, 0, ix_mem 276 I10 J10 T10)) rfl trivial ?_
    refine ix_br (fun c11 => ?_) (fun c11 => ?_)
    · have h12 := h10.1 c11
      refine ix_go 2 (x' := (24, [some (.inr (.inr (.inl (some (97))))), some (.inl (x1)), some (.inl (x2)), some (.inr (.inl (x3))), none, some (.inl (x5)), some (.inl (x6 + (1 : Int32))), none, none, none], [], 0, 0, ix_mem 276 I10 J10 T10)) rfl trivial ?_
      refine ix_subW ([some (.inr (.inr (.inl (some (97))))), some (.inl (x1)), some (.inl (x2)), some (.inr (.inl (x3))), none, some (.inl (x5)), some (.inl (x6 + (1 : Int32))), none, none, none]) (ix_subS (ix_subS (ix_subS (ix_subS (ix_subS (ix_subS (ix_subS (ix_subS (ix_subS (ix_subS (ix_sub0))))))))))) ?_
      exact h12
    · have h12 := h10.2 c11
      refine ix_go 3 (x' := (54, [some (.inr (.inr (.inl (some (97))))), some (.inl (x1)), some (.inl (x2)), some (.inr (.inl (x3))), none, some (.inl (x5)), some (.inl (x6)), none, none, none], [.inl (x1), .inl (x6), .inr (.inr (.inl (some (97))))], 0, 0, ix_mem 276 I10 J10 T10)) rfl trivial ?_
      refine ix_sp rfl ⟨rfl, ⟨ix_lt rfl, ix_eq rfl, ix_lt rfl⟩, ix_le rfl, Nat.le_refl _, Nat.le_refl _, tp_X10_isOnPath h12 (fun v13 I13 J13 T13 h13 => ?_)⟩
      change ix_W _ _ _ (57, [some (.inr (.inr (.inl (some (97))))), some (.inl (x1)), some (.inl (x2)), some (.inr (.inl (x3))), none, some (.inl (x5)), some (.inl (x6)), none, none, none], [.inl (v13)], 0, 0, ix_mem 276 I13 J13 T13)
      refine ix_go 1 (x' := (if v13 = 0 then 63 else 60, [some (.inr (.inr (.inl (some (97))))), some (.inl (x1)), some (.inl (x2)), some (.inr (.inl (x3))), none, some (.inl (x5)), some (.inl (x6)), none, none, none], [], 0, 0, ix_mem 276 I13 J13 T13)) rfl trivial ?_
      refine ix_br (fun c14 => ?_) (fun c14 => ?_)
      · have h15 := h13.1 c14
        refine ix_go 5 (x' := (72, [some (.inr (.inr (.inl (some (97))))), some (.inl (x1)), some (.inl (x2)), some (.inr (.inl (x3))), none, some (.inl (x5)), some (.inl (x6)), none, none, none], [.inl (x6), .inl (x5), .inr (.inr (.inl (some (8)))), .inl (x2)], 0, 0, ix_mem 276 I13 J13 T13)) rfl ⟨rfl, rfl⟩ ?_
        refine ix_sp rfl ⟨rfl, ⟨ix_lt rfl, ix_eq rfl, ix_lt rfl⟩, ix_le rfl, Nat.le_refl _, Nat.le_refl _, tp_X5_daysOf h15 (fun v16 I16 J16 T16 h16 => ?_)⟩
        change ix_W _ _ _ (75, [some (.inr (.inr (.inl (some (97))))), some (.inl (x1)), some (.inl (x2)), some (.inr (.inl (x3))), none, some (.inl (x5)), some (.inl (x6)), none, none, none], [.inl (v16), .inl (x2)], 0, 0, ix_mem 276 I16 J16 T16)
        refine ix_go 9 (x' := (91, [some (.inr (.inr (.inl (some (97))))), some (.inl (x1)), some (.inl (x2)), some (.inr (.inl (x3))), none, some (.inl (x5)), some (.inl (x6)), some (.inl ((x2) + (v16))), none, none], [.inl (x6), .inl (x5), .inr (.inr (.inl (some (8)))), .inr (.inl (J16 97 3)), .inr (.inl (x3))], 0, 0, ix_mem 276 I16 J16 T16)) rfl ⟨rfl, rfl, rfl, rfl⟩ ?_
        refine ix_sp rfl ⟨rfl, ⟨ix_lt rfl, ix_eq rfl, ix_lt rfl⟩, ix_le rfl, Nat.le_refl _, Nat.le_refl _, tp_X5_freightOf h16 (fun v17 I17 J17 T17 h17 => ?_)⟩
        change ix_W _ _ _ (94, [some (.inr (.inr (.inl (some (97))))), some (.inl (x1)), some (.inl (x2)), some (.inr (.inl (x3))), none, some (.inl (x5)), some (.inl (x6)), some (.inl ((x2) + (v16))), none, none], [.inl (v17), .inr (.inl (J16 97 3)), .inr (.inl (x3))], 0, 0, ix_mem 276 I17 J17 T17)
        obtain ⟨p18, h19⟩ := h17
        refine ix_go 15 (x' := (if x6 = I17 97 2 then 120 else 134, [some (.inr (.inr (.inl (some (97))))), some (.inl (x1)), some (.inl (x2)), some (.inr (.inl (x3))), none, some (.inl (x5)), some (.inl (x6)), some (.inl ((x2) + (v16))), some (.inr (.inl ((x3) + (((J16 97 3) * ((v17).toInt64)) / ((1000 : Int64)))))), none], [], 0, 0, ix_mem 276 (ix_u2 I17 104 (x1).toNatClampNeg (x6)) J17 T17)) rfl ⟨rfl, rfl, rfl, rfl, rfl, p18, rfl, rfl⟩ ?_
        refine ix_br (fun c20 => ?_) (fun c20 => ?_)
        · have h21 := h19.1 c20
          refine ix_go 6 (x' := (128, [some (.inr (.inr (.inl (some (97))))), some (.inl (x1)), some (.inl (x2)), some (.inr (.inl (x3))), none, some (.inl (x5)), some (.inl (x6)), some (.inl ((x2) + (v16))), some (.inr (.inl ((x3) + (((J16 97 3) * ((v17).toInt64)) / ((1000 : Int64)))))), none], [.inr (.inl ((x3) + (((J16 97 3) * ((v17).toInt64)) / ((1000 : Int64))))), .inl ((x2) + (v16)), .inl ((x1) + ((1 : Int32))), .inr (.inr (.inl (some (97))))], 0, 0, ix_mem 276 (ix_u2 I17 104 (x1).toNatClampNeg (x6)) J17 T17)) rfl trivial ?_
          refine ix_sp rfl ⟨rfl, ⟨ix_lt rfl, ix_eq rfl, ix_lt rfl⟩, ix_le rfl, Nat.le_refl _, Nat.le_refl _, tp_X10_arrive h21 (fun I22 J22 T22 h22 => ?_)⟩
          change ix_W _ _ _ (131, [some (.inr (.inr (.inl (some (97))))), some (.inl (x1)), some (.inl (x2)), some (.inr (.inl (x3))), none, some (.inl (x5)), some (.inl (x6)), some (.inl ((x2) + (v16))), some (.inr (.inl ((x3) + (((J16 97 3) * ((v17).toInt64)) / ((1000 : Int64)))))), none], [], 0, 0, ix_mem 276 I22 J22 T22)
          refine ix_go 3 (x' := (24, [some (.inr (.inr (.inl (some (97))))), some (.inl (x1)), some (.inl (x2)), some (.inr (.inl (x3))), none, some (.inl (x5)), some (.inl (x6 + (1 : Int32))), some (.inl ((x2) + (v16))), some (.inr (.inl ((x3) + (((J16 97 3) * ((v17).toInt64)) / ((1000 : Int64)))))), none], [], 0, 0, ix_mem 276 I22 J22 T22)) rfl trivial ?_
          refine ix_subW ([some (.inr (.inr (.inl (some (97))))), some (.inl (x1)), some (.inl (x2)), some (.inr (.inl (x3))), none, some (.inl (x5)), some (.inl (x6 + (1 : Int32))), none, none, none]) (ix_subS (ix_subS (ix_subS (ix_subS (ix_subS (ix_subS (ix_subS (ix_subN (ix_subN (ix_subS (ix_sub0))))))))))) ?_
          exact h22
        · have h21 := h19.2 c20
          refine ix_go 6 (x' := (142, [some (.inr (.inr (.inl (some (97))))), some (.inl (x1)), some (.inl (x2)), some (.inr (.inl (x3))), none, some (.inl (x5)), some (.inl (x6)), some (.inl ((x2) + (v16))), some (.inr (.inl ((x3) + (((J16 97 3) * ((v17).toInt64)) / ((1000 : Int64)))))), none], [.inr (.inl ((x3) + (((J16 97 3) * ((v17).toInt64)) / ((1000 : Int64))))), .inl ((x2) + (v16)), .inl ((x1) + ((1 : Int32))), .inr (.inr (.inl (some (97))))], 0, 0, ix_mem 276 (ix_u2 I17 104 (x1).toNatClampNeg (x6)) J17 T17)) rfl trivial ?_
          refine ix_sp rfl ⟨rfl, ⟨ix_lt rfl, ix_eq rfl, ix_lt rfl⟩, ix_le rfl, Nat.le_refl _, Nat.le_refl _, tp_X10_extend_l5 h21 (fun I23 J23 T23 h23 => ?_)⟩
          change ix_W _ _ _ (145, [some (.inr (.inr (.inl (some (97))))), some (.inl (x1)), some (.inl (x2)), some (.inr (.inl (x3))), none, some (.inl (x5)), some (.inl (x6)), some (.inl ((x2) + (v16))), some (.inr (.inl ((x3) + (((J16 97 3) * ((v17).toInt64)) / ((1000 : Int64)))))), none], [], 0, 0, ix_mem 276 I23 J23 T23)
          refine ix_go 2 (x' := (24, [some (.inr (.inr (.inl (some (97))))), some (.inl (x1)), some (.inl (x2)), some (.inr (.inl (x3))), none, some (.inl (x5)), some (.inl (x6 + (1 : Int32))), some (.inl ((x2) + (v16))), some (.inr (.inl ((x3) + (((J16 97 3) * ((v17).toInt64)) / ((1000 : Int64)))))), none], [], 0, 0, ix_mem 276 I23 J23 T23)) rfl trivial ?_
          refine ix_subW ([some (.inr (.inr (.inl (some (97))))), some (.inl (x1)), some (.inl (x2)), some (.inr (.inl (x3))), none, some (.inl (x5)), some (.inl (x6 + (1 : Int32))), none, none, none]) (ix_subS (ix_subS (ix_subS (ix_subS (ix_subS (ix_subS (ix_subS (ix_subN (ix_subN (ix_subS (ix_sub0))))))))))) ?_
          exact h23
      · have h15 := h13.2 c14
        refine ix_go 3 (x' := (24, [some (.inr (.inr (.inl (some (97))))), some (.inl (x1)), some (.inl (x2)), some (.inr (.inl (x3))), none, some (.inl (x5)), some (.inl (x6 + (1 : Int32))), none, none, none], [], 0, 0, ix_mem 276 I13 J13 T13)) rfl trivial ?_
        refine ix_subW ([some (.inr (.inr (.inl (some (97))))), some (.inl (x1)), some (.inl (x2)), some (.inr (.inl (x3))), none, some (.inl (x5)), some (.inl (x6 + (1 : Int32))), none, none, none]) (ix_subS (ix_subS (ix_subS (ix_subS (ix_subS (ix_subS (ix_subS (ix_subS (ix_subS (ix_subS (ix_sub0))))))))))) ?_
        exact h15
  · have h9 := h7.2 c8
    exact ix_sp rfl ⟨Nat.le_refl _, Nat.le_refl _, rfl, hQ _ _ _ h9⟩
def wp_X10_extend_l6 (a0 : Int32) (a1 : Int32) (a2 : Int64) (I : Nat → Nat → Int32) (J : Nat → Nat → Int64) (T : Option Nat) (P : (Nat → Nat → Int32) → (Nat → Nat → Int64) → Option Nat → Prop) : Prop := ((a0 < (1 : Int32) → P I J T) ∧ (¬ (a0 < (1 : Int32)) → ((a0 < (5 : Int32) → ix_inb ((a0) - ((1 : Int32))) 5 = true ∧ wl_X10_extend_l6_24 (a0) (a1) (a2) (I 104 ((a0) - ((1 : Int32))).toNatClampNeg) ((0 : Int32)) I J T P) ∧ (¬ (a0 < (5 : Int32)) → P I J T))))
set_option maxRecDepth 20000 in
theorem tp_X10_extend_l6 {d : Nat} {a0 : Int32} {a1 : Int32} {a2 : Int64} {I : Nat → Nat → Int32} {J : Nat → Nat → Int64} {T : Option Nat} {P : (Nat → Nat → Int32) → (Nat → Nat → Int64) → Option Nat → Prop} {Q : ix_Q} (h : wp_X10_extend_l6 a0 a1 a2 I J T P) (hQ : ∀ I J T, P I J T → Q none (ix_mem 276 I J T)) : ix_C (d + 8) 150 [.inr (.inr (.inl (some (97)))), .inl (a0), .inl (a1), .inr (.inl (a2))] (ix_mem 276 I J T) Q := by
  unfold wp_X10_extend_l6 at h
  refine ix_enter (ls := [some (.inr (.inr (.inl (some (97))))), some (.inl (a0)), some (.inl (a1)), some (.inr (.inl (a2))), none, none, none, none, none, none]) rfl rfl rfl (Nat.le_of_ble_eq_true rfl) ?_
  refine ix_go 3 (x' := (if a0 < (1 : Int32) then 10 else 5, [some (.inr (.inr (.inl (some (97))))), some (.inl (a0)), some (.inl (a1)), some (.inr (.inl (a2))), none, none, none, none, none, none], [], 0, 0, ix_mem 276 I J T)) rfl trivial ?_
  refine ix_br (fun c1 => ?_) (fun c1 => ?_)
  · have h2 := h.1 c1
    exact ix_sp rfl ⟨Nat.le_refl _, Nat.le_refl _, rfl, hQ _ _ _ h2⟩
  · have h2 := h.2 c1
    refine ix_go 3 (x' := (if a0 < (5 : Int32) then 11 else 10, [some (.inr (.inr (.inl (some (97))))), some (.inl (a0)), some (.inl (a1)), some (.inr (.inl (a2))), none, none, none, none, none, none], [], 0, 0, ix_mem 276 I J T)) rfl trivial ?_
    refine ix_br (fun c3 => ?_) (fun c3 => ?_)
    · have h4 := h2.1 c3
      obtain ⟨p5, h6⟩ := h4
      refine ix_go 9 (x' := (24, [some (.inr (.inr (.inl (some (97))))), some (.inl (a0)), some (.inl (a1)), some (.inr (.inl (a2))), none, some (.inl (I 104 ((a0) - ((1 : Int32))).toNatClampNeg)), some (.inl ((0 : Int32))), none, none, none], [], 0, 0, ix_mem 276 I J T)) rfl ⟨rfl, rfl, rfl, rfl, p5⟩ ?_
      refine ix_subW ([some (.inr (.inr (.inl (some (97))))), some (.inl (a0)), some (.inl (a1)), some (.inr (.inl (a2))), none, some (.inl (I 104 ((a0) - ((1 : Int32))).toNatClampNeg)), some (.inl ((0 : Int32))), none, none, none]) (ix_subS (ix_subS (ix_subS (ix_subS (ix_subS (ix_subS (ix_subS (ix_subS (ix_subS (ix_subS (ix_sub0))))))))))) ?_
      exact tl_X10_extend_l6_24 h6 hQ
    · have h4 := h2.2 c3
      exact ix_sp rfl ⟨Nat.le_refl _, Nat.le_refl _, rfl, hQ _ _ _ h4⟩
def wb_X10_findBest_51_23_c95 (x2 : Int32) (x3 : Int32) (I : Nat → Nat → Int32) (J : Nat → Nat → Int64) (T : Option Nat) (V51 : Int32 → Int32 → (Nat → Nat → Int32) → (Nat → Nat → Int64) → Option Nat → Prop) (V23 : Int32 → (Nat → Nat → Int32) → (Nat → Nat → Int64) → Option Nat → Prop) (P : Int32 → (Nat → Nat → Int32) → (Nat → Nat → Int64) → Option Nat → Prop) : Prop := wp_X5_count I J T (fun v9 I9 J9 T9 => ((x3 < v9 → ((x2 ≤ 0 → V23 (x2 + (1 : Int32)) I9 J9 T9) ∧ (¬ (x2 ≤ 0) → wp_X6_from I9 J9 T9 (fun v14 I14 J14 T14 => ((x3 = v14 → V51 (x2) (x3 + (1 : Int32)) I14 J14 T14) ∧ (¬ (x3 = v14) → ((x3 = I14 97 2 → V51 (x2) (x3 + (1 : Int32)) I14 J14 T14) ∧ (¬ (x3 = I14 97 2) → wp_X6_goOver (x2) (x3) I14 J14 T14 (fun I19 J19 T19 => ix_inb (x2) 4 = true ∧ wp_X8_charge ((1 : Int32)) I19 J19 T19 (fun v22 I22 J22 T22 => ix_inb (x3) 7 = true ∧ V51 (x2) (x3 + (1 : Int32)) I22 (ix_u2 J22 (ix_row 99 (x2)) (x3).toNatClampNeg (v22)) T22)))))))))) ∧ (¬ (x3 < v9) → V23 (x2 + (1 : Int32)) I9 J9 T9)))
def wl_X10_findBest_51_23_c95 (x2 : Int32) (x3 : Int32) (I : Nat → Nat → Int32) (J : Nat → Nat → Int64) (T : Option Nat) (V23 : Int32 → (Nat → Nat → Int32) → (Nat → Nat → Int64) → Option Nat → Prop) (P : Int32 → (Nat → Nat → Int32) → (Nat → Nat → Int64) → Option Nat → Prop) : Prop := ∀ V : Int32 → Int32 → (Nat → Nat → Int32) → (Nat → Nat → Int64) → Option Nat → Prop, (∀ (x2 : Int32) (x3 : Int32) (I : Nat → Nat → Int32) (J : Nat → Nat → Int64) (T : Option Nat), wb_X10_findBest_51_23_c95 x2 x3 I J T V V23 P → V x2 x3 I J T) → V x2 x3 I J T
set_option maxRecDepth 20000 in
theorem tl_X10_findBest_51_23_c95 {d : Nat} {x2 : Int32} {x3 : Int32} {I : Nat → Nat → Int32} {J : Nat → Nat → Int64} {T : Option Nat} {V23 : Int32 → (Nat → Nat → Int32) → (Nat → Nat → Int64) → Option Nat → Prop} {P : Int32 → (Nat → Nat → Int32) → (Nat → Nat → Int64) → Option Nat → Prop} {Q : ix_Q} (h : wl_X10_findBest_51_23_c95 x2 x3 I J T V23 P) (hV23 : ∀ (x2 : Int32) I J T, V23 x2 I J T → ix_W (ix_C (d + 5)) (10, ix_lk ix_l151, (some .boolean), 0, 0, Nat.blt 0 0, none) Q (23, [some (.inr (.inr (.inl (some (97))))), some (.inr (.inr (.inl (some (95))))), some (.inl (x2)), none], [], 0, 0, ix_mem 276 I J T)) (hQ : ∀ v I J T, P v I J T → Q (some (.inl v)) (ix_mem 276 I J T)) : ix_W (ix_C (d + 5)) (10, ix_lk ix_l151, (some .boolean), 0, 0, Nat.blt 0 0, none) Q (51, [some (.inr (.inr (.inl (some (97))))), some (.inr (.inr (.inl (some (95))))), some (.inl (x2)), some (.inl (x3))], [], 0, 0, ix_mem 276 I J T) := by
  refine h (fun x2 x3 I J T => ix_W (ix_C (d + 5)) (10, ix_lk ix_l151, (some .boolean), 0, 0, Nat.blt 0 0, none) Q (51, [some (.inr (.inr (.inl (some (97))))), some (.inr (.inr (.inl (some (95))))), some (.inl (x2)), some (.inl (x3))], [], 0, 0, ix_mem 276 I J T)) ?_
  intro x2 x3 I J T hb
  unfold wb_X10_findBest_51_23_c95 at hb
  refine ix_go 3 (x' := (56, [some (.inr (.inr (.inl (some (97))))), some (.inr (.inr (.inl (some (95))))), some (.inl (x2)), some (.inl (x3))], [.inr (.inr (.inl (some (8)))), .inl (x3)], 0, 0, ix_mem 276 I J T)) rfl ⟨rfl, rfl⟩ ?_
  refine ix_sp rfl ⟨rfl, ⟨ix_lt rfl, ix_eq rfl, ix_lt rfl⟩, ix_le rfl, Nat.le_refl _, Nat.le_refl _, tp_X5_count hb (fun v9 I9 J9 T9 h9 => ?_)⟩
  change ix_W _ _ _ (59, [some (.inr (.inr (.inl (some (97))))), some (.inr (.inr (.inl (some (95))))), some (.inl (x2)), some (.inl (x3))], [.inl (v9), .inl (x3)], 0, 0, ix_mem 276 I9 J9 T9)
  refine ix_go 1 (x' := (if x3 < v9 then 62 else 111, [some (.inr (.inr (.inl (some (97))))), some (.inr (.inr (.inl (some (95))))), some (.inl (x2)), some (.inl (x3))], [], 0, 0, ix_mem 276 I9 J9 T9)) rfl trivial ?_
  refine ix_br (fun c10 => ?_) (fun c10 => ?_)
  · have h11 := h9.1 c10
    refine ix_go 2 (x' := (if x2 ≤ 0 then 111 else 66, [some (.inr (.inr (.inl (some (97))))), some (.inr (.inr (.inl (some (95))))), some (.inl (x2)), some (.inl (x3))], [], 0, 0, ix_mem 276 I9 J9 T9)) rfl trivial ?_
    refine ix_br (fun c12 => ?_) (fun c12 => ?_)
    · have h13 := h11.1 c12
      refine ix_go 2 (x' := (23, [some (.inr (.inr (.inl (some (97))))), some (.inr (.inr (.inl (some (95))))), some (.inl (x2 + (1 : Int32))), some (.inl (x3))], [], 0, 0, ix_mem 276 I9 J9 T9)) rfl trivial ?_
      refine ix_subW ([some (.inr (.inr (.inl (some (97))))), some (.inr (.inr (.inl (some (95))))), some (.inl (x2 + (1 : Int32))), none]) (ix_subS (ix_subS (ix_subS (ix_subN (ix_sub0))))) ?_
      exact hV23 _ _ _ _ h13
    · have h13 := h11.2 c12
      refine ix_go 2 (x' := (68, [some (.inr (.inr (.inl (some (97))))), some (.inr (.inr (.inl (some (95))))), some (.inl (x2)), some (.inl (x3))], [.inr (.inr (.inl (some (95)))), .inl (x3)], 0, 0, ix_mem 276 I9 J9 T9)) rfl trivial ?_
      refine ix_sp rfl ⟨rfl, ⟨ix_lt rfl, ix_eq rfl, ix_lt rfl⟩, ix_le rfl, Nat.le_refl _, Nat.le_refl _, tp_X6_from h13 (fun v14 I14 J14 T14 h14 => ?_)⟩
      change ix_W _ _ _ (71, [some (.inr (.inr (.inl (some (97))))), some (.inr (.inr (.inl (some (95))))), some (.inl (x2)), some (.inl (x3))], [.inl (v14), .inl (x3)], 0, 0, ix_mem 276 I14 J14 T14)
      refine ix_go 1 (x' := (if x3 = v14 then 105 else 74, [some (.inr (.inr (.inl (some (97))))), some (.inr (.inr (.inl (some (95))))), some (.inl (x2)), some (.inl (x3))], [], 0, 0, ix_mem 276 I14 J14 T14)) rfl trivial ?_
      refine ix_br (fun c15 => ?_) (fun c15 => ?_)
      · have h16 := h14.1 c15
        refine ix_go 2 (x' := (51, [some (.inr (.inr (.inl (some (97))))), some (.inr (.inr (.inl (some (95))))), some (.inl (x2)), some (.inl (x3 + (1 : Int32)))], [], 0, 0, ix_mem 276 I14 J14 T14)) rfl trivial ?_
        refine ix_subW ([some (.inr (.inr (.inl (some (97))))), some (.inr (.inr (.inl (some (95))))), some (.inl (x2)), some (.inl (x3 + (1 : Int32)))]) (ix_subS (ix_subS (ix_subS (ix_subS (ix_sub0))))) ?_
        exact h16
      · have h16 := h14.2 c15
        refine ix_go 4 (x' := (if x3 = I14 97 2 then 105 else 82, [some (.inr (.inr (.inl (some (97))))), some (.inr (.inr (.inl (some (95))))), some (.inl (x2)), some (.inl (x3))], [], 0, 0, ix_mem 276 I14 J14 T14)) rfl ⟨rfl, rfl⟩ ?_
        refine ix_br (fun c17 => ?_) (fun c17 => ?_)
        · have h18 := h16.1 c17
          refine ix_go 2 (x' := (51, [some (.inr (.inr (.inl (some (97))))), some (.inr (.inr (.inl (some (95))))), some (.inl (x2)), some (.inl (x3 + (1 : Int32)))], [], 0, 0, ix_mem 276 I14 J14 T14)) rfl trivial ?_
          refine ix_subW ([some (.inr (.inr (.inl (some (97))))), some (.inr (.inr (.inl (some (95))))), some (.inl (x2)), some (.inl (x3 + (1 : Int32)))]) (ix_subS (ix_subS (ix_subS (ix_subS (ix_sub0))))) ?_
          exact h18
        · have h18 := h16.2 c17
          refine ix_go 3 (x' := (85, [some (.inr (.inr (.inl (some (97))))), some (.inr (.inr (.inl (some (95))))), some (.inl (x2)), some (.inl (x3))], [.inl (x3), .inl (x2), .inr (.inr (.inl (some (95))))], 0, 0, ix_mem 276 I14 J14 T14)) rfl trivial ?_
          refine ix_sp rfl ⟨rfl, ⟨ix_lt rfl, ix_eq rfl, ix_lt rfl⟩, ix_le rfl, Nat.le_refl _, Nat.le_refl _, tp_X6_goOver h18 (fun I19 J19 T19 h19 => ?_)⟩
          change ix_W _ _ _ (88, [some (.inr (.inr (.inl (some (97))))), some (.inr (.inr (.inl (some (95))))), some (.inl (x2)), some (.inl (x3))], [], 0, 0, ix_mem 276 I19 J19 T19)
          obtain ⟨p20, h21⟩ := h19
          refine ix_go 7 (x' := (99, [some (.inr (.inr (.inl (some (97))))), some (.inr (.inr (.inl (some (95))))), some (.inl (x2)), some (.inl (x3))], [.inr (.inr (.inl (some (51)))), .inl (x3), .inr (.inr (.inl (some (ix_row 99 (x2)))))], 0, 0, ix_mem 276 I19 J19 T19)) rfl ⟨rfl, rfl, rfl, rfl, rfl, p20, (rw_99 p20).1, rfl, rfl⟩ ?_
          refine ix_go 2 (x' := (101, [some (.inr (.inr (.inl (some (97))))), some (.inr (.inr (.inl (some (95))))), some (.inl (x2)), some (.inl (x3))], [.inr (.inr (.inl (some (95)))), .inl ((1 : Int32)), .inr (.inr (.inl (some (51)))), .inl (x3), .inr (.inr (.inl (some (ix_row 99 (x2)))))], 0, 0, ix_mem 276 I19 J19 T19)) rfl trivial ?_
          refine ix_sp rfl ⟨rfl, ⟨ix_lt rfl, ix_eq rfl, ix_lt rfl⟩, ix_le rfl, Nat.le_refl _, Nat.le_refl _, tp_X8_charge h21 (fun v22 I22 J22 T22 h22 => ?_)⟩
          change ix_W _ _ _ (104, [some (.inr (.inr (.inl (some (97))))), some (.inr (.inr (.inl (some (95))))), some (.inl (x2)), some (.inl (x3))], [.inr (.inl (v22)), .inl (x3), .inr (.inr (.inl (some (ix_row 99 (x2)))))], 0, 0, ix_mem 276 I22 J22 T22)
          obtain ⟨p23, h24⟩ := h22
          refine ix_go 3 (x' := (51, [some (.inr (.inr (.inl (some (97))))), some (.inr (.inr (.inl (some (95))))), some (.inl (x2)), some (.inl (x3 + (1 : Int32)))], [], 0, 0, ix_mem 276 I22 (ix_u2 J22 (ix_row 99 (x2)) (x3).toNatClampNeg (v22)) T22)) rfl ⟨(rw_99 p20).2.1, (rw_99 p20).2.2.1, (ix_inbL (rw_99 p20).2.2.2.1 p23)⟩ ?_
          refine ix_subW ([some (.inr (.inr (.inl (some (97))))), some (.inr (.inr (.inl (some (95))))), some (.inl (x2)), some (.inl (x3 + (1 : Int32)))]) (ix_subS (ix_subS (ix_subS (ix_subS (ix_sub0))))) ?_
          exact h24
  · have h11 := h9.2 c10
    refine ix_go 2 (x' := (23, [some (.inr (.inr (.inl (some (97))))), some (.inr (.inr (.inl (some (95))))), some (.inl (x2 + (1 : Int32))), some (.inl (x3))], [], 0, 0, ix_mem 276 I9 J9 T9)) rfl trivial ?_
    refine ix_subW ([some (.inr (.inr (.inl (some (97))))), some (.inr (.inr (.inl (some (95))))), some (.inl (x2 + (1 : Int32))), none]) (ix_subS (ix_subS (ix_subS (ix_subN (ix_sub0))))) ?_
    exact hV23 _ _ _ _ h11
def wb_X10_findBest_23_c95 (x2 : Int32) (I : Nat → Nat → Int32) (J : Nat → Nat → Int64) (T : Option Nat) (V23 : Int32 → (Nat → Nat → Int32) → (Nat → Nat → Int64) → Option Nat → Prop) (P : Int32 → (Nat → Nat → Int32) → (Nat → Nat → Int64) → Option Nat → Prop) : Prop := ((x2 ≤ (3 : Int32) → wp_X6_goOver (x2) ((-1 : Int32)) I J T (fun I5 J5 T5 => wp_X8_charge ((0 : Int32)) I5 J5 T5 (fun v6 I6 J6 T6 => ix_inb (x2) 4 = true ∧ wl_X10_findBest_51_23_c95 (x2) ((0 : Int32)) I6 (ix_u2 J6 98 (x2).toNatClampNeg (v6)) T6 V23 P))) ∧ (¬ (x2 ≤ (3 : Int32)) → wp_X6_from I J T (fun v25 I25 J25 T25 => wp_X10_extend_l6 ((1 : Int32)) ((0 : Int32)) ((0 : Int64)) (ix_u2 I25 104 ((0 : Int32)).toNatClampNeg (v25)) J25 T25 (fun I26 J26 T26 => ((I26 97 8 ≤ 0 → P ((0 : Int32)) I26 J26 T26) ∧ (¬ (I26 97 8 ≤ 0) → P ((1 : Int32)) I26 J26 T26))))))
def wl_X10_findBest_23_c95 (x2 : Int32) (I : Nat → Nat → Int32) (J : Nat → Nat → Int64) (T : Option Nat) (P : Int32 → (Nat → Nat → Int32) → (Nat → Nat → Int64) → Option Nat → Prop) : Prop := ∀ V : Int32 → (Nat → Nat → Int32) → (Nat → Nat → Int64) → Option Nat → Prop, (∀ (x2 : Int32) (I : Nat → Nat → Int32) (J : Nat → Nat → Int64) (T : Option Nat), wb_X10_findBest_23_c95 x2 I J T V P → V x2 I J T) → V x2 I J T
set_option maxRecDepth 20000 in
theorem tl_X10_findBest_23_c95 {d : Nat} {x2 : Int32} {I : Nat → Nat → Int32} {J : Nat → Nat → Int64} {T : Option Nat} {P : Int32 → (Nat → Nat → Int32) → (Nat → Nat → Int64) → Option Nat → Prop} {Q : ix_Q} (h : wl_X10_findBest_23_c95 x2 I J T P) (hQ : ∀ v I J T, P v I J T → Q (some (.inl v)) (ix_mem 276 I J T)) : ix_W (ix_C (d + 8)) (10, ix_lk ix_l151, (some .boolean), 0, 0, Nat.blt 0 0, none) Q (23, [some (.inr (.inr (.inl (some (97))))), some (.inr (.inr (.inl (some (95))))), some (.inl (x2)), none], [], 0, 0, ix_mem 276 I J T) := by
  refine h (fun x2 I J T => ix_W (ix_C (d + 8)) (10, ix_lk ix_l151, (some .boolean), 0, 0, Nat.blt 0 0, none) Q (23, [some (.inr (.inr (.inl (some (97))))), some (.inr (.inr (.inl (some (95))))), some (.inl (x2)), none], [], 0, 0, ix_mem 276 I J T)) ?_
  intro x2 I J T hb
  unfold wb_X10_findBest_23_c95 at hb
  refine ix_go 3 (x' := (if x2 ≤ (3 : Int32) then 28 else 117, [some (.inr (.inr (.inl (some (97))))), some (.inr (.inr (.inl (some (95))))), some (.inl (x2)), none], [], 0, 0, ix_mem 276 I J T)) rfl trivial ?_
  refine ix_br (fun c3 => ?_) (fun c3 => ?_)
  · have h4 := hb.1 c3
    refine ix_go 3 (x' := (31, [some (.inr (.inr (.inl (some (97))))), some (.inr (.inr (.inl (some (95))))), some (.inl (x2)), none], [.inl ((-1 : Int32)), .inl (x2), .inr (.inr (.inl (some (95))))], 0, 0, ix_mem 276 I J T)) rfl trivial ?_
    refine ix_sp rfl ⟨rfl, ⟨ix_lt rfl, ix_eq rfl, ix_lt rfl⟩, ix_le rfl, Nat.le_refl _, Nat.le_refl _, tp_X6_goOver h4 (fun I5 J5 T5 h5 => ?_)⟩
    change ix_W _ _ _ (34, [some (.inr (.inr (.inl (some (97))))), some (.inr (.inr (.inl (some (95))))), some (.inl (x2)), none], [], 0, 0, ix_mem 276 I5 J5 T5)
    refine ix_go 7 (x' := (45, [some (.inr (.inr (.inl (some (97))))), some (.inr (.inr (.inl (some (95))))), some (.inl (x2)), none], [.inr (.inr (.inl (some (95)))), .inl ((0 : Int32)), .inr (.inr (.inl (some (51)))), .inl (x2), .inr (.inr (.inl (some (98))))], 0, 0, ix_mem 276 I5 J5 T5)) rfl ⟨rfl, rfl, rfl, rfl⟩ ?_
    refine ix_sp rfl ⟨rfl, ⟨ix_lt rfl, ix_eq rfl, ix_lt rfl⟩, ix_le rfl, Nat.le_refl _, Nat.le_refl _, tp_X8_charge h5 (fun v6 I6 J6 T6 h6 => ?_)⟩
    change ix_W _ _ _ (48, [some (.inr (.inr (.inl (some (97))))), some (.inr (.inr (.inl (some (95))))), some (.inl (x2)), none], [.inr (.inl (v6)), .inl (x2), .inr (.inr (.inl (some (98))))], 0, 0, ix_mem 276 I6 J6 T6)
    obtain ⟨p7, h8⟩ := h6
    refine ix_go 3 (x' := (51, [some (.inr (.inr (.inl (some (97))))), some (.inr (.inr (.inl (some (95))))), some (.inl (x2)), some (.inl ((0 : Int32)))], [], 0, 0, ix_mem 276 I6 (ix_u2 J6 98 (x2).toNatClampNeg (v6)) T6)) rfl ⟨rfl, rfl, p7⟩ ?_
    refine ix_subW ([some (.inr (.inr (.inl (some (97))))), some (.inr (.inr (.inl (some (95))))), some (.inl (x2)), some (.inl ((0 : Int32)))]) (ix_subS (ix_subS (ix_subS (ix_subS (ix_sub0))))) ?_
    exact tl_X10_findBest_51_23_c95 h8 (fun _ I J T hv => hv) hQ
  · have h4 := hb.2 c3
    refine ix_go 4 (x' := (123, [some (.inr (.inr (.inl (some (97))))), some (.inr (.inr (.inl (some (95))))), some (.inl (x2)), none], [.inr (.inr (.inl (some (95)))), .inl ((0 : Int32)), .inr (.inr (.inl (some (104))))], 0, 0, ix_mem 276 I J T)) rfl ⟨rfl, rfl⟩ ?_
    refine ix_sp rfl ⟨rfl, ⟨ix_lt rfl, ix_eq rfl, ix_lt rfl⟩, ix_le rfl, Nat.le_refl _, Nat.le_refl _, tp_X6_from h4 (fun v25 I25 J25 T25 h25 => ?_)⟩
    change ix_W _ _ _ (126, [some (.inr (.inr (.inl (some (97))))), some (.inr (.inr (.inl (some (95))))), some (.inl (x2)), none], [.inl (v25), .inl ((0 : Int32)), .inr (.inr (.inl (some (104))))], 0, 0, ix_mem 276 I25 J25 T25)
    refine ix_go 5 (x' := (131, [some (.inr (.inr (.inl (some (97))))), some (.inr (.inr (.inl (some (95))))), some (.inl (x2)), none], [.inr (.inl ((0 : Int64))), .inl ((0 : Int32)), .inl ((1 : Int32)), .inr (.inr (.inl (some (97))))], 0, 0, ix_mem 276 (ix_u2 I25 104 ((0 : Int32)).toNatClampNeg (v25)) J25 T25)) rfl ⟨rfl, rfl, rfl⟩ ?_
    refine ix_sp rfl ⟨rfl, ⟨ix_lt rfl, ix_eq rfl, ix_lt rfl⟩, ix_le rfl, Nat.le_refl _, Nat.le_refl _, tp_X10_extend_l6 h25 (fun I26 J26 T26 h26 => ?_)⟩
    change ix_W _ _ _ (134, [some (.inr (.inr (.inl (some (97))))), some (.inr (.inr (.inl (some (95))))), some (.inl (x2)), none], [], 0, 0, ix_mem 276 I26 J26 T26)
    refine ix_go 3 (x' := (if I26 97 8 ≤ 0 then 145 else 141, [some (.inr (.inr (.inl (some (97))))), some (.inr (.inr (.inl (some (95))))), some (.inl (x2)), none], [], 0, 0, ix_mem 276 I26 J26 T26)) rfl ⟨rfl, rfl⟩ ?_
    refine ix_br (fun c27 => ?_) (fun c27 => ?_)
    · have h28 := h26.1 c27
      refine ix_go 1 (x' := (146, [some (.inr (.inr (.inl (some (97))))), some (.inr (.inr (.inl (some (95))))), some (.inl (x2)), none], [.inl ((0 : Int32))], 0, 0, ix_mem 276 I26 J26 T26)) rfl trivial ?_
      exact ix_sp rfl ⟨Nat.le_refl _, Nat.le_refl _, ix_01_ok rfl, hQ _ _ _ _ h28⟩
    · have h28 := h26.2 c27
      refine ix_go 2 (x' := (146, [some (.inr (.inr (.inl (some (97))))), some (.inr (.inr (.inl (some (95))))), some (.inl (x2)), none], [.inl ((1 : Int32))], 0, 0, ix_mem 276 I26 J26 T26)) rfl trivial ?_
      exact ix_sp rfl ⟨Nat.le_refl _, Nat.le_refl _, ix_01_ok rfl, hQ _ _ _ _ h28⟩
def wp_X10_findBest (I : Nat → Nat → Int32) (J : Nat → Nat → Int64) (T : Option Nat) (P : Int32 → (Nat → Nat → Int32) → (Nat → Nat → Int64) → Option Nat → Prop) : Prop := wp_X6_to I J T (fun v1 I1 J1 T1 => wp_X6_weight (ix_u2 I1 97 2 (v1)) J1 T1 (fun v2 I2 J2 T2 => wl_X10_findBest_23_c95 ((0 : Int32)) (ix_u2 I2 97 8 ((0 : Int32))) (ix_u2 J2 97 3 (v2)) T2 P))
set_option maxRecDepth 20000 in
theorem tp_X10_findBest {d : Nat} {I : Nat → Nat → Int32} {J : Nat → Nat → Int64} {T : Option Nat} {P : Int32 → (Nat → Nat → Int32) → (Nat → Nat → Int64) → Option Nat → Prop} {Q : ix_Q} (h : wp_X10_findBest I J T P) (hQ : ∀ v I J T, P v I J T → Q (some (.inl v)) (ix_mem 276 I J T)) : ix_C (d + 9) 151 [.inr (.inr (.inl (some (97)))), .inr (.inr (.inl (some (95))))] (ix_mem 276 I J T) Q := by
  unfold wp_X10_findBest at h
  refine ix_enter (ls := [some (.inr (.inr (.inl (some (97))))), some (.inr (.inr (.inl (some (95))))), none, none]) rfl rfl rfl (Nat.le_of_ble_eq_true rfl) ?_
  refine ix_go 2 (x' := (2, [some (.inr (.inr (.inl (some (97))))), some (.inr (.inr (.inl (some (95))))), none, none], [.inr (.inr (.inl (some (95)))), .inr (.inr (.inl (some (97))))], 0, 0, ix_mem 276 I J T)) rfl trivial ?_
  refine ix_sp rfl ⟨rfl, ⟨ix_lt rfl, ix_eq rfl, ix_lt rfl⟩, ix_le rfl, Nat.le_refl _, Nat.le_refl _, tp_X6_to h (fun v1 I1 J1 T1 h1 => ?_)⟩
  change ix_W _ _ _ (5, [some (.inr (.inr (.inl (some (97))))), some (.inr (.inr (.inl (some (95))))), none, none], [.inl (v1), .inr (.inr (.inl (some (97))))], 0, 0, ix_mem 276 I1 J1 T1)
  refine ix_go 3 (x' := (10, [some (.inr (.inr (.inl (some (97))))), some (.inr (.inr (.inl (some (95))))), none, none], [.inr (.inr (.inl (some (95)))), .inr (.inr (.inl (some (97))))], 0, 0, ix_mem 276 (ix_u2 I1 97 2 (v1)) J1 T1)) rfl ⟨rfl, rfl⟩ ?_
  refine ix_sp rfl ⟨rfl, ⟨ix_lt rfl, ix_eq rfl, ix_lt rfl⟩, ix_le rfl, Nat.le_refl _, Nat.le_refl _, tp_X6_weight h1 (fun v2 I2 J2 T2 h2 => ?_)⟩
  change ix_W _ _ _ (13, [some (.inr (.inr (.inl (some (97))))), some (.inr (.inr (.inl (some (95))))), none, none], [.inr (.inl (v2)), .inr (.inr (.inl (some (97))))], 0, 0, ix_mem 276 I2 J2 T2)
  refine ix_go 6 (x' := (23, [some (.inr (.inr (.inl (some (97))))), some (.inr (.inr (.inl (some (95))))), some (.inl ((0 : Int32))), none], [], 0, 0, ix_mem 276 (ix_u2 I2 97 8 ((0 : Int32))) (ix_u2 J2 97 3 (v2)) T2)) rfl ⟨rfl, rfl, rfl, rfl⟩ ?_
  refine ix_subW ([some (.inr (.inr (.inl (some (97))))), some (.inr (.inr (.inl (some (95))))), some (.inl ((0 : Int32))), none]) (ix_subS (ix_subS (ix_subS (ix_subS (ix_sub0))))) ?_
  exact tl_X10_findBest_23_c95 h2 hQ
def wb_X10_findRemailer_10_c95 (x2 : Int32) (x3 : Int32) (x4 : Int32) (I : Nat → Nat → Int32) (J : Nat → Nat → Int64) (T : Option Nat) (V10 : Int32 → Int32 → Int32 → (Nat → Nat → Int32) → (Nat → Nat → Int64) → Option Nat → Prop) (P : Int32 → (Nat → Nat → Int32) → (Nat → Nat → Int64) → Option Nat → Prop) : Prop := wp_X5_count I J T (fun v2 I2 J2 T2 => ((x4 < v2 → ((x4 = x2 → V10 (x2) (x3) (x4 + (1 : Int32)) I2 J2 T2) ∧ (¬ (x4 = x2) → wp_X6_to I2 J2 T2 (fun v7 I7 J7 T7 => ((x4 = v7 → V10 (x2) (x3) (x4 + (1 : Int32)) I7 J7 T7) ∧ (¬ (x4 = v7) → wp_X5_isReached (x2) (x4) I7 J7 T7 (fun v10 I10 J10 T10 => ((v10 = 0 → V10 (x2) (x3) (x4 + (1 : Int32)) I10 J10 T10) ∧ (¬ (v10 = 0) → wp_X6_postIn (x4) I10 J10 T10 (fun I13 J13 T13 => wp_X10_findBest I13 J13 T13 (fun v14 I14 J14 T14 => ((v14 = 0 → V10 (x2) (x3) (x4 + (1 : Int32)) I14 J14 T14) ∧ (¬ (v14 = 0) → wp_X5_carriage (x2) (x4) I14 J14 T14 (fun v17 I17 J17 T17 => ((x3 = (-1 : Int32) → V10 (x2) (x4) (x4 + (1 : Int32)) I17 (ix_u2 J17 97 11 ((J14 97 10) + (((J14 97 3) * ((v17).toInt64)) / ((1000 : Int64))))) T17) ∧ (¬ (x3 = (-1 : Int32)) → ((lg_cmp ((J14 97 10) + (((J14 97 3) * ((v17).toInt64)) / ((1000 : Int64)))) (J17 97 11) < 0 → V10 (x2) (x4) (x4 + (1 : Int32)) I17 (ix_u2 J17 97 11 ((J14 97 10) + (((J14 97 3) * ((v17).toInt64)) / ((1000 : Int64))))) T17) ∧ (¬ (lg_cmp ((J14 97 10) + (((J14 97 3) * ((v17).toInt64)) / ((1000 : Int64)))) (J17 97 11) < 0) → V10 (x2) (x3) (x4 + (1 : Int32)) I17 J17 T17)))))))))))))))))) ∧ (¬ (x4 < v2) → wp_X6_postIn (x2) I2 J2 T2 (fun I22 J22 T22 => P (x3) I22 J22 T22))))
def wl_X10_findRemailer_10_c95 (x2 : Int32) (x3 : Int32) (x4 : Int32) (I : Nat → Nat → Int32) (J : Nat → Nat → Int64) (T : Option Nat) (P : Int32 → (Nat → Nat → Int32) → (Nat → Nat → Int64) → Option Nat → Prop) : Prop := ∀ V : Int32 → Int32 → Int32 → (Nat → Nat → Int32) → (Nat → Nat → Int64) → Option Nat → Prop, (∀ (x2 : Int32) (x3 : Int32) (x4 : Int32) (I : Nat → Nat → Int32) (J : Nat → Nat → Int64) (T : Option Nat), wb_X10_findRemailer_10_c95 x2 x3 x4 I J T V P → V x2 x3 x4 I J T) → V x2 x3 x4 I J T
set_option maxRecDepth 20000 in
theorem tl_X10_findRemailer_10_c95 {d : Nat} {x2 : Int32} {x3 : Int32} {x4 : Int32} {I : Nat → Nat → Int32} {J : Nat → Nat → Int64} {T : Option Nat} {P : Int32 → (Nat → Nat → Int32) → (Nat → Nat → Int64) → Option Nat → Prop} {Q : ix_Q} (h : wl_X10_findRemailer_10_c95 x2 x3 x4 I J T P) (hQ : ∀ v I J T, P v I J T → Q (some (.inl v)) (ix_mem 276 I J T)) : ix_W (ix_C (d + 9)) (10, ix_lk ix_l152, (some .int), 0, 0, Nat.blt 0 0, none) Q (10, [some (.inr (.inr (.inl (some (97))))), some (.inr (.inr (.inl (some (95))))), some (.inl (x2)), some (.inl (x3)), some (.inl (x4)), none, none], [], 0, 0, ix_mem 276 I J T) := by
  refine h (fun x2 x3 x4 I J T => ix_W (ix_C (d + 9)) (10, ix_lk ix_l152, (some .int), 0, 0, Nat.blt 0 0, none) Q (10, [some (.inr (.inr (.inl (some (97))))), some (.inr (.inr (.inl (some (95))))), some (.inl (x2)), some (.inl (x3)), some (.inl (x4)), none, none], [], 0, 0, ix_mem 276 I J T)) ?_
  intro x2 x3 x4 I J T hb
  unfold wb_X10_findRemailer_10_c95 at hb
  refine ix_go 3 (x' := (16, [some (.inr (.inr (.inl (some (97))))), some (.inr (.inr (.inl (some (95))))), some (.inl (x2)), some (.inl (x3)), some (.inl (x4)), none, none], [.inr (.inr (.inl (some (8)))), .inl (x4)], 0, 0, ix_mem 276 I J T)) rfl ⟨rfl, rfl⟩ ?_
  refine ix_sp rfl ⟨rfl, ⟨ix_lt rfl, ix_eq rfl, ix_lt rfl⟩, ix_le rfl, Nat.le_refl _, Nat.le_refl _, tp_X5_count hb (fun v2 I2 J2 T2 h2 => ?_)⟩
  change ix_W _ _ _ (19, [some (.inr (.inr (.inl (some (97))))), some (.inr (.inr (.inl (some (95))))), some (.inl (x2)), some (.inl (x3)), some (.inl (x4)), none, none], [.inl (v2), .inl (x4)], 0, 0, ix_mem 276 I2 J2 T2)
  refine ix_go 1 (x' := (if x4 < v2 then 22 else 127, [some (.inr (.inr (.inl (some (97))))), some (.inr (.inr (.inl (some (95))))), some (.inl (x2)), some (.inl (x3)), some (.inl (x4)), none, none], [], 0, 0, ix_mem 276 I2 J2 T2)) rfl trivial ?_
  refine ix_br (fun c3 => ?_) (fun c3 => ?_)
  · have h4 := h2.1 c3
    refine ix_go 3 (x' := (if x4 = x2 then 121 else 28, [some (.inr (.inr (.inl (some (97))))), some (.inr (.inr (.inl (some (95))))), some (.inl (x2)), some (.inl (x3)), some (.inl (x4)), none, none], [], 0, 0, ix_mem 276 I2 J2 T2)) rfl trivial ?_
    refine ix_br (fun c5 => ?_) (fun c5 => ?_)
    · have h6 := h4.1 c5
      refine ix_go 2 (x' := (10, [some (.inr (.inr (.inl (some (97))))), some (.inr (.inr (.inl (some (95))))), some (.inl (x2)), some (.inl (x3)), some (.inl (x4 + (1 : Int32))), none, none], [], 0, 0, ix_mem 276 I2 J2 T2)) rfl trivial ?_
      refine ix_subW ([some (.inr (.inr (.inl (some (97))))), some (.inr (.inr (.inl (some (95))))), some (.inl (x2)), some (.inl (x3)), some (.inl (x4 + (1 : Int32))), none, none]) (ix_subS (ix_subS (ix_subS (ix_subS (ix_subS (ix_subS (ix_subS (ix_sub0)))))))) ?_
      exact h6
    · have h6 := h4.2 c5
      refine ix_go 2 (x' := (31, [some (.inr (.inr (.inl (some (97))))), some (.inr (.inr (.inl (some (95))))), some (.inl (x2)), some (.inl (x3)), some (.inl (x4)), none, none], [.inr (.inr (.inl (some (95)))), .inl (x4)], 0, 0, ix_mem 276 I2 J2 T2)) rfl trivial ?_
      refine ix_sp rfl ⟨rfl, ⟨ix_lt rfl, ix_eq rfl, ix_lt rfl⟩, ix_le rfl, Nat.le_refl _, Nat.le_refl _, tp_X6_to h6 (fun v7 I7 J7 T7 h7 => ?_)⟩
      change ix_W _ _ _ (34, [some (.inr (.inr (.inl (some (97))))), some (.inr (.inr (.inl (some (95))))), some (.inl (x2)), some (.inl (x3)), some (.inl (x4)), none, none], [.inl (v7), .inl (x4)], 0, 0, ix_mem 276 I7 J7 T7)
      refine ix_go 1 (x' := (if x4 = v7 then 121 else 37, [some (.inr (.inr (.inl (some (97))))), some (.inr (.inr (.inl (some (95))))), some (.inl (x2)), some (.inl (x3)), some (.inl (x4)), none, none], [], 0, 0, ix_mem 276 I7 J7 T7)) rfl trivial ?_
      refine ix_br (fun c8 => ?_) (fun c8 => ?_)
      · have h9 := h7.1 c8
        refine ix_go 2 (x' := (10, [some (.inr (.inr (.inl (some (97))))), some (.inr (.inr (.inl (some (95))))), some (.inl (x2)), some (.inl (x3)), some (.inl (x4 + (1 : Int32))), none, none], [], 0, 0, ix_mem 276 I7 J7 T7)) rfl trivial ?_
        refine ix_subW ([some (.inr (.inr (.inl (some (97))))), some (.inr (.inr (.inl (some (95))))), some (.inl (x2)), some (.inl (x3)), some (.inl (x4 + (1 : Int32))), none, none]) (ix_subS (ix_subS (ix_subS (ix_subS (ix_subS (ix_subS (ix_subS (ix_sub0)))))))) ?_
        exact h9
      · have h9 := h7.2 c8
        refine ix_go 4 (x' := (44, [some (.inr (.inr (.inl (some (97))))), some (.inr (.inr (.inl (some (95))))), some (.inl (x2)), some (.inl (x3)), some (.inl (x4)), none, none], [.inl (x4), .inl (x2), .inr (.inr (.inl (some (8))))], 0, 0, ix_mem 276 I7 J7 T7)) rfl ⟨rfl, rfl⟩ ?_
        refine ix_sp rfl ⟨rfl, ⟨ix_lt rfl, ix_eq rfl, ix_lt rfl⟩, ix_le rfl, Nat.le_refl _, Nat.le_refl _, tp_X5_isReached h9 (fun v10 I10 J10 T10 h10 => ?_)⟩
        change ix_W _ _ _ (47, [some (.inr (.inr (.inl (some (97))))), some (.inr (.inr (.inl (some (95))))), some (.inl (x2)), some (.inl (x3)), some (.inl (x4)), none, none], [.inl (v10)], 0, 0, ix_mem 276 I10 J10 T10)
        refine ix_go 1 (x' := (if v10 = 0 then 50 else 53, [some (.inr (.inr (.inl (some (97))))), some (.inr (.inr (.inl (some (95))))), some (.inl (x2)), some (.inl (x3)), some (.inl (x4)), none, none], [], 0, 0, ix_mem 276 I10 J10 T10)) rfl trivial ?_
        refine ix_br (fun c11 => ?_) (fun c11 => ?_)
        · have h12 := h10.1 c11
          refine ix_go 3 (x' := (10, [some (.inr (.inr (.inl (some (97))))), some (.inr (.inr (.inl (some (95))))), some (.inl (x2)), some (.inl (x3)), some (.inl (x4 + (1 : Int32))), none, none], [], 0, 0, ix_mem 276 I10 J10 T10)) rfl trivial ?_
          refine ix_subW ([some (.inr (.inr (.inl (some (97))))), some (.inr (.inr (.inl (some (95))))), some (.inl (x2)), some (.inl (x3)), some (.inl (x4 + (1 : Int32))), none, none]) (ix_subS (ix_subS (ix_subS (ix_subS (ix_subS (ix_subS (ix_subS (ix_sub0)))))))) ?_
          exact h12
        · have h12 := h10.2 c11
          refine ix_go 2 (x' := (56, [some (.inr (.inr (.inl (some (97))))), some (.inr (.inr (.inl (some (95))))), some (.inl (x2)), some (.inl (x3)), some (.inl (x4)), none, none], [.inl (x4), .inr (.inr (.inl (some (95))))], 0, 0, ix_mem 276 I10 J10 T10)) rfl trivial ?_
          refine ix_sp rfl ⟨rfl, ⟨ix_lt rfl, ix_eq rfl, ix_lt rfl⟩, ix_le rfl, Nat.le_refl _, Nat.le_refl _, tp_X6_postIn h12 (fun I13 J13 T13 h13 => ?_)⟩
          change ix_W _ _ _ (59, [some (.inr (.inr (.inl (some (97))))), some (.inr (.inr (.inl (some (95))))), some (.inl (x2)), some (.inl (x3)), some (.inl (x4)), none, none], [], 0, 0, ix_mem 276 I13 J13 T13)
          refine ix_go 2 (x' := (61, [some (.inr (.inr (.inl (some (97))))), some (.inr (.inr (.inl (some (95))))), some (.inl (x2)), some (.inl (x3)), some (.inl (x4)), none, none], [.inr (.inr (.inl (some (95)))), .inr (.inr (.inl (some (97))))], 0, 0, ix_mem 276 I13 J13 T13)) rfl trivial ?_
          refine ix_sp rfl ⟨rfl, ⟨ix_lt rfl, ix_eq rfl, ix_lt rfl⟩, ix_le rfl, Nat.le_refl _, Nat.le_refl _, tp_X10_findBest h13 (fun v14 I14 J14 T14 h14 => ?_)⟩
          change ix_W _ _ _ (64, [some (.inr (.inr (.inl (some (97))))), some (.inr (.inr (.inl (some (95))))), some (.inl (x2)), some (.inl (x3)), some (.inl (x4)), none, none], [.inl (v14)], 0, 0, ix_mem 276 I14 J14 T14)
          refine ix_go 1 (x' := (if v14 = 0 then 67 else 70, [some (.inr (.inr (.inl (some (97))))), some (.inr (.inr (.inl (some (95))))), some (.inl (x2)), some (.inl (x3)), some (.inl (x4)), none, none], [], 0, 0, ix_mem 276 I14 J14 T14)) rfl trivial ?_
          refine ix_br (fun c15 => ?_) (fun c15 => ?_)
          · have h16 := h14.1 c15
            refine ix_go 3 (x' := (10, [some (.inr (.inr (.inl (some (97))))), some (.inr (.inr (.inl (some (95))))), some (.inl (x2)), some (.inl (x3)), some (.inl (x4 + (1 : Int32))), none, none], [], 0, 0, ix_mem 276 I14 J14 T14)) rfl trivial ?_
            refine ix_subW ([some (.inr (.inr (.inl (some (97))))), some (.inr (.inr (.inl (some (95))))), some (.inl (x2)), some (.inl (x3)), some (.inl (x4 + (1 : Int32))), none, none]) (ix_subS (ix_subS (ix_subS (ix_subS (ix_subS (ix_subS (ix_subS (ix_sub0)))))))) ?_
            exact h16
          · have h16 := h14.2 c15
            refine ix_go 7 (x' := (83, [some (.inr (.inr (.inl (some (97))))), some (.inr (.inr (.inl (some (95))))), some (.inl (x2)), some (.inl (x3)), some (.inl (x4)), none, none], [.inl (x2), .inr (.inr (.inl (some (8)))), .inr (.inl (J14 97 3)), .inr (.inl (J14 97 10))], 0, 0, ix_mem 276 I14 J14 T14)) rfl ⟨rfl, rfl, rfl, rfl, rfl, rfl⟩ ?_
            refine ix_go 1 (x' := (85, [some (.inr (.inr (.inl (some (97))))), some (.inr (.inr (.inl (some (95))))), some (.inl (x2)), some (.inl (x3)), some (.inl (x4)), none, none], [.inl (x4), .inl (x2), .inr (.inr (.inl (some (8)))), .inr (.inl (J14 97 3)), .inr (.inl (J14 97 10))], 0, 0, ix_mem 276 I14 J14 T14)) rfl trivial ?_
            refine ix_sp rfl ⟨rfl, ⟨ix_lt rfl, ix_eq rfl, ix_lt rfl⟩, ix_le rfl, Nat.le_refl _, Nat.le_refl _, tp_X5_carriage h16 (fun v17 I17 J17 T17 h17 => ?_)⟩
            change ix_W _ _ _ (88, [some (.inr (.inr (.inl (some (97))))), some (.inr (.inr (.inl (some (95))))), some (.inl (x2)), some (.inl (x3)), some (.inl (x4)), none, none], [.inl (v17), .inr (.inl (J14 97 3)), .inr (.inl (J14 97 10))], 0, 0, ix_mem 276 I17 J17 T17)
            refine ix_go 7 (x' := (98, [some (.inr (.inr (.inl (some (97))))), some (.inr (.inr (.inl (some (95))))), some (.inl (x2)), some (.inl (x3)), some (.inl (x4)), some (.inr (.inl ((J14 97 10) + (((J14 97 3) * ((v17).toInt64)) / ((1000 : Int64)))))), none], [.inl (x3)], 0, 0, ix_mem 276 I17 J17 T17)) rfl rfl ?_
            refine ix_go 2 (x' := (if x3 = (-1 : Int32) then 112 else 102, [some (.inr (.inr (.inl (some (97))))), some (.inr (.inr (.inl (some (95))))), some (.inl (x2)), some (.inl (x3)), some (.inl (x4)), some (.inr (.inl ((J14 97 10) + (((J14 97 3) * ((v17).toInt64)) / ((1000 : Int64)))))), none], [], 0, 0, ix_mem 276 I17 J17 T17)) rfl trivial ?_
            refine ix_br (fun c18 => ?_) (fun c18 => ?_)
            · have h19 := h17.1 c18
              refine ix_go 7 (x' := (10, [some (.inr (.inr (.inl (some (97))))), some (.inr (.inr (.inl (some (95))))), some (.inl (x2)), some (.inl (x4)), some (.inl (x4 + (1 : Int32))), some (.inr (.inl ((J14 97 10) + (((J14 97 3) * ((v17).toInt64)) / ((1000 : Int64)))))), none], [], 0, 0, ix_mem 276 I17 (ix_u2 J17 97 11 ((J14 97 10) + (((J14 97 3) * ((v17).toInt64)) / ((1000 : Int64))))) T17)) rfl ⟨rfl, rfl⟩ ?_
              refine ix_subW ([some (.inr (.inr (.inl (some (97))))), some (.inr (.inr (.inl (some (95))))), some (.inl (x2)), some (.inl (x4)), some (.inl (x4 + (1 : Int32))), none, none]) (ix_subS (ix_subS (ix_subS (ix_subS (ix_subS (ix_subN (ix_subS (ix_sub0)))))))) ?_
              exact h19
            · have h19 := h17.2 c18
              refine ix_go 5 (x' := (if lg_cmp ((J14 97 10) + (((J14 97 3) * ((v17).toInt64)) / ((1000 : Int64)))) (J17 97 11) < 0 then 112 else 121, [some (.inr (.inr (.inl (some (97))))), some (.inr (.inr (.inl (some (95))))), some (.inl (x2)), some (.inl (x3)), some (.inl (x4)), some (.inr (.inl ((J14 97 10) + (((J14 97 3) * ((v17).toInt64)) / ((1000 : Int64)))))), none], [], 0, 0, ix_mem 276 I17 J17 T17)) rfl ⟨rfl, rfl⟩ ?_
              refine ix_br (fun c20 => ?_) (fun c20 => ?_)
              · have h21 := h19.1 c20
                refine ix_go 7 (x' := (10, [some (.inr (.inr (.inl (some (97))))), some (.inr (.inr (.inl (some (95))))), some (.inl (x2)), some (.inl (x4)), some (.inl (x4 + (1 : Int32))), some (.inr (.inl ((J14 97 10) + (((J14 97 3) * ((v17).toInt64)) / ((1000 : Int64)))))), none], [], 0, 0, ix_mem 276 I17 (ix_u2 J17 97 11 ((J14 97 10) + (((J14 97 3) * ((v17).toInt64)) / ((1000 : Int64))))) T17)) rfl ⟨rfl, rfl⟩ ?_
                refine ix_subW ([some (.inr (.inr (.inl (some (97))))), some (.inr (.inr (.inl (some (95))))), some (.inl (x2)), some (.inl (x4)), some (.inl (x4 + (1 : Int32))), none, none]) (ix_subS (ix_subS (ix_subS (ix_subS (ix_subS (ix_subN (ix_subS (ix_sub0)))))))) ?_
                exact h21
              · have h21 := h19.2 c20
                refine ix_go 2 (x' := (10, [some (.inr (.inr (.inl (some (97))))), some (.inr (.inr (.inl (some (95))))), some (.inl (x2)), some (.inl (x3)), some (.inl (x4 + (1 : Int32))), some (.inr (.inl ((J14 97 10) + (((J14 97 3) * ((v17).toInt64)) / ((1000 : Int64)))))), none], [], 0, 0, ix_mem 276 I17 J17 T17)) rfl trivial ?_
                refine ix_subW ([some (.inr (.inr (.inl (some (97))))), some (.inr (.inr (.inl (some (95))))), some (.inl (x2)), some (.inl (x3)), some (.inl (x4 + (1 : Int32))), none, none]) (ix_subS (ix_subS (ix_subS (ix_subS (ix_subS (ix_subN (ix_subS (ix_sub0)))))))) ?_
                exact h21
  · have h4 := h2.2 c3
    refine ix_go 2 (x' := (129, [some (.inr (.inr (.inl (some (97))))), some (.inr (.inr (.inl (some (95))))), some (.inl (x2)), some (.inl (x3)), some (.inl (x4)), none, none], [.inl (x2), .inr (.inr (.inl (some (95))))], 0, 0, ix_mem 276 I2 J2 T2)) rfl trivial ?_
    refine ix_sp rfl ⟨rfl, ⟨ix_lt rfl, ix_eq rfl, ix_lt rfl⟩, ix_le rfl, Nat.le_refl _, Nat.le_refl _, tp_X6_postIn h4 (fun I22 J22 T22 h22 => ?_)⟩
    change ix_W _ _ _ (132, [some (.inr (.inr (.inl (some (97))))), some (.inr (.inr (.inl (some (95))))), some (.inl (x2)), some (.inl (x3)), some (.inl (x4)), none, none], [], 0, 0, ix_mem 276 I22 J22 T22)
    refine ix_go 1 (x' := (133, [some (.inr (.inr (.inl (some (97))))), some (.inr (.inr (.inl (some (95))))), some (.inl (x2)), some (.inl (x3)), some (.inl (x4)), none, none], [.inl (x3)], 0, 0, ix_mem 276 I22 J22 T22)) rfl trivial ?_
    exact ix_sp rfl ⟨Nat.le_refl _, Nat.le_refl _, trivial, hQ _ _ _ _ h22⟩
def wp_X10_findRemailer (I : Nat → Nat → Int32) (J : Nat → Nat → Int64) (T : Option Nat) (P : Int32 → (Nat → Nat → Int32) → (Nat → Nat → Int64) → Option Nat → Prop) : Prop := wp_X6_from I J T (fun v1 I1 J1 T1 => wl_X10_findRemailer_10_c95 (v1) ((-1 : Int32)) ((0 : Int32)) I1 J1 T1 P)
set_option maxRecDepth 20000 in
theorem tp_X10_findRemailer {d : Nat} {I : Nat → Nat → Int32} {J : Nat → Nat → Int64} {T : Option Nat} {P : Int32 → (Nat → Nat → Int32) → (Nat → Nat → Int64) → Option Nat → Prop} {Q : ix_Q} (h : wp_X10_findRemailer I J T P) (hQ : ∀ v I J T, P v I J T → Q (some (.inl v)) (ix_mem 276 I J T)) : ix_C (d + 10) 152 [.inr (.inr (.inl (some (97)))), .inr (.inr (.inl (some (95))))] (ix_mem 276 I J T) Q := by
  unfold wp_X10_findRemailer at h
  refine ix_enter (ls := [some (.inr (.inr (.inl (some (97))))), some (.inr (.inr (.inl (some (95))))), none, none, none, none, none]) rfl rfl rfl (Nat.le_of_ble_eq_true rfl) ?_
  refine ix_go 1 (x' := (1, [some (.inr (.inr (.inl (some (97))))), some (.inr (.inr (.inl (some (95))))), none, none, none, none, none], [.inr (.inr (.inl (some (95))))], 0, 0, ix_mem 276 I J T)) rfl trivial ?_
  refine ix_sp rfl ⟨rfl, ⟨ix_lt rfl, ix_eq rfl, ix_lt rfl⟩, ix_le rfl, Nat.le_refl _, Nat.le_refl _, tp_X6_from h (fun v1 I1 J1 T1 h1 => ?_)⟩
  change ix_W _ _ _ (4, [some (.inr (.inr (.inl (some (97))))), some (.inr (.inr (.inl (some (95))))), none, none, none, none, none], [.inl (v1)], 0, 0, ix_mem 276 I1 J1 T1)
  refine ix_go 5 (x' := (10, [some (.inr (.inr (.inl (some (97))))), some (.inr (.inr (.inl (some (95))))), some (.inl (v1)), some (.inl ((-1 : Int32))), some (.inl ((0 : Int32))), none, none], [], 0, 0, ix_mem 276 I1 J1 T1)) rfl trivial ?_
  refine ix_subW ([some (.inr (.inr (.inl (some (97))))), some (.inr (.inr (.inl (some (95))))), some (.inl (v1)), some (.inl ((-1 : Int32))), some (.inl ((0 : Int32))), none, none]) (ix_subS (ix_subS (ix_subS (ix_subS (ix_subS (ix_subS (ix_subS (ix_sub0)))))))) ?_
  exact tl_X10_findRemailer_10_c95 h1 hQ
def wp_X11_status (I : Nat → Nat → Int32) (J : Nat → Nat → Int64) (T : Option Nat) (P : Int32 → (Nat → Nat → Int32) → (Nat → Nat → Int64) → Option Nat → Prop) : Prop := P (I 0 0) I J T
set_option maxRecDepth 20000 in
theorem tp_X11_status {d : Nat} {I : Nat → Nat → Int32} {J : Nat → Nat → Int64} {T : Option Nat} {P : Int32 → (Nat → Nat → Int32) → (Nat → Nat → Int64) → Option Nat → Prop} {Q : ix_Q} (h : wp_X11_status I J T P) (hQ : ∀ v I J T, P v I J T → Q (some (.inl v)) (ix_mem 276 I J T)) : ix_C (d + 1) 154 [.inr (.inr (.inl (some (0))))] (ix_mem 276 I J T) Q := by
  unfold wp_X11_status at h
  refine ix_enter (ls := [some (.inr (.inr (.inl (some (0)))))]) rfl rfl rfl (Nat.le_of_ble_eq_true rfl) ?_
  refine ix_go 2 (x' := (4, [some (.inr (.inr (.inl (some (0)))))], [.inl (I 0 0)], 0, 0, ix_mem 276 I J T)) rfl ⟨rfl, rfl⟩ ?_
  exact ix_sp rfl ⟨Nat.le_refl _, Nat.le_refl _, trivial, hQ _ _ _ _ h⟩
def wp_X11_top (I : Nat → Nat → Int32) (J : Nat → Nat → Int64) (T : Option Nat) (P : Int64 → (Nat → Nat → Int32) → (Nat → Nat → Int64) → Option Nat → Prop) : Prop := P (J 0 1) I J T
set_option maxRecDepth 20000 in
theorem tp_X11_top {d : Nat} {I : Nat → Nat → Int32} {J : Nat → Nat → Int64} {T : Option Nat} {P : Int64 → (Nat → Nat → Int32) → (Nat → Nat → Int64) → Option Nat → Prop} {Q : ix_Q} (h : wp_X11_top I J T P) (hQ : ∀ v I J T, P v I J T → Q (some (.inr (.inl v))) (ix_mem 276 I J T)) : ix_C (d + 1) 155 [.inr (.inr (.inl (some (0))))] (ix_mem 276 I J T) Q := by
  unfold wp_X11_top at h
  refine ix_enter (ls := [some (.inr (.inr (.inl (some (0)))))]) rfl rfl rfl (Nat.le_of_ble_eq_true rfl) ?_
  refine ix_go 2 (x' := (4, [some (.inr (.inr (.inl (some (0)))))], [.inr (.inl (J 0 1))], 0, 0, ix_mem 276 I J T)) rfl ⟨rfl, rfl⟩ ?_
  exact ix_sp rfl ⟨Nat.le_refl _, Nat.le_refl _, rfl, hQ _ _ _ _ h⟩
def wp_X11_bottom (I : Nat → Nat → Int32) (J : Nat → Nat → Int64) (T : Option Nat) (P : Int64 → (Nat → Nat → Int32) → (Nat → Nat → Int64) → Option Nat → Prop) : Prop := P (J 0 2) I J T
set_option maxRecDepth 20000 in
theorem tp_X11_bottom {d : Nat} {I : Nat → Nat → Int32} {J : Nat → Nat → Int64} {T : Option Nat} {P : Int64 → (Nat → Nat → Int32) → (Nat → Nat → Int64) → Option Nat → Prop} {Q : ix_Q} (h : wp_X11_bottom I J T P) (hQ : ∀ v I J T, P v I J T → Q (some (.inr (.inl v))) (ix_mem 276 I J T)) : ix_C (d + 1) 156 [.inr (.inr (.inl (some (0))))] (ix_mem 276 I J T) Q := by
  unfold wp_X11_bottom at h
  refine ix_enter (ls := [some (.inr (.inr (.inl (some (0)))))]) rfl rfl rfl (Nat.le_of_ble_eq_true rfl) ?_
  refine ix_go 2 (x' := (4, [some (.inr (.inr (.inl (some (0)))))], [.inr (.inl (J 0 2))], 0, 0, ix_mem 276 I J T)) rfl ⟨rfl, rfl⟩ ?_
  exact ix_sp rfl ⟨Nat.le_refl _, Nat.le_refl _, rfl, hQ _ _ _ _ h⟩
def wp_X11_outside (a0 : Int64) (a1 : Int64) (a2 : Int64) (I : Nat → Nat → Int32) (J : Nat → Nat → Int64) (T : Option Nat) (P : Int32 → (Nat → Nat → Int32) → (Nat → Nat → Int64) → Option Nat → Prop) : Prop := ((lg_cmp (a0) (a1) < 0 → P ((1 : Int32)) I J T) ∧ (¬ (lg_cmp (a0) (a1) < 0) → ((lg_cmp (a0) (a2) ≤ 0 → P ((0 : Int32)) I J T) ∧ (¬ (lg_cmp (a0) (a2) ≤ 0) → P ((1 : Int32)) I J T))))
set_option maxRecDepth 20000 in
theorem tp_X11_outside {d : Nat} {a0 : Int64} {a1 : Int64} {a2 : Int64} {I : Nat → Nat → Int32} {J : Nat → Nat → Int64} {T : Option Nat} {P : Int32 → (Nat → Nat → Int32) → (Nat → Nat → Int64) → Option Nat → Prop} {Q : ix_Q} (h : wp_X11_outside a0 a1 a2 I J T P) (hQ : ∀ v I J T, P v I J T → Q (some (.inl v)) (ix_mem 276 I J T)) : ix_C (d + 1) 157 [.inr (.inl (a0)), .inr (.inl (a1)), .inr (.inl (a2))] (ix_mem 276 I J T) Q := by
  unfold wp_X11_outside at h
  refine ix_enter (ls := [some (.inr (.inl (a0))), none, some (.inr (.inl (a1))), none, some (.inr (.inl (a2))), none]) rfl rfl rfl (Nat.le_of_ble_eq_true rfl) ?_
  refine ix_go 4 (x' := (if lg_cmp (a0) (a1) < 0 then 13 else 6, [some (.inr (.inl (a0))), none, some (.inr (.inl (a1))), none, some (.inr (.inl (a2))), none], [], 0, 0, ix_mem 276 I J T)) rfl trivial ?_
  refine ix_br (fun c1 => ?_) (fun c1 => ?_)
  · have h2 := h.1 c1
    refine ix_go 2 (x' := (18, [some (.inr (.inl (a0))), none, some (.inr (.inl (a1))), none, some (.inr (.inl (a2))), none], [.inl ((1 : Int32))], 0, 0, ix_mem 276 I J T)) rfl trivial ?_
    exact ix_sp rfl ⟨Nat.le_refl _, Nat.le_refl _, ix_01_ok rfl, hQ _ _ _ _ h2⟩
  · have h2 := h.2 c1
    refine ix_go 4 (x' := (if lg_cmp (a0) (a2) ≤ 0 then 17 else 13, [some (.inr (.inl (a0))), none, some (.inr (.inl (a1))), none, some (.inr (.inl (a2))), none], [], 0, 0, ix_mem 276 I J T)) rfl trivial ?_
    refine ix_br (fun c3 => ?_) (fun c3 => ?_)
    · have h4 := h2.1 c3
      refine ix_go 1 (x' := (18, [some (.inr (.inl (a0))), none, some (.inr (.inl (a1))), none, some (.inr (.inl (a2))), none], [.inl ((0 : Int32))], 0, 0, ix_mem 276 I J T)) rfl trivial ?_
      exact ix_sp rfl ⟨Nat.le_refl _, Nat.le_refl _, ix_01_ok rfl, hQ _ _ _ _ h4⟩
    · have h4 := h2.2 c3
      refine ix_go 2 (x' := (18, [some (.inr (.inl (a0))), none, some (.inr (.inl (a1))), none, some (.inr (.inl (a2))), none], [.inl ((1 : Int32))], 0, 0, ix_mem 276 I J T)) rfl trivial ?_
      exact ix_sp rfl ⟨Nat.le_refl _, Nat.le_refl _, ix_01_ok rfl, hQ _ _ _ _ h4⟩
def wp_X11_refused (a0 : Int32) (I : Nat → Nat → Int32) (J : Nat → Nat → Int64) (T : Option Nat) (P : Int32 → (Nat → Nat → Int32) → (Nat → Nat → Int64) → Option Nat → Prop) : Prop := P ((0 : Int32)) (ix_u2 I 0 0 (a0)) J T
set_option maxRecDepth 20000 in
theorem tp_X11_refused {d : Nat} {a0 : Int32} {I : Nat → Nat → Int32} {J : Nat → Nat → Int64} {T : Option Nat} {P : Int32 → (Nat → Nat → Int32) → (Nat → Nat → Int64) → Option Nat → Prop} {Q : ix_Q} (h : wp_X11_refused a0 I J T P) (hQ : ∀ v I J T, P v I J T → Q (some (.inl v)) (ix_mem 276 I J T)) : ix_C (d + 1) 158 [.inr (.inr (.inl (some (0)))), .inl (a0)] (ix_mem 276 I J T) Q := by
  unfold wp_X11_refused at h
  refine ix_enter (ls := [some (.inr (.inr (.inl (some (0))))), some (.inl (a0))]) rfl rfl rfl (Nat.le_of_ble_eq_true rfl) ?_
  refine ix_go 4 (x' := (6, [some (.inr (.inr (.inl (some (0))))), some (.inl (a0))], [.inl ((0 : Int32))], 0, 0, ix_mem 276 (ix_u2 I 0 0 (a0)) J T)) rfl ⟨rfl, rfl⟩ ?_
  exact ix_sp rfl ⟨Nat.le_refl _, Nat.le_refl _, ix_01_ok rfl, hQ _ _ _ _ h⟩
def wp_X11_accepted (I : Nat → Nat → Int32) (J : Nat → Nat → Int64) (T : Option Nat) (P : Int32 → (Nat → Nat → Int32) → (Nat → Nat → Int64) → Option Nat → Prop) : Prop := P ((1 : Int32)) (ix_u2 I 0 0 ((0 : Int32))) J T
set_option maxRecDepth 20000 in
theorem tp_X11_accepted {d : Nat} {I : Nat → Nat → Int32} {J : Nat → Nat → Int64} {T : Option Nat} {P : Int32 → (Nat → Nat → Int32) → (Nat → Nat → Int64) → Option Nat → Prop} {Q : ix_Q} (h : wp_X11_accepted I J T P) (hQ : ∀ v I J T, P v I J T → Q (some (.inl v)) (ix_mem 276 I J T)) : ix_C (d + 1) 159 [.inr (.inr (.inl (some (0))))] (ix_mem 276 I J T) Q := by
  unfold wp_X11_accepted at h
  refine ix_enter (ls := [some (.inr (.inr (.inl (some (0)))))]) rfl rfl rfl (Nat.le_of_ble_eq_true rfl) ?_
  refine ix_go 4 (x' := (6, [some (.inr (.inr (.inl (some (0)))))], [.inl ((1 : Int32))], 0, 0, ix_mem 276 (ix_u2 I 0 0 ((0 : Int32))) J T)) rfl ⟨rfl, rfl⟩ ?_
  exact ix_sp rfl ⟨Nat.le_refl _, Nat.le_refl _, ix_01_ok rfl, hQ _ _ _ _ h⟩
def wb_X11_tray_45 (x1 : Int32) (x2 : Int32) (x3 : Int32) (x4 : Int32) (I : Nat → Nat → Int32) (J : Nat → Nat → Int64) (T : Option Nat) (V45 : Int32 → Int32 → Int32 → Int32 → (Nat → Nat → Int32) → (Nat → Nat → Int64) → Option Nat → Prop) (P : Int32 → (Nat → Nat → Int32) → (Nat → Nat → Int64) → Option Nat → Prop) : Prop := ((x4 < (60 : Int32) → ix_inb (x1) 4 = true ∧ ix_inb (x4) 60 = true ∧ V45 (x1) (x2) (x3) (x4 + (1 : Int32)) I (ix_u2 J (ix_row 1 (x1)) (x4).toNatClampNeg ((0 : Int64))) T) ∧ (¬ (x4 < (60 : Int32)) → ix_inb (x1) 4 = true ∧ ix_inb (x1) 4 = true ∧ wp_X11_accepted (ix_u2 (ix_u2 I 6 (x1).toNatClampNeg (x2)) 7 (x1).toNatClampNeg (x3)) J T (fun v20 I20 J20 T20 => ix_01 (v20) = true ∧ P (v20) I20 J20 T20)))
def wl_X11_tray_45 (x1 : Int32) (x2 : Int32) (x3 : Int32) (x4 : Int32) (I : Nat → Nat → Int32) (J : Nat → Nat → Int64) (T : Option Nat) (P : Int32 → (Nat → Nat → Int32) → (Nat → Nat → Int64) → Option Nat → Prop) : Prop := ∀ V : Int32 → Int32 → Int32 → Int32 → (Nat → Nat → Int32) → (Nat → Nat → Int64) → Option Nat → Prop, (∀ (x1 : Int32) (x2 : Int32) (x3 : Int32) (x4 : Int32) (I : Nat → Nat → Int32) (J : Nat → Nat → Int64) (T : Option Nat), wb_X11_tray_45 x1 x2 x3 x4 I J T V P → V x1 x2 x3 x4 I J T) → V x1 x2 x3 x4 I J T
set_option maxRecDepth 20000 in
theorem tl_X11_tray_45 {d : Nat} {x1 : Int32} {x2 : Int32} {x3 : Int32} {x4 : Int32} {I : Nat → Nat → Int32} {J : Nat → Nat → Int64} {T : Option Nat} {P : Int32 → (Nat → Nat → Int32) → (Nat → Nat → Int64) → Option Nat → Prop} {Q : ix_Q} (h : wl_X11_tray_45 x1 x2 x3 x4 I J T P) (hQ : ∀ v I J T, P v I J T → Q (some (.inl v)) (ix_mem 276 I J T)) : ix_W (ix_C (d + 1)) (11, ix_lk ix_l160, (some .boolean), 0, 0, Nat.blt 0 0, none) Q (45, [some (.inr (.inr (.inl (some (0))))), some (.inl (x1)), some (.inl (x2)), some (.inl (x3)), some (.inl (x4))], [], 0, 0, ix_mem 276 I J T) := by
  refine h (fun x1 x2 x3 x4 I J T => ix_W (ix_C (d + 1)) (11, ix_lk ix_l160, (some .boolean), 0, 0, Nat.blt 0 0, none) Q (45, [some (.inr (.inr (.inl (some (0))))), some (.inl (x1)), some (.inl (x2)), some (.inl (x3)), some (.inl (x4))], [], 0, 0, ix_mem 276 I J T)) ?_
  intro x1 x2 x3 x4 I J T hb
  unfold wb_X11_tray_45 at hb
  refine ix_go 3 (x' := (if x4 < (60 : Int32) then 52 else 68, [some (.inr (.inr (.inl (some (0))))), some (.inl (x1)), some (.inl (x2)), some (.inl (x3)), some (.inl (x4))], [], 0, 0, ix_mem 276 I J T)) rfl trivial ?_
  refine ix_br (fun c10 => ?_) (fun c10 => ?_)
  · have h11 := hb.1 c10
    obtain ⟨p12, h13⟩ := h11
    obtain ⟨p14, h15⟩ := h13
    refine ix_go 9 (x' := (45, [some (.inr (.inr (.inl (some (0))))), some (.inl (x1)), some (.inl (x2)), some (.inl (x3)), some (.inl (x4 + (1 : Int32)))], [], 0, 0, ix_mem 276 I (ix_u2 J (ix_row 1 (x1)) (x4).toNatClampNeg ((0 : Int64))) T)) rfl ⟨rfl, rfl, rfl, rfl, rfl, p12, (rw_1 p12).1, (rw_1 p12).2.1, (rw_1 p12).2.2.1, (ix_inbL (rw_1 p12).2.2.2.1 p14)⟩ ?_
    refine ix_subW ([some (.inr (.inr (.inl (some (0))))), some (.inl (x1)), some (.inl (x2)), some (.inl (x3)), some (.inl (x4 + (1 : Int32)))]) (ix_subS (ix_subS (ix_subS (ix_subS (ix_subS (ix_sub0)))))) ?_
    exact h15
  · have h11 := hb.2 c10
    obtain ⟨p16, h17⟩ := h11
    obtain ⟨p18, h19⟩ := h17
    refine ix_go 11 (x' := (83, [some (.inr (.inr (.inl (some (0))))), some (.inl (x1)), some (.inl (x2)), some (.inl (x3)), some (.inl (x4))], [.inr (.inr (.inl (some (0))))], 0, 0, ix_mem 276 (ix_u2 (ix_u2 I 6 (x1).toNatClampNeg (x2)) 7 (x1).toNatClampNeg (x3)) J T)) rfl ⟨rfl, rfl, rfl, rfl, p16, rfl, rfl, rfl, rfl, p18⟩ ?_
    refine ix_sp rfl ⟨rfl, ⟨ix_lt rfl, ix_eq rfl, ix_lt rfl⟩, ix_le rfl, Nat.le_refl _, Nat.le_refl _, tp_X11_accepted h19 (fun v20 I20 J20 T20 h20 => ?_)⟩
    change ix_W _ _ _ (86, [some (.inr (.inr (.inl (some (0))))), some (.inl (x1)), some (.inl (x2)), some (.inl (x3)), some (.inl (x4))], [.inl (v20)], 0, 0, ix_mem 276 I20 J20 T20)
    exact ix_sp rfl ⟨Nat.le_refl _, Nat.le_refl _, ix_01_ok h20.1, hQ _ _ _ _ h20.2⟩
def wp_X11_tray (a0 : Int32) (a1 : Int32) (a2 : Int32) (I : Nat → Nat → Int32) (J : Nat → Nat → Int64) (T : Option Nat) (P : Int32 → (Nat → Nat → Int32) → (Nat → Nat → Int64) → Option Nat → Prop) : Prop := wp_X11_outside ((a0).toInt64) ((0 : Int64)) ((3 : Int64)) I J T (fun v1 I1 J1 T1 => ((v1 = 0 → wp_X11_outside ((a1).toInt64) ((0 : Int64)) ((3 : Int64)) I1 J1 T1 (fun v4 I4 J4 T4 => ((v4 = 0 → wp_X11_outside ((a2).toInt64) ((0 : Int64)) ((60 : Int64)) I4 J4 T4 (fun v7 I7 J7 T7 => ((v7 = 0 → wl_X11_tray_45 (a0) (a1) (a2) ((0 : Int32)) I7 J7 T7 P) ∧ (¬ (v7 = 0) → wp_X11_refused ((1 : Int32)) I7 J7 T7 (fun v21 I21 J21 T21 => ix_01 (v21) = true ∧ P (v21) I21 J21 T21))))) ∧ (¬ (v4 = 0) → wp_X11_refused ((1 : Int32)) I4 J4 T4 (fun v22 I22 J22 T22 => ix_01 (v22) = true ∧ P (v22) I22 J22 T22))))) ∧ (¬ (v1 = 0) → wp_X11_refused ((1 : Int32)) I1 J1 T1 (fun v23 I23 J23 T23 => ix_01 (v23) = true ∧ P (v23) I23 J23 T23))))
set_option maxRecDepth 20000 in
theorem tp_X11_tray {d : Nat} {a0 : Int32} {a1 : Int32} {a2 : Int32} {I : Nat → Nat → Int32} {J : Nat → Nat → Int64} {T : Option Nat} {P : Int32 → (Nat → Nat → Int32) → (Nat → Nat → Int64) → Option Nat → Prop} {Q : ix_Q} (h : wp_X11_tray a0 a1 a2 I J T P) (hQ : ∀ v I J T, P v I J T → Q (some (.inl v)) (ix_mem 276 I J T)) : ix_C (d + 2) 160 [.inr (.inr (.inl (some (0)))), .inl (a0), .inl (a1), .inl (a2)] (ix_mem 276 I J T) Q := by
  unfold wp_X11_tray at h
  refine ix_enter (ls := [some (.inr (.inr (.inl (some (0))))), some (.inl (a0)), some (.inl (a1)), some (.inl (a2)), none]) rfl rfl rfl (Nat.le_of_ble_eq_true rfl) ?_
  refine ix_go 4 (x' := (6, [some (.inr (.inr (.inl (some (0))))), some (.inl (a0)), some (.inl (a1)), some (.inl (a2)), none], [.inr (.inl ((3 : Int64))), .inr (.inl ((0 : Int64))), .inr (.inl ((a0).toInt64))], 0, 0, ix_mem 276 I J T)) rfl trivial ?_
  refine ix_sp rfl ⟨rfl, trivial, ix_le rfl, Nat.le_refl _, Nat.le_refl _, tp_X11_outside h (fun v1 I1 J1 T1 h1 => ?_)⟩
  change ix_W _ _ _ (9, [some (.inr (.inr (.inl (some (0))))), some (.inl (a0)), some (.inl (a1)), some (.inl (a2)), none], [.inl (v1)], 0, 0, ix_mem 276 I1 J1 T1)
  refine ix_go 1 (x' := (if v1 = 0 then 12 else 36, [some (.inr (.inr (.inl (some (0))))), some (.inl (a0)), some (.inl (a1)), some (.inl (a2)), none], [], 0, 0, ix_mem 276 I1 J1 T1)) rfl trivial ?_
  refine ix_br (fun c2 => ?_) (fun c2 => ?_)
  · have h3 := h1.1 c2
    refine ix_go 4 (x' := (18, [some (.inr (.inr (.inl (some (0))))), some (.inl (a0)), some (.inl (a1)), some (.inl (a2)), none], [.inr (.inl ((3 : Int64))), .inr (.inl ((0 : Int64))), .inr (.inl ((a1).toInt64))], 0, 0, ix_mem 276 I1 J1 T1)) rfl trivial ?_
    refine ix_sp rfl ⟨rfl, trivial, ix_le rfl, Nat.le_refl _, Nat.le_refl _, tp_X11_outside h3 (fun v4 I4 J4 T4 h4 => ?_)⟩
    change ix_W _ _ _ (21, [some (.inr (.inr (.inl (some (0))))), some (.inl (a0)), some (.inl (a1)), some (.inl (a2)), none], [.inl (v4)], 0, 0, ix_mem 276 I4 J4 T4)
    refine ix_go 1 (x' := (if v4 = 0 then 24 else 36, [some (.inr (.inr (.inl (some (0))))), some (.inl (a0)), some (.inl (a1)), some (.inl (a2)), none], [], 0, 0, ix_mem 276 I4 J4 T4)) rfl trivial ?_
    refine ix_br (fun c5 => ?_) (fun c5 => ?_)
    · have h6 := h4.1 c5
      refine ix_go 4 (x' := (30, [some (.inr (.inr (.inl (some (0))))), some (.inl (a0)), some (.inl (a1)), some (.inl (a2)), none], [.inr (.inl ((60 : Int64))), .inr (.inl ((0 : Int64))), .inr (.inl ((a2).toInt64))], 0, 0, ix_mem 276 I4 J4 T4)) rfl trivial ?_
      refine ix_sp rfl ⟨rfl, trivial, ix_le rfl, Nat.le_refl _, Nat.le_refl _, tp_X11_outside h6 (fun v7 I7 J7 T7 h7 => ?_)⟩
      change ix_W _ _ _ (33, [some (.inr (.inr (.inl (some (0))))), some (.inl (a0)), some (.inl (a1)), some (.inl (a2)), none], [.inl (v7)], 0, 0, ix_mem 276 I7 J7 T7)
      refine ix_go 1 (x' := (if v7 = 0 then 42 else 36, [some (.inr (.inr (.inl (some (0))))), some (.inl (a0)), some (.inl (a1)), some (.inl (a2)), none], [], 0, 0, ix_mem 276 I7 J7 T7)) rfl trivial ?_
      refine ix_br (fun c8 => ?_) (fun c8 => ?_)
      · have h9 := h7.1 c8
        refine ix_go 2 (x' := (45, [some (.inr (.inr (.inl (some (0))))), some (.inl (a0)), some (.inl (a1)), some (.inl (a2)), some (.inl ((0 : Int32)))], [], 0, 0, ix_mem 276 I7 J7 T7)) rfl trivial ?_
        refine ix_subW ([some (.inr (.inr (.inl (some (0))))), some (.inl (a0)), some (.inl (a1)), some (.inl (a2)), some (.inl ((0 : Int32)))]) (ix_subS (ix_subS (ix_subS (ix_subS (ix_subS (ix_sub0)))))) ?_
        exact tl_X11_tray_45 h9 hQ
      · have h9 := h7.2 c8
        refine ix_go 2 (x' := (38, [some (.inr (.inr (.inl (some (0))))), some (.inl (a0)), some (.inl (a1)), some (.inl (a2)), none], [.inl ((1 : Int32)), .inr (.inr (.inl (some (0))))], 0, 0, ix_mem 276 I7 J7 T7)) rfl trivial ?_
        refine ix_sp rfl ⟨rfl, ⟨ix_lt rfl, ix_eq rfl, ix_lt rfl⟩, ix_le rfl, Nat.le_refl _, Nat.le_refl _, tp_X11_refused h9 (fun v21 I21 J21 T21 h21 => ?_)⟩
        change ix_W _ _ _ (41, [some (.inr (.inr (.inl (some (0))))), some (.inl (a0)), some (.inl (a1)), some (.inl (a2)), none], [.inl (v21)], 0, 0, ix_mem 276 I21 J21 T21)
        exact ix_sp rfl ⟨Nat.le_refl _, Nat.le_refl _, ix_01_ok h21.1, hQ _ _ _ _ h21.2⟩
    · have h6 := h4.2 c5
      refine ix_go 2 (x' := (38, [some (.inr (.inr (.inl (some (0))))), some (.inl (a0)), some (.inl (a1)), some (.inl (a2)), none], [.inl ((1 : Int32)), .inr (.inr (.inl (some (0))))], 0, 0, ix_mem 276 I4 J4 T4)) rfl trivial ?_
      refine ix_sp rfl ⟨rfl, ⟨ix_lt rfl, ix_eq rfl, ix_lt rfl⟩, ix_le rfl, Nat.le_refl _, Nat.le_refl _, tp_X11_refused h6 (fun v22 I22 J22 T22 h22 => ?_)⟩
      change ix_W _ _ _ (41, [some (.inr (.inr (.inl (some (0))))), some (.inl (a0)), some (.inl (a1)), some (.inl (a2)), none], [.inl (v22)], 0, 0, ix_mem 276 I22 J22 T22)
      exact ix_sp rfl ⟨Nat.le_refl _, Nat.le_refl _, ix_01_ok h22.1, hQ _ _ _ _ h22.2⟩
  · have h3 := h1.2 c2
    refine ix_go 2 (x' := (38, [some (.inr (.inr (.inl (some (0))))), some (.inl (a0)), some (.inl (a1)), some (.inl (a2)), none], [.inl ((1 : Int32)), .inr (.inr (.inl (some (0))))], 0, 0, ix_mem 276 I1 J1 T1)) rfl trivial ?_
    refine ix_sp rfl ⟨rfl, ⟨ix_lt rfl, ix_eq rfl, ix_lt rfl⟩, ix_le rfl, Nat.le_refl _, Nat.le_refl _, tp_X11_refused h3 (fun v23 I23 J23 T23 h23 => ?_)⟩
    change ix_W _ _ _ (41, [some (.inr (.inr (.inl (some (0))))), some (.inl (a0)), some (.inl (a1)), some (.inl (a2)), none], [.inl (v23)], 0, 0, ix_mem 276 I23 J23 T23)
    exact ix_sp rfl ⟨Nat.le_refl _, Nat.le_refl _, ix_01_ok h23.1, hQ _ _ _ _ h23.2⟩
