def wb_X4_add_r5_47_c5 (x6 : Int32) (x7 : Int32) (I : Nat → Nat → Int32) (J : Nat → Nat → Int64) (T : Option Nat) (V47 : Int32 → Int32 → (Nat → Nat → Int32) → (Nat → Nat → Int64) → Option Nat → Prop) (P : Int32 → (Nat → Nat → Int32) → (Nat → Nat → Int64) → Option Nat → Prop) : Prop := ((x7 < (52 : Int32) → ((x7 < (60 : Int32) → ix_inb (I 106 0) 8 = true ∧ ix_inb (x7) 60 = true ∧ ix_inb (x7) 52 = true ∧ ix_inb (I 106 0) 8 = true ∧ ix_inb (x7) 52 = true ∧ V47 ((x6) + ((J 5 (x7).toNatClampNeg).toInt32)) (x7 + (1 : Int32)) (ix_u2 I (ix_row 112 (I 106 0)) (x7).toNatClampNeg ((J 5 (x7).toNatClampNeg).toInt32)) J T) ∧ (¬ (x7 < (60 : Int32)) → ix_inb (I 106 0) 8 = true ∧ P ((((I 106 0) + ((1 : Int32)))) - ((1 : Int32))) (ix_u2 (ix_u2 I 111 (I 106 0).toNatClampNeg (x6)) 106 0 ((I 106 0) + ((1 : Int32)))) J T))) ∧ (¬ (x7 < (52 : Int32)) → ix_inb (I 106 0) 8 = true ∧ P ((((I 106 0) + ((1 : Int32)))) - ((1 : Int32))) (ix_u2 (ix_u2 I 111 (I 106 0).toNatClampNeg (x6)) 106 0 ((I 106 0) + ((1 : Int32)))) J T))
def wl_X4_add_r5_47_c5 (x6 : Int32) (x7 : Int32) (I : Nat → Nat → Int32) (J : Nat → Nat → Int64) (T : Option Nat) (P : Int32 → (Nat → Nat → Int32) → (Nat → Nat → Int64) → Option Nat → Prop) : Prop := ∀ V : Int32 → Int32 → (Nat → Nat → Int32) → (Nat → Nat → Int64) → Option Nat → Prop, (∀ (x6 : Int32) (x7 : Int32) (I : Nat → Nat → Int32) (J : Nat → Nat → Int64) (T : Option Nat), wb_X4_add_r5_47_c5 x6 x7 I J T V P → V x6 x7 I J T) → V x6 x7 I J T
set_option maxRecDepth 20000 in
theorem tl_X4_add_r5_47_c5 {d : Nat} {x6 : Int32} {x7 : Int32} {I : Nat → Nat → Int32} {J : Nat → Nat → Int64} {T : Option Nat} {P : Int32 → (Nat → Nat → Int32) → (Nat → Nat → Int64) → Option Nat → Prop} {Q : ix_Q} (h : wl_X4_add_r5_47_c5 x6 x7 I J T P) (hQ : ∀ v I J T, P v I J T → Q (some (.inl v)) (ix_mem 276 I J T)) : ix_W (ix_C d) (4, ix_lk ix_l53, (some .int), 0, 0, Nat.blt 0 0, none) Q (47, [some (.inr (.inr (.inl (some (106))))), none, none, none, none, some (.inr (.inr (.inl (some (5))))), some (.inl (x6)), some (.inl (x7))], [], 0, 0, ix_mem 276 I J T) := by
  refine h (fun x6 x7 I J T => ix_W (ix_C d) (4, ix_lk ix_l53, (some .int), 0, 0, Nat.blt 0 0, none) Q (47, [some (.inr (.inr (.inl (some (106))))), none, none, none, none, some (.inr (.inr (.inl (some (5))))), some (.inl (x6)), some (.inl (x7))], [], 0, 0, ix_mem 276 I J T)) ?_
  intro x6 x7 I J T hb
  unfold wb_X4_add_r5_47_c5 at hb
  refine ix_go 3 (x' := (if x7 < (52 : Int32) then 54 else 103, [some (.inr (.inr (.inl (some (106))))), none, none, none, none, some (.inr (.inr (.inl (some (5))))), some (.inl (x6)), some (.inl (x7))], [], 0, 0, ix_mem 276 I J T)) rfl trivial ?_
  refine ix_br (fun c9 => ?_) (fun c9 => ?_)
  · have h10 := hb.1 c9
    refine ix_go 4 (x' := (if x7 < (60 : Int32) then 62 else 103, [some (.inr (.inr (.inl (some (106))))), none, none, none, none, some (.inr (.inr (.inl (some (5))))), some (.inl (x6)), some (.inl (x7))], [], 0, 0, ix_mem 276 I J T)) rfl ⟨rfl, rfl, rfl⟩ ?_
    refine ix_br (fun c11 => ?_) (fun c11 => ?_)
    · have h12 := h10.1 c11
      obtain ⟨p13, h14⟩ := h12
      refine ix_go 7 (x' := (75, [some (.inr (.inr (.inl (some (106))))), none, none, none, none, some (.inr (.inr (.inl (some (5))))), some (.inl (x6)), some (.inl (x7))], [.inr (.inr (.inl (some (5)))), .inl (x7), .inr (.inr (.inl (some (ix_row 112 (I 106 0)))))], 0, 0, ix_mem 276 I J T)) rfl ⟨rfl, rfl, rfl, rfl, rfl, rfl, rfl, p13, (rw_112 p13).1⟩ ?_
      obtain ⟨p15, h16⟩ := h14
      obtain ⟨p17, h18⟩ := h16
      refine ix_go 7 (x' := (86, [some (.inr (.inr (.inl (some (106))))), none, none, none, none, some (.inr (.inr (.inl (some (5))))), some (.inl (x6)), some (.inl (x7))], [.inr (.inr (.inl (some (112)))), .inl (x6)], 0, 0, ix_mem 276 (ix_u2 I (ix_row 112 (I 106 0)) (x7).toNatClampNeg ((J 5 (x7).toNatClampNeg).toInt32)) J T)) rfl ⟨rfl, rfl, p15, (rw_112 p13).2.1, (rw_112 p13).2.2.1, (ix_inbL (rw_112 p13).2.2.2.1 p17), rfl, rfl⟩ ?_
      refine ix_go 2 (x' := (90, [some (.inr (.inr (.inl (some (106))))), none, none, none, none, some (.inr (.inr (.inl (some (5))))), some (.inl (x6)), some (.inl (x7))], [.inl ((ix_u2 I (ix_row 112 (I 106 0)) (x7).toNatClampNeg ((J 5 (x7).toNatClampNeg).toInt32)) 106 0), .inr (.inr (.inl (some (112)))), .inl (x6)], 0, 0, ix_mem 276 (ix_u2 I (ix_row 112 (I 106 0)) (x7).toNatClampNeg ((J 5 (x7).toNatClampNeg).toInt32)) J T)) rfl ⟨rfl, rfl⟩ ?_
      rw [show (ix_u2 I (ix_row 112 (I 106 0)) (x7).toNatClampNeg ((J 5 (x7).toNatClampNeg).toInt32)) 106 0 = I 106 0 from by rw [ro_112 p13 rfl]]
      obtain ⟨p19, h20⟩ := h18
      obtain ⟨p21, h22⟩ := h20
      refine ix_go 3 (x' := (94, [some (.inr (.inr (.inl (some (106))))), none, none, none, none, some (.inr (.inr (.inl (some (5))))), some (.inl (x6)), some (.inl (x7))], [.inl ((ix_u2 I (ix_row 112 (I 106 0)) (x7).toNatClampNeg ((J 5 (x7).toNatClampNeg).toInt32)) (ix_row 112 (I 106 0)) (x7).toNatClampNeg), .inl (x6)], 0, 0, ix_mem 276 (ix_u2 I (ix_row 112 (I 106 0)) (x7).toNatClampNeg ((J 5 (x7).toNatClampNeg).toInt32)) J T)) rfl ⟨rfl, rfl, rfl, p19, (rw_112 p19).1, (rw_112 p19).2.1, (rw_112 p19).2.2.1, (ix_inbL (rw_112 p19).2.2.2.1 p21)⟩ ?_
      rw [show (ix_u2 I (ix_row 112 (I 106 0)) (x7).toNatClampNeg ((J 5 (x7).toNatClampNeg).toInt32)) (ix_row 112 (I 106 0)) (x7).toNatClampNeg = (J 5 (x7).toNatClampNeg).toInt32 from by rw [u2_s]]
      refine ix_go 4 (x' := (47, [some (.inr (.inr (.inl (some (106))))), none, none, none, none, some (.inr (.inr (.inl (some (5))))), some (.inl ((x6) + ((J 5 (x7).toNatClampNeg).toInt32))), some (.inl (x7 + (1 : Int32)))], [], 0, 0, ix_mem 276 (ix_u2 I (ix_row 112 (I 106 0)) (x7).toNatClampNeg ((J 5 (x7).toNatClampNeg).toInt32)) J T)) rfl trivial ?_
      refine ix_subW ([some (.inr (.inr (.inl (some (106))))), none, none, none, none, some (.inr (.inr (.inl (some (5))))), some (.inl ((x6) + ((J 5 (x7).toNatClampNeg).toInt32))), some (.inl (x7 + (1 : Int32)))]) (ix_subS (ix_subS (ix_subS (ix_subS (ix_subS (ix_subS (ix_subS (ix_subS (ix_sub0))))))))) ?_
      exact h22
    · have h12 := h10.2 c11
      obtain ⟨p23, h24⟩ := h12
      refine ix_go 7 (x' := (115, [some (.inr (.inr (.inl (some (106))))), none, none, none, none, some (.inr (.inr (.inl (some (5))))), some (.inl (x6)), some (.inl (x7))], [.inr (.inr (.inl (some (106))))], 0, 0, ix_mem 276 (ix_u2 I 111 (I 106 0).toNatClampNeg (x6)) J T)) rfl ⟨rfl, rfl, rfl, rfl, rfl, rfl, p23⟩ ?_
      refine ix_go 7 (x' := (128, [some (.inr (.inr (.inl (some (106))))), none, none, none, none, some (.inr (.inr (.inl (some (5))))), some (.inl (x6)), some (.inl (x7))], [.inl (((I 106 0) + ((1 : Int32))))], 0, 0, ix_mem 276 (ix_u2 (ix_u2 I 111 (I 106 0).toNatClampNeg (x6)) 106 0 ((I 106 0) + ((1 : Int32)))) J T)) rfl ⟨rfl, rfl, rfl, rfl, rfl, rfl⟩ ?_
      refine ix_go 2 (x' := (130, [some (.inr (.inr (.inl (some (106))))), none, none, none, none, some (.inr (.inr (.inl (some (5))))), some (.inl (x6)), some (.inl (x7))], [.inl ((((I 106 0) + ((1 : Int32)))) - ((1 : Int32)))], 0, 0, ix_mem 276 (ix_u2 (ix_u2 I 111 (I 106 0).toNatClampNeg (x6)) 106 0 ((I 106 0) + ((1 : Int32)))) J T)) rfl trivial ?_
      exact ix_sp rfl ⟨Nat.le_refl _, Nat.le_refl _, trivial, hQ _ _ _ _ h24⟩
  · have h10 := hb.2 c9
    obtain ⟨p25, h26⟩ := h10
    refine ix_go 7 (x' := (115, [some (.inr (.inr (.inl (some (106))))), none, none, none, none, some (.inr (.inr (.inl (some (5))))), some (.inl (x6)), some (.inl (x7))], [.inr (.inr (.inl (some (106))))], 0, 0, ix_mem 276 (ix_u2 I 111 (I 106 0).toNatClampNeg (x6)) J T)) rfl ⟨rfl, rfl, rfl, rfl, rfl, rfl, p25⟩ ?_
    refine ix_go 7 (x' := (128, [some (.inr (.inr (.inl (some (106))))), none, none, none, none, some (.inr (.inr (.inl (some (5))))), some (.inl (x6)), some (.inl (x7))], [.inl (((I 106 0) + ((1 : Int32))))], 0, 0, ix_mem 276 (ix_u2 (ix_u2 I 111 (I 106 0).toNatClampNeg (x6)) 106 0 ((I 106 0) + ((1 : Int32)))) J T)) rfl ⟨rfl, rfl, rfl, rfl, rfl, rfl⟩ ?_
    refine ix_go 2 (x' := (130, [some (.inr (.inr (.inl (some (106))))), none, none, none, none, some (.inr (.inr (.inl (some (5))))), some (.inl (x6)), some (.inl (x7))], [.inl ((((I 106 0) + ((1 : Int32)))) - ((1 : Int32)))], 0, 0, ix_mem 276 (ix_u2 (ix_u2 I 111 (I 106 0).toNatClampNeg (x6)) 106 0 ((I 106 0) + ((1 : Int32)))) J T)) rfl trivial ?_
    exact ix_sp rfl ⟨Nat.le_refl _, Nat.le_refl _, trivial, hQ _ _ _ _ h26⟩
def wp_X4_add_r5 (a0 : Int32) (a1 : Int32) (a2 : Int32) (a3 : Int32) (I : Nat → Nat → Int32) (J : Nat → Nat → Int64) (T : Option Nat) (P : Int32 → (Nat → Nat → Int32) → (Nat → Nat → Int64) → Option Nat → Prop) : Prop := ix_inb (I 106 0) 8 = true ∧ ix_inb (I 106 0) 8 = true ∧ ix_inb (I 106 0) 8 = true ∧ ix_inb (I 106 0) 8 = true ∧ wl_X4_add_r5_47_c5 ((0 : Int32)) ((0 : Int32)) (ix_u2 (ix_u2 (ix_u2 (ix_u2 I 107 (I 106 0).toNatClampNeg (a0)) 108 (I 106 0).toNatClampNeg (a1)) 109 (I 106 0).toNatClampNeg (a2)) 110 (I 106 0).toNatClampNeg (a3)) J T P
set_option maxRecDepth 20000 in
theorem tp_X4_add_r5 {d : Nat} {a0 : Int32} {a1 : Int32} {a2 : Int32} {a3 : Int32} {I : Nat → Nat → Int32} {J : Nat → Nat → Int64} {T : Option Nat} {P : Int32 → (Nat → Nat → Int32) → (Nat → Nat → Int64) → Option Nat → Prop} {Q : ix_Q} (h : wp_X4_add_r5 a0 a1 a2 a3 I J T P) (hQ : ∀ v I J T, P v I J T → Q (some (.inl v)) (ix_mem 276 I J T)) : ix_C (d + 1) 53 [.inr (.inr (.inl (some (106)))), .inl (a0), .inl (a1), .inl (a2), .inl (a3), .inr (.inr (.inl (some (5))))] (ix_mem 276 I J T) Q := by
  unfold wp_X4_add_r5 at h
  refine ix_enter (ls := [some (.inr (.inr (.inl (some (106))))), some (.inl (a0)), some (.inl (a1)), some (.inl (a2)), some (.inl (a3)), some (.inr (.inr (.inl (some (5))))), none, none]) rfl rfl rfl (Nat.le_of_ble_eq_true rfl) ?_
  obtain ⟨p1, h2⟩ := h
  refine ix_go 7 (x' := (11, [some (.inr (.inr (.inl (some (106))))), some (.inl (a0)), some (.inl (a1)), some (.inl (a2)), some (.inl (a3)), some (.inr (.inr (.inl (some (5))))), none, none], [.inr (.inr (.inl (some (106))))], 0, 0, ix_mem 276 (ix_u2 I 107 (I 106 0).toNatClampNeg (a0)) J T)) rfl ⟨rfl, rfl, rfl, rfl, rfl, rfl, p1⟩ ?_
  obtain ⟨p3, h4⟩ := h2
  refine ix_go 7 (x' := (24, [some (.inr (.inr (.inl (some (106))))), some (.inl (a0)), some (.inl (a1)), some (.inl (a2)), some (.inl (a3)), some (.inr (.inr (.inl (some (5))))), none, none], [.inr (.inr (.inl (some (109))))], 0, 0, ix_mem 276 (ix_u2 (ix_u2 I 107 (I 106 0).toNatClampNeg (a0)) 108 (I 106 0).toNatClampNeg (a1)) J T)) rfl ⟨rfl, rfl, rfl, rfl, rfl, rfl, p3, rfl, rfl⟩ ?_
  obtain ⟨p5, h6⟩ := h4
  refine ix_go 7 (x' := (35, [some (.inr (.inr (.inl (some (106))))), some (.inl (a0)), some (.inl (a1)), some (.inl (a2)), some (.inl (a3)), some (.inr (.inr (.inl (some (5))))), none, none], [.inr (.inr (.inl (some (106)))), .inr (.inr (.inl (some (110))))], 0, 0, ix_mem 276 (ix_u2 (ix_u2 (ix_u2 I 107 (I 106 0).toNatClampNeg (a0)) 108 (I 106 0).toNatClampNeg (a1)) 109 (I 106 0).toNatClampNeg (a2)) J T)) rfl ⟨rfl, rfl, rfl, rfl, p5, rfl, rfl⟩ ?_
  obtain ⟨p7, h8⟩ := h6
  refine ix_go 7 (x' := (47, [some (.inr (.inr (.inl (some (106))))), some (.inl (a0)), some (.inl (a1)), some (.inl (a2)), some (.inl (a3)), some (.inr (.inr (.inl (some (5))))), some (.inl ((0 : Int32))), some (.inl ((0 : Int32)))], [], 0, 0, ix_mem 276 (ix_u2 (ix_u2 (ix_u2 (ix_u2 I 107 (I 106 0).toNatClampNeg (a0)) 108 (I 106 0).toNatClampNeg (a1)) 109 (I 106 0).toNatClampNeg (a2)) 110 (I 106 0).toNatClampNeg (a3)) J T)) rfl ⟨rfl, rfl, rfl, rfl, p7⟩ ?_
  refine ix_subW ([some (.inr (.inr (.inl (some (106))))), none, none, none, none, some (.inr (.inr (.inl (some (5))))), some (.inl ((0 : Int32))), some (.inl ((0 : Int32)))]) (ix_subS (ix_subN (ix_subN (ix_subN (ix_subN (ix_subS (ix_subS (ix_subS (ix_sub0))))))))) ?_
  exact tl_X4_add_r5_47_c5 h8 hQ
def wj_X11_flow_j88 (x1 : Int32) (x2 : Int32) (x3 : Int32) (x4 : Int32) (x5 : Int32) (x6 : Int32) (I : Nat → Nat → Int32) (J : Nat → Nat → Int64) (T : Option Nat) (P : Int32 → (Nat → Nat → Int32) → (Nat → Nat → Int64) → Option Nat → Prop) : Prop := ((x6 = 0 → ix_inb (x5) 4 = true ∧ ((x5 = 0 → wp_X4_add_r2 (x1) (x2) (x3) (x4) (ix_u2 I 0 0 ((0 : Int32))) J T (fun v19 I19 J19 T19 => P (v19) I19 J19 T19)) ∧ (x5 = 1 → wp_X4_add_r3 (x1) (x2) (x3) (x4) (ix_u2 I 0 0 ((0 : Int32))) J T (fun v20 I20 J20 T20 => P (v20) I20 J20 T20)) ∧ (x5 = 2 → wp_X4_add_r4 (x1) (x2) (x3) (x4) (ix_u2 I 0 0 ((0 : Int32))) J T (fun v21 I21 J21 T21 => P (v21) I21 J21 T21)) ∧ (x5 = 3 → wp_X4_add_r5 (x1) (x2) (x3) (x4) (ix_u2 I 0 0 ((0 : Int32))) J T (fun v22 I22 J22 T22 => P (v22) I22 J22 T22)))) ∧ (¬ (x6 = 0) → wp_X11_refuse (x6) I J T (fun v23 I23 J23 T23 => P (v23) I23 J23 T23)))
set_option maxRecDepth 20000 in
theorem tj_X11_flow_j88 {d : Nat} {x1 : Int32} {x2 : Int32} {x3 : Int32} {x4 : Int32} {x5 : Int32} {x6 : Int32} {I : Nat → Nat → Int32} {J : Nat → Nat → Int64} {T : Option Nat} {P : Int32 → (Nat → Nat → Int32) → (Nat → Nat → Int64) → Option Nat → Prop} {Q : ix_Q} (h : wj_X11_flow_j88 x1 x2 x3 x4 x5 x6 I J T P) (hQ : ∀ v I J T, P v I J T → Q (some (.inl v)) (ix_mem 276 I J T)) : ix_W (ix_C (d + 1)) (11, ix_lk ix_l199, (some .int), 0, 0, Nat.blt 0 0, none) Q (88, [some (.inr (.inr (.inl (some (0))))), some (.inl (x1)), some (.inl (x2)), some (.inl (x3)), some (.inl (x4)), some (.inl (x5)), some (.inl (x6))], [], 0, 0, ix_mem 276 I J T) := by
  unfold wj_X11_flow_j88 at h
  refine ix_go 2 (x' := (if x6 = 0 then 100 else 93, [some (.inr (.inr (.inl (some (0))))), some (.inl (x1)), some (.inl (x2)), some (.inl (x3)), some (.inl (x4)), some (.inl (x5)), some (.inl (x6))], [], 0, 0, ix_mem 276 I J T)) rfl trivial ?_
  refine ix_br (fun c14 => ?_) (fun c14 => ?_)
  · have h15 := h.1 c14
    refine ix_go 7 (x' := (111, [some (.inr (.inr (.inl (some (0))))), some (.inl (x1)), some (.inl (x2)), some (.inl (x3)), some (.inl (x4)), some (.inl (x5)), some (.inl (x6))], [.inl (x2), .inl (x1), .inr (.inr (.inl (some (106))))], 0, 0, ix_mem 276 (ix_u2 I 0 0 ((0 : Int32))) J T)) rfl ⟨rfl, rfl, rfl, rfl⟩ ?_
    obtain ⟨p16, h17⟩ := h15
    refine ix_go 6 (x' := (121, [some (.inr (.inr (.inl (some (0))))), some (.inl (x1)), some (.inl (x2)), some (.inl (x3)), some (.inl (x4)), some (.inl (x5)), some (.inl (x6))], [.inr (.inr (.inl (some (ix_row 1 (x5))))), .inl (x4), .inl (x3), .inl (x2), .inl (x1), .inr (.inr (.inl (some (106))))], 0, 0, ix_mem 276 (ix_u2 I 0 0 ((0 : Int32))) J T)) rfl ⟨rfl, rfl, rfl, rfl, rfl, p16, (rw_1 p16).1⟩ ?_
    rcases ix_four p16 with e | e | e | e
    · have h18 := h17.1 e
      rw [show ix_row 1 (x5) = 2 from by unfold ix_row; rw [e]; rfl]
      refine ix_sp rfl ⟨rfl, ⟨ix_lt rfl, ix_eq rfl, ix_lt rfl⟩, ix_le rfl, Nat.le_refl _, Nat.le_refl _, tp_X4_add_r2 h18 (fun v19 I19 J19 T19 h19 => ?_)⟩
      change ix_W _ _ _ (124, [some (.inr (.inr (.inl (some (0))))), some (.inl (x1)), some (.inl (x2)), some (.inl (x3)), some (.inl (x4)), some (.inl (x5)), some (.inl (x6))], [.inl (v19)], 0, 0, ix_mem 276 I19 J19 T19)
      exact ix_sp rfl ⟨Nat.le_refl _, Nat.le_refl _, trivial, hQ _ _ _ _ h19⟩
    · have h18 := h17.2.1 e
      rw [show ix_row 1 (x5) = 3 from by unfold ix_row; rw [e]; rfl]
      refine ix_sp rfl ⟨rfl, ⟨ix_lt rfl, ix_eq rfl, ix_lt rfl⟩, ix_le rfl, Nat.le_refl _, Nat.le_refl _, tp_X4_add_r3 h18 (fun v20 I20 J20 T20 h20 => ?_)⟩
      change ix_W _ _ _ (124, [some (.inr (.inr (.inl (some (0))))), some (.inl (x1)), some (.inl (x2)), some (.inl (x3)), some (.inl (x4)), some (.inl (x5)), some (.inl (x6))], [.inl (v20)], 0, 0, ix_mem 276 I20 J20 T20)
      exact ix_sp rfl ⟨Nat.le_refl _, Nat.le_refl _, trivial, hQ _ _ _ _ h20⟩
    · have h18 := h17.2.2.1 e
      rw [show ix_row 1 (x5) = 4 from by unfold ix_row; rw [e]; rfl]
      refine ix_sp rfl ⟨rfl, ⟨ix_lt rfl, ix_eq rfl, ix_lt rfl⟩, ix_le rfl, Nat.le_refl _, Nat.le_refl _, tp_X4_add_r4 h18 (fun v21 I21 J21 T21 h21 => ?_)⟩
      change ix_W _ _ _ (124, [some (.inr (.inr (.inl (some (0))))), some (.inl (x1)), some (.inl (x2)), some (.inl (x3)), some (.inl (x4)), some (.inl (x5)), some (.inl (x6))], [.inl (v21)], 0, 0, ix_mem 276 I21 J21 T21)
      exact ix_sp rfl ⟨Nat.le_refl _, Nat.le_refl _, trivial, hQ _ _ _ _ h21⟩
    · have h18 := h17.2.2.2 e
      rw [show ix_row 1 (x5) = 5 from by unfold ix_row; rw [e]; rfl]
      refine ix_sp rfl ⟨rfl, ⟨ix_lt rfl, ix_eq rfl, ix_lt rfl⟩, ix_le rfl, Nat.le_refl _, Nat.le_refl _, tp_X4_add_r5 h18 (fun v22 I22 J22 T22 h22 => ?_)⟩
      change ix_W _ _ _ (124, [some (.inr (.inr (.inl (some (0))))), some (.inl (x1)), some (.inl (x2)), some (.inl (x3)), some (.inl (x4)), some (.inl (x5)), some (.inl (x6))], [.inl (v22)], 0, 0, ix_mem 276 I22 J22 T22)
      exact ix_sp rfl ⟨Nat.le_refl _, Nat.le_refl _, trivial, hQ _ _ _ _ h22⟩
  · have h15 := h.2 c14
    refine ix_go 2 (x' := (96, [some (.inr (.inr (.inl (some (0))))), some (.inl (x1)), some (.inl (x2)), some (.inl (x3)), some (.inl (x4)), some (.inl (x5)), some (.inl (x6))], [.inl (x6), .inr (.inr (.inl (some (0))))], 0, 0, ix_mem 276 I J T)) rfl trivial ?_
    refine ix_sp rfl ⟨rfl, ⟨ix_lt rfl, ix_eq rfl, ix_lt rfl⟩, ix_le rfl, Nat.le_refl _, Nat.le_refl _, tp_X11_refuse h15 (fun v23 I23 J23 T23 h23 => ?_)⟩
    change ix_W _ _ _ (99, [some (.inr (.inr (.inl (some (0))))), some (.inl (x1)), some (.inl (x2)), some (.inl (x3)), some (.inl (x4)), some (.inl (x5)), some (.inl (x6))], [.inl (v23)], 0, 0, ix_mem 276 I23 J23 T23)
    exact ix_sp rfl ⟨Nat.le_refl _, Nat.le_refl _, trivial, hQ _ _ _ _ h23⟩
def wj_X11_flow_j70 (x1 : Int32) (x2 : Int32) (x3 : Int32) (x4 : Int32) (x5 : Int32) (x6 : Int32) (I : Nat → Nat → Int32) (J : Nat → Nat → Int64) (T : Option Nat) (P : Int32 → (Nat → Nat → Int32) → (Nat → Nat → Int64) → Option Nat → Prop) : Prop := ((x6 = 0 → wp_X4_isFull I J T (fun v11 I11 J11 T11 => ((v11 = 0 → wj_X11_flow_j88 (x1) (x2) (x3) (x4) (x5) (x6) I11 J11 T11 P) ∧ (¬ (v11 = 0) → wj_X11_flow_j88 (x1) (x2) (x3) (x4) (x5) ((4 : Int32)) I11 J11 T11 P)))) ∧ (¬ (x6 = 0) → wj_X11_flow_j88 (x1) (x2) (x3) (x4) (x5) (x6) I J T P))
set_option maxRecDepth 20000 in
theorem tj_X11_flow_j70 {d : Nat} {x1 : Int32} {x2 : Int32} {x3 : Int32} {x4 : Int32} {x5 : Int32} {x6 : Int32} {I : Nat → Nat → Int32} {J : Nat → Nat → Int64} {T : Option Nat} {P : Int32 → (Nat → Nat → Int32) → (Nat → Nat → Int64) → Option Nat → Prop} {Q : ix_Q} (h : wj_X11_flow_j70 x1 x2 x3 x4 x5 x6 I J T P) (hQ : ∀ v I J T, P v I J T → Q (some (.inl v)) (ix_mem 276 I J T)) : ix_W (ix_C (d + 1)) (11, ix_lk ix_l199, (some .int), 0, 0, Nat.blt 0 0, none) Q (70, [some (.inr (.inr (.inl (some (0))))), some (.inl (x1)), some (.inl (x2)), some (.inl (x3)), some (.inl (x4)), some (.inl (x5)), some (.inl (x6))], [], 0, 0, ix_mem 276 I J T) := by
  unfold wj_X11_flow_j70 at h
  refine ix_go 2 (x' := (if x6 = 0 then 75 else 88, [some (.inr (.inr (.inl (some (0))))), some (.inl (x1)), some (.inl (x2)), some (.inl (x3)), some (.inl (x4)), some (.inl (x5)), some (.inl (x6))], [], 0, 0, ix_mem 276 I J T)) rfl trivial ?_
  refine ix_br (fun c9 => ?_) (fun c9 => ?_)
  · have h10 := h.1 c9
    refine ix_go 2 (x' := (79, [some (.inr (.inr (.inl (some (0))))), some (.inl (x1)), some (.inl (x2)), some (.inl (x3)), some (.inl (x4)), some (.inl (x5)), some (.inl (x6))], [.inr (.inr (.inl (some (106))))], 0, 0, ix_mem 276 I J T)) rfl ⟨rfl, rfl⟩ ?_
    refine ix_sp rfl ⟨rfl, ⟨ix_lt rfl, ix_eq rfl, ix_lt rfl⟩, ix_le rfl, Nat.le_refl _, Nat.le_refl _, tp_X4_isFull h10 (fun v11 I11 J11 T11 h11 => ?_)⟩
    change ix_W _ _ _ (82, [some (.inr (.inr (.inl (some (0))))), some (.inl (x1)), some (.inl (x2)), some (.inl (x3)), some (.inl (x4)), some (.inl (x5)), some (.inl (x6))], [.inl (v11)], 0, 0, ix_mem 276 I11 J11 T11)
    refine ix_go 1 (x' := (if v11 = 0 then 88 else 85, [some (.inr (.inr (.inl (some (0))))), some (.inl (x1)), some (.inl (x2)), some (.inl (x3)), some (.inl (x4)), some (.inl (x5)), some (.inl (x6))], [], 0, 0, ix_mem 276 I11 J11 T11)) rfl trivial ?_
    refine ix_br (fun c12 => ?_) (fun c12 => ?_)
    · have h13 := h11.1 c12
      refine ix_subW ([some (.inr (.inr (.inl (some (0))))), some (.inl (x1)), some (.inl (x2)), some (.inl (x3)), some (.inl (x4)), some (.inl (x5)), some (.inl (x6))]) (ix_subS (ix_subS (ix_subS (ix_subS (ix_subS (ix_subS (ix_subS (ix_sub0)))))))) ?_
      exact tj_X11_flow_j88 h13 hQ
    · have h13 := h11.2 c12
      refine ix_go 2 (x' := (88, [some (.inr (.inr (.inl (some (0))))), some (.inl (x1)), some (.inl (x2)), some (.inl (x3)), some (.inl (x4)), some (.inl (x5)), some (.inl ((4 : Int32)))], [], 0, 0, ix_mem 276 I11 J11 T11)) rfl trivial ?_
      refine ix_subW ([some (.inr (.inr (.inl (some (0))))), some (.inl (x1)), some (.inl (x2)), some (.inl (x3)), some (.inl (x4)), some (.inl (x5)), some (.inl ((4 : Int32)))]) (ix_subS (ix_subS (ix_subS (ix_subS (ix_subS (ix_subS (ix_subS (ix_sub0)))))))) ?_
      exact tj_X11_flow_j88 h13 hQ
  · have h10 := h.2 c9
    refine ix_subW ([some (.inr (.inr (.inl (some (0))))), some (.inl (x1)), some (.inl (x2)), some (.inl (x3)), some (.inl (x4)), some (.inl (x5)), some (.inl (x6))]) (ix_subS (ix_subS (ix_subS (ix_subS (ix_subS (ix_subS (ix_subS (ix_sub0)))))))) ?_
    exact tj_X11_flow_j88 h10 hQ
def wj_X11_flow_j48 (x1 : Int32) (x2 : Int32) (x3 : Int32) (x4 : Int32) (x5 : Int32) (x6 : Int32) (I : Nat → Nat → Int32) (J : Nat → Nat → Int64) (T : Option Nat) (P : Int32 → (Nat → Nat → Int32) → (Nat → Nat → Int64) → Option Nat → Prop) : Prop := ((x6 = 0 → wp_X11_hasOnly (x5) ((52 : Int32)) ((10000 : Int32)) I J T (fun v6 I6 J6 T6 => ((v6 = 0 → wj_X11_flow_j70 (x1) (x2) (x3) (x4) (x5) ((1 : Int32)) I6 J6 T6 P) ∧ (¬ (v6 = 0) → wj_X11_flow_j70 (x1) (x2) (x3) (x4) (x5) (x6) I6 J6 T6 P)))) ∧ (¬ (x6 = 0) → wj_X11_flow_j70 (x1) (x2) (x3) (x4) (x5) (x6) I J T P))
set_option maxRecDepth 20000 in
theorem tj_X11_flow_j48 {d : Nat} {x1 : Int32} {x2 : Int32} {x3 : Int32} {x4 : Int32} {x5 : Int32} {x6 : Int32} {I : Nat → Nat → Int32} {J : Nat → Nat → Int64} {T : Option Nat} {P : Int32 → (Nat → Nat → Int32) → (Nat → Nat → Int64) → Option Nat → Prop} {Q : ix_Q} (h : wj_X11_flow_j48 x1 x2 x3 x4 x5 x6 I J T P) (hQ : ∀ v I J T, P v I J T → Q (some (.inl v)) (ix_mem 276 I J T)) : ix_W (ix_C (d + 2)) (11, ix_lk ix_l199, (some .int), 0, 0, Nat.blt 0 0, none) Q (48, [some (.inr (.inr (.inl (some (0))))), some (.inl (x1)), some (.inl (x2)), some (.inl (x3)), some (.inl (x4)), some (.inl (x5)), some (.inl (x6))], [], 0, 0, ix_mem 276 I J T) := by
  unfold wj_X11_flow_j48 at h
  refine ix_go 2 (x' := (if x6 = 0 then 53 else 70, [some (.inr (.inr (.inl (some (0))))), some (.inl (x1)), some (.inl (x2)), some (.inl (x3)), some (.inl (x4)), some (.inl (x5)), some (.inl (x6))], [], 0, 0, ix_mem 276 I J T)) rfl trivial ?_
  refine ix_br (fun c4 => ?_) (fun c4 => ?_)
  · have h5 := h.1 c4
    refine ix_go 4 (x' := (61, [some (.inr (.inr (.inl (some (0))))), some (.inl (x1)), some (.inl (x2)), some (.inl (x3)), some (.inl (x4)), some (.inl (x5)), some (.inl (x6))], [.inl ((10000 : Int32)), .inl ((52 : Int32)), .inl (x5), .inr (.inr (.inl (some (0))))], 0, 0, ix_mem 276 I J T)) rfl trivial ?_
    refine ix_sp rfl ⟨rfl, ⟨ix_lt rfl, ix_eq rfl, ix_lt rfl⟩, ix_le rfl, Nat.le_refl _, Nat.le_refl _, tp_X11_hasOnly h5 (fun v6 I6 J6 T6 h6 => ?_)⟩
    change ix_W _ _ _ (64, [some (.inr (.inr (.inl (some (0))))), some (.inl (x1)), some (.inl (x2)), some (.inl (x3)), some (.inl (x4)), some (.inl (x5)), some (.inl (x6))], [.inl (v6)], 0, 0, ix_mem 276 I6 J6 T6)
    refine ix_go 1 (x' := (if v6 = 0 then 67 else 70, [some (.inr (.inr (.inl (some (0))))), some (.inl (x1)), some (.inl (x2)), some (.inl (x3)), some (.inl (x4)), some (.inl (x5)), some (.inl (x6))], [], 0, 0, ix_mem 276 I6 J6 T6)) rfl trivial ?_
    refine ix_br (fun c7 => ?_) (fun c7 => ?_)
    · have h8 := h6.1 c7
      refine ix_go 2 (x' := (70, [some (.inr (.inr (.inl (some (0))))), some (.inl (x1)), some (.inl (x2)), some (.inl (x3)), some (.inl (x4)), some (.inl (x5)), some (.inl ((1 : Int32)))], [], 0, 0, ix_mem 276 I6 J6 T6)) rfl trivial ?_
      refine ix_subW ([some (.inr (.inr (.inl (some (0))))), some (.inl (x1)), some (.inl (x2)), some (.inl (x3)), some (.inl (x4)), some (.inl (x5)), some (.inl ((1 : Int32)))]) (ix_subS (ix_subS (ix_subS (ix_subS (ix_subS (ix_subS (ix_subS (ix_sub0)))))))) ?_
      exact tj_X11_flow_j70 h8 hQ
    · have h8 := h6.2 c7
      refine ix_subW ([some (.inr (.inr (.inl (some (0))))), some (.inl (x1)), some (.inl (x2)), some (.inl (x3)), some (.inl (x4)), some (.inl (x5)), some (.inl (x6))]) (ix_subS (ix_subS (ix_subS (ix_subS (ix_subS (ix_subS (ix_subS (ix_sub0)))))))) ?_
      exact tj_X11_flow_j70 h8 hQ
  · have h5 := h.2 c4
    refine ix_subW ([some (.inr (.inr (.inl (some (0))))), some (.inl (x1)), some (.inl (x2)), some (.inl (x3)), some (.inl (x4)), some (.inl (x5)), some (.inl (x6))]) (ix_subS (ix_subS (ix_subS (ix_subS (ix_subS (ix_subS (ix_subS (ix_sub0)))))))) ?_
    exact tj_X11_flow_j70 h5 hQ
def wp_X11_flow (a0 : Int32) (a1 : Int32) (a2 : Int32) (a3 : Int32) (a4 : Int32) (I : Nat → Nat → Int32) (J : Nat → Nat → Int64) (T : Option Nat) (P : Int32 → (Nat → Nat → Int32) → (Nat → Nat → Int64) → Option Nat → Prop) : Prop := wp_X11_isPair (a0) (a1) I J T (fun v1 I1 J1 T1 => ((v1 = 0 → wj_X11_flow_j48 (a0) (a1) (a2) (a3) (a4) ((1 : Int32)) I1 J1 T1 P) ∧ (¬ (v1 = 0) → wp_X11_outside ((a2).toInt64) ((0 : Int64)) ((3 : Int64)) I1 J1 T1 (fun v24 I24 J24 T24 => ((v24 = 0 → wp_X11_outside ((a3).toInt64) ((1 : Int64)) ((100 : Int64)) I24 J24 T24 (fun v27 I27 J27 T27 => ((v27 = 0 → wp_X11_trayStatus (a4) ((0 : Int32)) ((52 : Int32)) I27 J27 T27 (fun v30 I30 J30 T30 => wj_X11_flow_j48 (a0) (a1) (a2) (a3) (a4) (v30) I30 J30 T30 P)) ∧ (¬ (v27 = 0) → wj_X11_flow_j48 (a0) (a1) (a2) (a3) (a4) ((1 : Int32)) I27 J27 T27 P)))) ∧ (¬ (v24 = 0) → wj_X11_flow_j48 (a0) (a1) (a2) (a3) (a4) ((1 : Int32)) I24 J24 T24 P))))))
set_option maxRecDepth 20000 in
theorem tp_X11_flow {d : Nat} {a0 : Int32} {a1 : Int32} {a2 : Int32} {a3 : Int32} {a4 : Int32} {I : Nat → Nat → Int32} {J : Nat → Nat → Int64} {T : Option Nat} {P : Int32 → (Nat → Nat → Int32) → (Nat → Nat → Int64) → Option Nat → Prop} {Q : ix_Q} (h : wp_X11_flow a0 a1 a2 a3 a4 I J T P) (hQ : ∀ v I J T, P v I J T → Q (some (.inl v)) (ix_mem 276 I J T)) : ix_C (d + 4) 199 [.inr (.inr (.inl (some (0)))), .inl (a0), .inl (a1), .inl (a2), .inl (a3), .inl (a4)] (ix_mem 276 I J T) Q := by
  unfold wp_X11_flow at h
  refine ix_enter (ls := [some (.inr (.inr (.inl (some (0))))), some (.inl (a0)), some (.inl (a1)), some (.inl (a2)), some (.inl (a3)), some (.inl (a4)), none]) rfl rfl rfl (Nat.le_of_ble_eq_true rfl) ?_
  refine ix_go 5 (x' := (6, [some (.inr (.inr (.inl (some (0))))), some (.inl (a0)), some (.inl (a1)), some (.inl (a2)), some (.inl (a3)), some (.inl (a4)), some (.inl ((1 : Int32)))], [.inl (a1), .inl (a0), .inr (.inr (.inl (some (0))))], 0, 0, ix_mem 276 I J T)) rfl trivial ?_
  refine ix_sp rfl ⟨rfl, ⟨ix_lt rfl, ix_eq rfl, ix_lt rfl⟩, ix_le rfl, Nat.le_refl _, Nat.le_refl _, tp_X11_isPair h (fun v1 I1 J1 T1 h1 => ?_)⟩
  change ix_W _ _ _ (9, [some (.inr (.inr (.inl (some (0))))), some (.inl (a0)), some (.inl (a1)), some (.inl (a2)), some (.inl (a3)), some (.inl (a4)), some (.inl ((1 : Int32)))], [.inl (v1)], 0, 0, ix_mem 276 I1 J1 T1)
  refine ix_go 1 (x' := (if v1 = 0 then 48 else 12, [some (.inr (.inr (.inl (some (0))))), some (.inl (a0)), some (.inl (a1)), some (.inl (a2)), some (.inl (a3)), some (.inl (a4)), some (.inl ((1 : Int32)))], [], 0, 0, ix_mem 276 I1 J1 T1)) rfl trivial ?_
  refine ix_br (fun c2 => ?_) (fun c2 => ?_)
  · have h3 := h1.1 c2
    refine ix_subW ([some (.inr (.inr (.inl (some (0))))), some (.inl (a0)), some (.inl (a1)), some (.inl (a2)), some (.inl (a3)), some (.inl (a4)), some (.inl ((1 : Int32)))]) (ix_subS (ix_subS (ix_subS (ix_subS (ix_subS (ix_subS (ix_subS (ix_sub0)))))))) ?_
    exact tj_X11_flow_j48 h3 hQ
  · have h3 := h1.2 c2
    refine ix_go 4 (x' := (18, [some (.inr (.inr (.inl (some (0))))), some (.inl (a0)), some (.inl (a1)), some (.inl (a2)), some (.inl (a3)), some (.inl (a4)), some (.inl ((1 : Int32)))], [.inr (.inl ((3 : Int64))), .inr (.inl ((0 : Int64))), .inr (.inl ((a2).toInt64))], 0, 0, ix_mem 276 I1 J1 T1)) rfl trivial ?_
    refine ix_sp rfl ⟨rfl, trivial, ix_le rfl, Nat.le_refl _, Nat.le_refl _, tp_X11_outside h3 (fun v24 I24 J24 T24 h24 => ?_)⟩
    change ix_W _ _ _ (21, [some (.inr (.inr (.inl (some (0))))), some (.inl (a0)), some (.inl (a1)), some (.inl (a2)), some (.inl (a3)), some (.inl (a4)), some (.inl ((1 : Int32)))], [.inl (v24)], 0, 0, ix_mem 276 I24 J24 T24)
    refine ix_go 1 (x' := (if v24 = 0 then 24 else 48, [some (.inr (.inr (.inl (some (0))))), some (.inl (a0)), some (.inl (a1)), some (.inl (a2)), some (.inl (a3)), some (.inl (a4)), some (.inl ((1 : Int32)))], [], 0, 0, ix_mem 276 I24 J24 T24)) rfl trivial ?_
    refine ix_br (fun c25 => ?_) (fun c25 => ?_)
    · have h26 := h24.1 c25
      refine ix_go 4 (x' := (31, [some (.inr (.inr (.inl (some (0))))), some (.inl (a0)), some (.inl (a1)), some (.inl (a2)), some (.inl (a3)), some (.inl (a4)), some (.inl ((1 : Int32)))], [.inr (.inl ((100 : Int64))), .inr (.inl ((1 : Int64))), .inr (.inl ((a3).toInt64))], 0, 0, ix_mem 276 I24 J24 T24)) rfl trivial ?_
      refine ix_sp rfl ⟨rfl, trivial, ix_le rfl, Nat.le_refl _, Nat.le_refl _, tp_X11_outside h26 (fun v27 I27 J27 T27 h27 => ?_)⟩
      change ix_W _ _ _ (34, [some (.inr (.inr (.inl (some (0))))), some (.inl (a0)), some (.inl (a1)), some (.inl (a2)), some (.inl (a3)), some (.inl (a4)), some (.inl ((1 : Int32)))], [.inl (v27)], 0, 0, ix_mem 276 I27 J27 T27)
      refine ix_go 1 (x' := (if v27 = 0 then 37 else 48, [some (.inr (.inr (.inl (some (0))))), some (.inl (a0)), some (.inl (a1)), some (.inl (a2)), some (.inl (a3)), some (.inl (a4)), some (.inl ((1 : Int32)))], [], 0, 0, ix_mem 276 I27 J27 T27)) rfl trivial ?_
      refine ix_br (fun c28 => ?_) (fun c28 => ?_)
      · have h29 := h27.1 c28
        refine ix_go 4 (x' := (43, [some (.inr (.inr (.inl (some (0))))), some (.inl (a0)), some (.inl (a1)), some (.inl (a2)), some (.inl (a3)), some (.inl (a4)), some (.inl ((1 : Int32)))], [.inl ((52 : Int32)), .inl ((0 : Int32)), .inl (a4), .inr (.inr (.inl (some (0))))], 0, 0, ix_mem 276 I27 J27 T27)) rfl trivial ?_
        refine ix_sp rfl ⟨rfl, ⟨ix_lt rfl, ix_eq rfl, ix_lt rfl⟩, ix_le rfl, Nat.le_refl _, Nat.le_refl _, tp_X11_trayStatus h29 (fun v30 I30 J30 T30 h30 => ?_)⟩
        change ix_W _ _ _ (46, [some (.inr (.inr (.inl (some (0))))), some (.inl (a0)), some (.inl (a1)), some (.inl (a2)), some (.inl (a3)), some (.inl (a4)), some (.inl ((1 : Int32)))], [.inl (v30)], 0, 0, ix_mem 276 I30 J30 T30)
        refine ix_go 1 (x' := (48, [some (.inr (.inr (.inl (some (0))))), some (.inl (a0)), some (.inl (a1)), some (.inl (a2)), some (.inl (a3)), some (.inl (a4)), some (.inl (v30))], [], 0, 0, ix_mem 276 I30 J30 T30)) rfl trivial ?_
        refine ix_subW ([some (.inr (.inr (.inl (some (0))))), some (.inl (a0)), some (.inl (a1)), some (.inl (a2)), some (.inl (a3)), some (.inl (a4)), some (.inl (v30))]) (ix_subS (ix_subS (ix_subS (ix_subS (ix_subS (ix_subS (ix_subS (ix_sub0)))))))) ?_
        exact tj_X11_flow_j48 h30 hQ
      · have h29 := h27.2 c28
        refine ix_subW ([some (.inr (.inr (.inl (some (0))))), some (.inl (a0)), some (.inl (a1)), some (.inl (a2)), some (.inl (a3)), some (.inl (a4)), some (.inl ((1 : Int32)))]) (ix_subS (ix_subS (ix_subS (ix_subS (ix_subS (ix_subS (ix_subS (ix_sub0)))))))) ?_
        exact tj_X11_flow_j48 h29 hQ
    · have h26 := h24.2 c25
      refine ix_subW ([some (.inr (.inr (.inl (some (0))))), some (.inl (a0)), some (.inl (a1)), some (.inl (a2)), some (.inl (a3)), some (.inl (a4)), some (.inl ((1 : Int32)))]) (ix_subS (ix_subS (ix_subS (ix_subS (ix_subS (ix_subS (ix_subS (ix_sub0)))))))) ?_
      exact tj_X11_flow_j48 h26 hQ
def wp_X11_isTrue (a0 : Int32) (I : Nat → Nat → Int32) (J : Nat → Nat → Int64) (T : Option Nat) (P : Int32 → (Nat → Nat → Int32) → (Nat → Nat → Int64) → Option Nat → Prop) : Prop := wp_X4_has (a0) I J T (fun v1 I1 J1 T1 => ((v1 = 0 → wp_X11_refuse ((1 : Int32)) I1 J1 T1 (fun v4 I4 J4 T4 => P (v4) I4 J4 T4)) ∧ (¬ (v1 = 0) → wp_X4_trueWeight (a0) (ix_u2 I1 0 0 ((0 : Int32))) J1 T1 (fun v5 I5 J5 T5 => P (v5) I5 J5 T5))))
set_option maxRecDepth 20000 in
theorem tp_X11_isTrue {d : Nat} {a0 : Int32} {I : Nat → Nat → Int32} {J : Nat → Nat → Int64} {T : Option Nat} {P : Int32 → (Nat → Nat → Int32) → (Nat → Nat → Int64) → Option Nat → Prop} {Q : ix_Q} (h : wp_X11_isTrue a0 I J T P) (hQ : ∀ v I J T, P v I J T → Q (some (.inl v)) (ix_mem 276 I J T)) : ix_C (d + 2) 200 [.inr (.inr (.inl (some (0)))), .inl (a0)] (ix_mem 276 I J T) Q := by
  unfold wp_X11_isTrue at h
  refine ix_enter (ls := [some (.inr (.inr (.inl (some (0))))), some (.inl (a0))]) rfl rfl rfl (Nat.le_of_ble_eq_true rfl) ?_
  refine ix_go 3 (x' := (5, [some (.inr (.inr (.inl (some (0))))), some (.inl (a0))], [.inl (a0), .inr (.inr (.inl (some (106))))], 0, 0, ix_mem 276 I J T)) rfl ⟨rfl, rfl⟩ ?_
  refine ix_sp rfl ⟨rfl, ⟨ix_lt rfl, ix_eq rfl, ix_lt rfl⟩, ix_le rfl, Nat.le_refl _, Nat.le_refl _, tp_X4_has h (fun v1 I1 J1 T1 h1 => ?_)⟩
  change ix_W _ _ _ (8, [some (.inr (.inr (.inl (some (0))))), some (.inl (a0))], [.inl (v1)], 0, 0, ix_mem 276 I1 J1 T1)
  refine ix_go 1 (x' := (if v1 = 0 then 11 else 17, [some (.inr (.inr (.inl (some (0))))), some (.inl (a0))], [], 0, 0, ix_mem 276 I1 J1 T1)) rfl trivial ?_
  refine ix_br (fun c2 => ?_) (fun c2 => ?_)
  · have h3 := h1.1 c2
    refine ix_go 2 (x' := (13, [some (.inr (.inr (.inl (some (0))))), some (.inl (a0))], [.inl ((1 : Int32)), .inr (.inr (.inl (some (0))))], 0, 0, ix_mem 276 I1 J1 T1)) rfl trivial ?_
    refine ix_sp rfl ⟨rfl, ⟨ix_lt rfl, ix_eq rfl, ix_lt rfl⟩, ix_le rfl, Nat.le_refl _, Nat.le_refl _, tp_X11_refuse h3 (fun v4 I4 J4 T4 h4 => ?_)⟩
    change ix_W _ _ _ (16, [some (.inr (.inr (.inl (some (0))))), some (.inl (a0))], [.inl (v4)], 0, 0, ix_mem 276 I4 J4 T4)
    exact ix_sp rfl ⟨Nat.le_refl _, Nat.le_refl _, trivial, hQ _ _ _ _ h4⟩
  · have h3 := h1.2 c2
    refine ix_go 6 (x' := (27, [some (.inr (.inr (.inl (some (0))))), some (.inl (a0))], [.inl (a0), .inr (.inr (.inl (some (106))))], 0, 0, ix_mem 276 (ix_u2 I1 0 0 ((0 : Int32))) J1 T1)) rfl ⟨rfl, rfl, rfl, rfl⟩ ?_
    refine ix_sp rfl ⟨rfl, ⟨ix_lt rfl, ix_eq rfl, ix_lt rfl⟩, ix_le rfl, Nat.le_refl _, Nat.le_refl _, tp_X4_trueWeight h3 (fun v5 I5 J5 T5 h5 => ?_)⟩
    change ix_W _ _ _ (30, [some (.inr (.inr (.inl (some (0))))), some (.inl (a0))], [.inl (v5)], 0, 0, ix_mem 276 I5 J5 T5)
    exact ix_sp rfl ⟨Nat.le_refl _, Nat.le_refl _, trivial, hQ _ _ _ _ h5⟩
def wp_X11_draw (a0 : Int32) (a1 : Int32) (I : Nat → Nat → Int32) (J : Nat → Nat → Int64) (T : Option Nat) (P : Int32 → (Nat → Nat → Int32) → (Nat → Nat → Int64) → Option Nat → Prop) : Prop := wp_X11_outside ((a0).toInt64) ((1 : Int64)) ((52 : Int64)) I J T (fun v1 I1 J1 T1 => ((v1 = 0 → ((a1 < 0 → wp_X11_refuse ((1 : Int32)) I1 J1 T1 (fun v6 I6 J6 T6 => P (v6) I6 J6 T6)) ∧ (¬ (a1 < 0) → wp_X4_drawWeeks (a0) (a1) I1 J1 T1 (fun I7 J7 T7 => P (a0) (ix_u2 I7 0 0 ((0 : Int32))) J7 T7)))) ∧ (¬ (v1 = 0) → wp_X11_refuse ((1 : Int32)) I1 J1 T1 (fun v8 I8 J8 T8 => P (v8) I8 J8 T8))))
set_option maxRecDepth 20000 in
theorem tp_X11_draw {d : Nat} {a0 : Int32} {a1 : Int32} {I : Nat → Nat → Int32} {J : Nat → Nat → Int64} {T : Option Nat} {P : Int32 → (Nat → Nat → Int32) → (Nat → Nat → Int64) → Option Nat → Prop} {Q : ix_Q} (h : wp_X11_draw a0 a1 I J T P) (hQ : ∀ v I J T, P v I J T → Q (some (.inl v)) (ix_mem 276 I J T)) : ix_C (d + 2) 201 [.inr (.inr (.inl (some (0)))), .inl (a0), .inl (a1)] (ix_mem 276 I J T) Q := by
  unfold wp_X11_draw at h
  refine ix_enter (ls := [some (.inr (.inr (.inl (some (0))))), some (.inl (a0)), some (.inl (a1))]) rfl rfl rfl (Nat.le_of_ble_eq_true rfl) ?_
  refine ix_go 4 (x' := (6, [some (.inr (.inr (.inl (some (0))))), some (.inl (a0)), some (.inl (a1))], [.inr (.inl ((52 : Int64))), .inr (.inl ((1 : Int64))), .inr (.inl ((a0).toInt64))], 0, 0, ix_mem 276 I J T)) rfl trivial ?_
  refine ix_sp rfl ⟨rfl, trivial, ix_le rfl, Nat.le_refl _, Nat.le_refl _, tp_X11_outside h (fun v1 I1 J1 T1 h1 => ?_)⟩
  change ix_W _ _ _ (9, [some (.inr (.inr (.inl (some (0))))), some (.inl (a0)), some (.inl (a1))], [.inl (v1)], 0, 0, ix_mem 276 I1 J1 T1)
  refine ix_go 1 (x' := (if v1 = 0 then 12 else 16, [some (.inr (.inr (.inl (some (0))))), some (.inl (a0)), some (.inl (a1))], [], 0, 0, ix_mem 276 I1 J1 T1)) rfl trivial ?_
  refine ix_br (fun c2 => ?_) (fun c2 => ?_)
  · have h3 := h1.1 c2
    refine ix_go 2 (x' := (if a1 < 0 then 16 else 22, [some (.inr (.inr (.inl (some (0))))), some (.inl (a0)), some (.inl (a1))], [], 0, 0, ix_mem 276 I1 J1 T1)) rfl trivial ?_
    refine ix_br (fun c4 => ?_) (fun c4 => ?_)
    · have h5 := h3.1 c4
      refine ix_go 2 (x' := (18, [some (.inr (.inr (.inl (some (0))))), some (.inl (a0)), some (.inl (a1))], [.inl ((1 : Int32)), .inr (.inr (.inl (some (0))))], 0, 0, ix_mem 276 I1 J1 T1)) rfl trivial ?_
      refine ix_sp rfl ⟨rfl, ⟨ix_lt rfl, ix_eq rfl, ix_lt rfl⟩, ix_le rfl, Nat.le_refl _, Nat.le_refl _, tp_X11_refuse h5 (fun v6 I6 J6 T6 h6 => ?_)⟩
      change ix_W _ _ _ (21, [some (.inr (.inr (.inl (some (0))))), some (.inl (a0)), some (.inl (a1))], [.inl (v6)], 0, 0, ix_mem 276 I6 J6 T6)
      exact ix_sp rfl ⟨Nat.le_refl _, Nat.le_refl _, trivial, hQ _ _ _ _ h6⟩
    · have h5 := h3.2 c4
      refine ix_go 4 (x' := (28, [some (.inr (.inr (.inl (some (0))))), some (.inl (a0)), some (.inl (a1))], [.inl (a1), .inl (a0), .inr (.inr (.inl (some (106))))], 0, 0, ix_mem 276 I1 J1 T1)) rfl ⟨rfl, rfl⟩ ?_
      refine ix_sp rfl ⟨rfl, ⟨ix_lt rfl, ix_eq rfl, ix_lt rfl⟩, ix_le rfl, Nat.le_refl _, Nat.le_refl _, tp_X4_drawWeeks h5 (fun I7 J7 T7 h7 => ?_)⟩
      change ix_W _ _ _ (31, [some (.inr (.inr (.inl (some (0))))), some (.inl (a0)), some (.inl (a1))], [], 0, 0, ix_mem 276 I7 J7 T7)
      refine ix_go 4 (x' := (37, [some (.inr (.inr (.inl (some (0))))), some (.inl (a0)), some (.inl (a1))], [.inl (a0)], 0, 0, ix_mem 276 (ix_u2 I7 0 0 ((0 : Int32))) J7 T7)) rfl ⟨rfl, rfl⟩ ?_
      exact ix_sp rfl ⟨Nat.le_refl _, Nat.le_refl _, trivial, hQ _ _ _ _ h7⟩
  · have h3 := h1.2 c2
    refine ix_go 2 (x' := (18, [some (.inr (.inr (.inl (some (0))))), some (.inl (a0)), some (.inl (a1))], [.inl ((1 : Int32)), .inr (.inr (.inl (some (0))))], 0, 0, ix_mem 276 I1 J1 T1)) rfl trivial ?_
    refine ix_sp rfl ⟨rfl, ⟨ix_lt rfl, ix_eq rfl, ix_lt rfl⟩, ix_le rfl, Nat.le_refl _, Nat.le_refl _, tp_X11_refuse h3 (fun v8 I8 J8 T8 h8 => ?_)⟩
    change ix_W _ _ _ (21, [some (.inr (.inr (.inl (some (0))))), some (.inl (a0)), some (.inl (a1))], [.inl (v8)], 0, 0, ix_mem 276 I8 J8 T8)
    exact ix_sp rfl ⟨Nat.le_refl _, Nat.le_refl _, trivial, hQ _ _ _ _ h8⟩
def wp_X11_drawn (a0 : Int32) (I : Nat → Nat → Int32) (J : Nat → Nat → Int64) (T : Option Nat) (P : Int32 → (Nat → Nat → Int32) → (Nat → Nat → Int64) → Option Nat → Prop) : Prop := ((a0 < 0 → wp_X11_refuse ((1 : Int32)) I J T (fun v3 I3 J3 T3 => P (v3) I3 J3 T3)) ∧ (¬ (a0 < 0) → wp_X4_drawnWeek (a0) I J T (fun v4 I4 J4 T4 => wp_X11_answerOrNoneSuch (v4) I4 J4 T4 (fun v5 I5 J5 T5 => P (v5) I5 J5 T5))))
set_option maxRecDepth 20000 in
theorem tp_X11_drawn {d : Nat} {a0 : Int32} {I : Nat → Nat → Int32} {J : Nat → Nat → Int64} {T : Option Nat} {P : Int32 → (Nat → Nat → Int32) → (Nat → Nat → Int64) → Option Nat → Prop} {Q : ix_Q} (h : wp_X11_drawn a0 I J T P) (hQ : ∀ v I J T, P v I J T → Q (some (.inl v)) (ix_mem 276 I J T)) : ix_C (d + 2) 202 [.inr (.inr (.inl (some (0)))), .inl (a0)] (ix_mem 276 I J T) Q := by
  unfold wp_X11_drawn at h
  refine ix_enter (ls := [some (.inr (.inr (.inl (some (0))))), some (.inl (a0))]) rfl rfl rfl (Nat.le_of_ble_eq_true rfl) ?_
  refine ix_go 2 (x' := (if a0 < 0 then 4 else 10, [some (.inr (.inr (.inl (some (0))))), some (.inl (a0))], [], 0, 0, ix_mem 276 I J T)) rfl trivial ?_
  refine ix_br (fun c1 => ?_) (fun c1 => ?_)
  · have h2 := h.1 c1
    refine ix_go 2 (x' := (6, [some (.inr (.inr (.inl (some (0))))), some (.inl (a0))], [.inl ((1 : Int32)), .inr (.inr (.inl (some (0))))], 0, 0, ix_mem 276 I J T)) rfl trivial ?_
    refine ix_sp rfl ⟨rfl, ⟨ix_lt rfl, ix_eq rfl, ix_lt rfl⟩, ix_le rfl, Nat.le_refl _, Nat.le_refl _, tp_X11_refuse h2 (fun v3 I3 J3 T3 h3 => ?_)⟩
    change ix_W _ _ _ (9, [some (.inr (.inr (.inl (some (0))))), some (.inl (a0))], [.inl (v3)], 0, 0, ix_mem 276 I3 J3 T3)
    exact ix_sp rfl ⟨Nat.le_refl _, Nat.le_refl _, trivial, hQ _ _ _ _ h3⟩
  · have h2 := h.2 c1
    refine ix_go 4 (x' := (16, [some (.inr (.inr (.inl (some (0))))), some (.inl (a0))], [.inl (a0), .inr (.inr (.inl (some (106)))), .inr (.inr (.inl (some (0))))], 0, 0, ix_mem 276 I J T)) rfl ⟨rfl, rfl⟩ ?_
    refine ix_sp rfl ⟨rfl, ⟨ix_lt rfl, ix_eq rfl, ix_lt rfl⟩, ix_le rfl, Nat.le_refl _, Nat.le_refl _, tp_X4_drawnWeek h2 (fun v4 I4 J4 T4 h4 => ?_)⟩
    change ix_W _ _ _ (19, [some (.inr (.inr (.inl (some (0))))), some (.inl (a0))], [.inl (v4), .inr (.inr (.inl (some (0))))], 0, 0, ix_mem 276 I4 J4 T4)
    refine ix_sp rfl ⟨rfl, ⟨ix_lt rfl, ix_eq rfl, ix_lt rfl⟩, ix_le rfl, Nat.le_refl _, Nat.le_refl _, tp_X11_answerOrNoneSuch h4 (fun v5 I5 J5 T5 h5 => ?_)⟩
    change ix_W _ _ _ (22, [some (.inr (.inr (.inl (some (0))))), some (.inl (a0))], [.inl (v5)], 0, 0, ix_mem 276 I5 J5 T5)
    exact ix_sp rfl ⟨Nat.le_refl _, Nat.le_refl _, trivial, hQ _ _ _ _ h5⟩
def wp_X11_told (a0 : Int32) (I : Nat → Nat → Int32) (J : Nat → Nat → Int64) (T : Option Nat) (P : Int32 → (Nat → Nat → Int32) → (Nat → Nat → Int64) → Option Nat → Prop) : Prop := wp_X4_has (a0) I J T (fun v1 I1 J1 T1 => ((v1 = 0 → wp_X11_refuse ((1 : Int32)) I1 J1 T1 (fun v4 I4 J4 T4 => P (v4) I4 J4 T4)) ∧ (¬ (v1 = 0) → wp_X4_hasDraw I1 J1 T1 (fun v5 I5 J5 T5 => ((v5 = 0 → wp_X11_answerOrNoneSuch ((-1 : Int32)) I5 J5 T5 (fun v8 I8 J8 T8 => P (v8) I8 J8 T8)) ∧ (¬ (v5 = 0) → wp_X4_toldWeight (a0) I5 J5 T5 (fun v9 I9 J9 T9 => wp_X11_answerOrNoneSuch (v9) I9 J9 T9 (fun v10 I10 J10 T10 => P (v10) I10 J10 T10))))))))
set_option maxRecDepth 20000 in
theorem tp_X11_told {d : Nat} {a0 : Int32} {I : Nat → Nat → Int32} {J : Nat → Nat → Int64} {T : Option Nat} {P : Int32 → (Nat → Nat → Int32) → (Nat → Nat → Int64) → Option Nat → Prop} {Q : ix_Q} (h : wp_X11_told a0 I J T P) (hQ : ∀ v I J T, P v I J T → Q (some (.inl v)) (ix_mem 276 I J T)) : ix_C (d + 3) 203 [.inr (.inr (.inl (some (0)))), .inl (a0)] (ix_mem 276 I J T) Q := by
  unfold wp_X11_told at h
  refine ix_enter (ls := [some (.inr (.inr (.inl (some (0))))), some (.inl (a0))]) rfl rfl rfl (Nat.le_of_ble_eq_true rfl) ?_
  refine ix_go 3 (x' := (5, [some (.inr (.inr (.inl (some (0))))), some (.inl (a0))], [.inl (a0), .inr (.inr (.inl (some (106))))], 0, 0, ix_mem 276 I J T)) rfl ⟨rfl, rfl⟩ ?_
  refine ix_sp rfl ⟨rfl, ⟨ix_lt rfl, ix_eq rfl, ix_lt rfl⟩, ix_le rfl, Nat.le_refl _, Nat.le_refl _, tp_X4_has h (fun v1 I1 J1 T1 h1 => ?_)⟩
  change ix_W _ _ _ (8, [some (.inr (.inr (.inl (some (0))))), some (.inl (a0))], [.inl (v1)], 0, 0, ix_mem 276 I1 J1 T1)
  refine ix_go 1 (x' := (if v1 = 0 then 11 else 17, [some (.inr (.inr (.inl (some (0))))), some (.inl (a0))], [], 0, 0, ix_mem 276 I1 J1 T1)) rfl trivial ?_
  refine ix_br (fun c2 => ?_) (fun c2 => ?_)
  · have h3 := h1.1 c2
    refine ix_go 2 (x' := (13, [some (.inr (.inr (.inl (some (0))))), some (.inl (a0))], [.inl ((1 : Int32)), .inr (.inr (.inl (some (0))))], 0, 0, ix_mem 276 I1 J1 T1)) rfl trivial ?_
    refine ix_sp rfl ⟨rfl, ⟨ix_lt rfl, ix_eq rfl, ix_lt rfl⟩, ix_le rfl, Nat.le_refl _, Nat.le_refl _, tp_X11_refuse h3 (fun v4 I4 J4 T4 h4 => ?_)⟩
    change ix_W _ _ _ (16, [some (.inr (.inr (.inl (some (0))))), some (.inl (a0))], [.inl (v4)], 0, 0, ix_mem 276 I4 J4 T4)
    exact ix_sp rfl ⟨Nat.le_refl _, Nat.le_refl _, trivial, hQ _ _ _ _ h4⟩
  · have h3 := h1.2 c2
    refine ix_go 3 (x' := (22, [some (.inr (.inr (.inl (some (0))))), some (.inl (a0))], [.inr (.inr (.inl (some (106)))), .inr (.inr (.inl (some (0))))], 0, 0, ix_mem 276 I1 J1 T1)) rfl ⟨rfl, rfl⟩ ?_
    refine ix_sp rfl ⟨rfl, ⟨ix_lt rfl, ix_eq rfl, ix_lt rfl⟩, ix_le rfl, Nat.le_refl _, Nat.le_refl _, tp_X4_hasDraw h3 (fun v5 I5 J5 T5 h5 => ?_)⟩
    change ix_W _ _ _ (25, [some (.inr (.inr (.inl (some (0))))), some (.inl (a0))], [.inl (v5), .inr (.inr (.inl (some (0))))], 0, 0, ix_mem 276 I5 J5 T5)
    refine ix_go 1 (x' := (if v5 = 0 then 39 else 28, [some (.inr (.inr (.inl (some (0))))), some (.inl (a0))], [.inr (.inr (.inl (some (0))))], 0, 0, ix_mem 276 I5 J5 T5)) rfl trivial ?_
    refine ix_br (fun c6 => ?_) (fun c6 => ?_)
    · have h7 := h5.1 c6
      refine ix_go 1 (x' := (40, [some (.inr (.inr (.inl (some (0))))), some (.inl (a0))], [.inl ((-1 : Int32)), .inr (.inr (.inl (some (0))))], 0, 0, ix_mem 276 I5 J5 T5)) rfl trivial ?_
      refine ix_sp rfl ⟨rfl, ⟨ix_lt rfl, ix_eq rfl, ix_lt rfl⟩, ix_le rfl, Nat.le_refl _, Nat.le_refl _, tp_X11_answerOrNoneSuch h7 (fun v8 I8 J8 T8 h8 => ?_)⟩
      change ix_W _ _ _ (43, [some (.inr (.inr (.inl (some (0))))), some (.inl (a0))], [.inl (v8)], 0, 0, ix_mem 276 I8 J8 T8)
      exact ix_sp rfl ⟨Nat.le_refl _, Nat.le_refl _, trivial, hQ _ _ _ _ h8⟩
    · have h7 := h5.2 c6
      refine ix_go 3 (x' := (33, [some (.inr (.inr (.inl (some (0))))), some (.inl (a0))], [.inl (a0), .inr (.inr (.inl (some (106)))), .inr (.inr (.inl (some (0))))], 0, 0, ix_mem 276 I5 J5 T5)) rfl ⟨rfl, rfl⟩ ?_
      refine ix_sp rfl ⟨rfl, ⟨ix_lt rfl, ix_eq rfl, ix_lt rfl⟩, ix_le rfl, Nat.le_refl _, Nat.le_refl _, tp_X4_toldWeight h7 (fun v9 I9 J9 T9 h9 => ?_)⟩
      change ix_W _ _ _ (36, [some (.inr (.inr (.inl (some (0))))), some (.inl (a0))], [.inl (v9), .inr (.inr (.inl (some (0))))], 0, 0, ix_mem 276 I9 J9 T9)
      refine ix_go 1 (x' := (40, [some (.inr (.inr (.inl (some (0))))), some (.inl (a0))], [.inl (v9), .inr (.inr (.inl (some (0))))], 0, 0, ix_mem 276 I9 J9 T9)) rfl trivial ?_
      refine ix_sp rfl ⟨rfl, ⟨ix_lt rfl, ix_eq rfl, ix_lt rfl⟩, ix_le rfl, Nat.le_refl _, Nat.le_refl _, tp_X11_answerOrNoneSuch h9 (fun v10 I10 J10 T10 h10 => ?_)⟩
      change ix_W _ _ _ (43, [some (.inr (.inr (.inl (some (0))))), some (.inl (a0))], [.inl (v10)], 0, 0, ix_mem 276 I10 J10 T10)
      exact ix_sp rfl ⟨Nat.le_refl _, Nat.le_refl _, trivial, hQ _ _ _ _ h10⟩
def wp_X11_telling (a0 : Int32) (I : Nat → Nat → Int32) (J : Nat → Nat → Int64) (T : Option Nat) (P : Int32 → (Nat → Nat → Int32) → (Nat → Nat → Int64) → Option Nat → Prop) : Prop := wp_X11_outside ((a0).toInt64) ((1 : Int64)) ((3 : Int64)) I J T (fun v1 I1 J1 T1 => ((v1 = 0 → wp_X4_findTelling (a0) (ix_u2 I1 0 0 ((0 : Int32))) J1 T1 (fun v4 I4 J4 T4 => P (v4) I4 J4 T4)) ∧ (¬ (v1 = 0) → wp_X11_refuse ((1 : Int32)) I1 J1 T1 (fun v5 I5 J5 T5 => P (v5) I5 J5 T5))))
set_option maxRecDepth 20000 in
theorem tp_X11_telling {d : Nat} {a0 : Int32} {I : Nat → Nat → Int32} {J : Nat → Nat → Int64} {T : Option Nat} {P : Int32 → (Nat → Nat → Int32) → (Nat → Nat → Int64) → Option Nat → Prop} {Q : ix_Q} (h : wp_X11_telling a0 I J T P) (hQ : ∀ v I J T, P v I J T → Q (some (.inl v)) (ix_mem 276 I J T)) : ix_C (d + 4) 204 [.inr (.inr (.inl (some (0)))), .inl (a0)] (ix_mem 276 I J T) Q := by
  unfold wp_X11_telling at h
  refine ix_enter (ls := [some (.inr (.inr (.inl (some (0))))), some (.inl (a0))]) rfl rfl rfl (Nat.le_of_ble_eq_true rfl) ?_
  refine ix_go 4 (x' := (6, [some (.inr (.inr (.inl (some (0))))), some (.inl (a0))], [.inr (.inl ((3 : Int64))), .inr (.inl ((1 : Int64))), .inr (.inl ((a0).toInt64))], 0, 0, ix_mem 276 I J T)) rfl trivial ?_
  refine ix_sp rfl ⟨rfl, trivial, ix_le rfl, Nat.le_refl _, Nat.le_refl _, tp_X11_outside h (fun v1 I1 J1 T1 h1 => ?_)⟩
  change ix_W _ _ _ (9, [some (.inr (.inr (.inl (some (0))))), some (.inl (a0))], [.inl (v1)], 0, 0, ix_mem 276 I1 J1 T1)
  refine ix_go 1 (x' := (if v1 = 0 then 18 else 12, [some (.inr (.inr (.inl (some (0))))), some (.inl (a0))], [], 0, 0, ix_mem 276 I1 J1 T1)) rfl trivial ?_
  refine ix_br (fun c2 => ?_) (fun c2 => ?_)
  · have h3 := h1.1 c2
    refine ix_go 6 (x' := (28, [some (.inr (.inr (.inl (some (0))))), some (.inl (a0))], [.inl (a0), .inr (.inr (.inl (some (106))))], 0, 0, ix_mem 276 (ix_u2 I1 0 0 ((0 : Int32))) J1 T1)) rfl ⟨rfl, rfl, rfl, rfl⟩ ?_
    refine ix_sp rfl ⟨rfl, ⟨ix_lt rfl, ix_eq rfl, ix_lt rfl⟩, ix_le rfl, Nat.le_refl _, Nat.le_refl _, tp_X4_findTelling h3 (fun v4 I4 J4 T4 h4 => ?_)⟩
    change ix_W _ _ _ (31, [some (.inr (.inr (.inl (some (0))))), some (.inl (a0))], [.inl (v4)], 0, 0, ix_mem 276 I4 J4 T4)
    exact ix_sp rfl ⟨Nat.le_refl _, Nat.le_refl _, trivial, hQ _ _ _ _ h4⟩
  · have h3 := h1.2 c2
    refine ix_go 2 (x' := (14, [some (.inr (.inr (.inl (some (0))))), some (.inl (a0))], [.inl ((1 : Int32)), .inr (.inr (.inl (some (0))))], 0, 0, ix_mem 276 I1 J1 T1)) rfl trivial ?_
    refine ix_sp rfl ⟨rfl, ⟨ix_lt rfl, ix_eq rfl, ix_lt rfl⟩, ix_le rfl, Nat.le_refl _, Nat.le_refl _, tp_X11_refuse h3 (fun v5 I5 J5 T5 h5 => ?_)⟩
    change ix_W _ _ _ (17, [some (.inr (.inr (.inl (some (0))))), some (.inl (a0))], [.inl (v5)], 0, 0, ix_mem 276 I5 J5 T5)
    exact ix_sp rfl ⟨Nat.le_refl _, Nat.le_refl _, trivial, hQ _ _ _ _ h5⟩
def wp_X11_tells (a0 : Int32) (I : Nat → Nat → Int32) (J : Nat → Nat → Int64) (T : Option Nat) (P : Int32 → (Nat → Nat → Int32) → (Nat → Nat → Int64) → Option Nat → Prop) : Prop := ((a0 < 0 → wp_X11_refuse ((1 : Int32)) I J T (fun v3 I3 J3 T3 => P (v3) I3 J3 T3)) ∧ (¬ (a0 < 0) → wp_X4_tellingWeek (a0) I J T (fun v4 I4 J4 T4 => wp_X11_answerOrNoneSuch (v4) I4 J4 T4 (fun v5 I5 J5 T5 => P (v5) I5 J5 T5))))
set_option maxRecDepth 20000 in
theorem tp_X11_tells {d : Nat} {a0 : Int32} {I : Nat → Nat → Int32} {J : Nat → Nat → Int64} {T : Option Nat} {P : Int32 → (Nat → Nat → Int32) → (Nat → Nat → Int64) → Option Nat → Prop} {Q : ix_Q} (h : wp_X11_tells a0 I J T P) (hQ : ∀ v I J T, P v I J T → Q (some (.inl v)) (ix_mem 276 I J T)) : ix_C (d + 2) 205 [.inr (.inr (.inl (some (0)))), .inl (a0)] (ix_mem 276 I J T) Q := by
  unfold wp_X11_tells at h
  refine ix_enter (ls := [some (.inr (.inr (.inl (some (0))))), some (.inl (a0))]) rfl rfl rfl (Nat.le_of_ble_eq_true rfl) ?_
  refine ix_go 2 (x' := (if a0 < 0 then 4 else 10, [some (.inr (.inr (.inl (some (0))))), some (.inl (a0))], [], 0, 0, ix_mem 276 I J T)) rfl trivial ?_
  refine ix_br (fun c1 => ?_) (fun c1 => ?_)
  · have h2 := h.1 c1
    refine ix_go 2 (x' := (6, [some (.inr (.inr (.inl (some (0))))), some (.inl (a0))], [.inl ((1 : Int32)), .inr (.inr (.inl (some (0))))], 0, 0, ix_mem 276 I J T)) rfl trivial ?_
    refine ix_sp rfl ⟨rfl, ⟨ix_lt rfl, ix_eq rfl, ix_lt rfl⟩, ix_le rfl, Nat.le_refl _, Nat.le_refl _, tp_X11_refuse h2 (fun v3 I3 J3 T3 h3 => ?_)⟩
    change ix_W _ _ _ (9, [some (.inr (.inr (.inl (some (0))))), some (.inl (a0))], [.inl (v3)], 0, 0, ix_mem 276 I3 J3 T3)
    exact ix_sp rfl ⟨Nat.le_refl _, Nat.le_refl _, trivial, hQ _ _ _ _ h3⟩
  · have h2 := h.2 c1
    refine ix_go 4 (x' := (16, [some (.inr (.inr (.inl (some (0))))), some (.inl (a0))], [.inl (a0), .inr (.inr (.inl (some (106)))), .inr (.inr (.inl (some (0))))], 0, 0, ix_mem 276 I J T)) rfl ⟨rfl, rfl⟩ ?_
    refine ix_sp rfl ⟨rfl, ⟨ix_lt rfl, ix_eq rfl, ix_lt rfl⟩, ix_le rfl, Nat.le_refl _, Nat.le_refl _, tp_X4_tellingWeek h2 (fun v4 I4 J4 T4 h4 => ?_)⟩
    change ix_W _ _ _ (19, [some (.inr (.inr (.inl (some (0))))), some (.inl (a0))], [.inl (v4), .inr (.inr (.inl (some (0))))], 0, 0, ix_mem 276 I4 J4 T4)
    refine ix_sp rfl ⟨rfl, ⟨ix_lt rfl, ix_eq rfl, ix_lt rfl⟩, ix_le rfl, Nat.le_refl _, Nat.le_refl _, tp_X11_answerOrNoneSuch h4 (fun v5 I5 J5 T5 h5 => ?_)⟩
    change ix_W _ _ _ (22, [some (.inr (.inr (.inl (some (0))))), some (.inl (a0))], [.inl (v5)], 0, 0, ix_mem 276 I5 J5 T5)
    exact ix_sp rfl ⟨Nat.le_refl _, Nat.le_refl _, trivial, hQ _ _ _ _ h5⟩
def wb_X11_account_50 (x1 : Int32) (x2 : Int32) (x3 : Int32) (I : Nat → Nat → Int32) (J : Nat → Nat → Int64) (T : Option Nat) (V50 : Int32 → Int32 → Int32 → (Nat → Nat → Int32) → (Nat → Nat → Int64) → Option Nat → Prop) (P : Int64 → (Nat → Nat → Int32) → (Nat → Nat → Int64) → Option Nat → Prop) : Prop := wp_X4_count I J T (fun v7 I7 J7 T7 => ((x3 < v7 → ((x2 = 0 → wp_X4_trueWeight (x3) I7 J7 T7 (fun v12 I12 J12 T12 => ((v12 = 0 → V50 (x1) (x2) (x3 + (1 : Int32)) I12 J12 T12) ∧ (¬ (v12 = 0) → wp_X4_makeMail (x3) (v12) ((x1) * ((365 : Int32))) I12 J12 T12 (fun I15 J15 T15 => wp_X10_findBest I15 J15 T15 (fun v16 I16 J16 T16 => ((v16 = 0 → wp_X11_refuse ((6 : Int32)) I16 J16 T16 (fun v19 I19 J19 T19 => P ((v19).toInt64) I19 J19 T19)) ∧ (¬ (v16 = 0) → wp_X0_enter I16 J16 T16 (fun I20 J20 T20 => V50 (x1) (x2) (x3 + (1 : Int32)) I20 J20 T20))))))))) ∧ (¬ (x2 = 0) → wp_X4_toldWeight (x3) I7 J7 T7 (fun v21 I21 J21 T21 => ((v21 = 0 → V50 (x1) (x2) (x3 + (1 : Int32)) I21 J21 T21) ∧ (¬ (v21 = 0) → wp_X4_makeMail (x3) (v21) ((x1) * ((365 : Int32))) I21 J21 T21 (fun I24 J24 T24 => wp_X10_findBest I24 J24 T24 (fun v25 I25 J25 T25 => ((v25 = 0 → wp_X11_refuse ((6 : Int32)) I25 J25 T25 (fun v28 I28 J28 T28 => P ((v28).toInt64) I28 J28 T28)) ∧ (¬ (v25 = 0) → wp_X0_enter I25 J25 T25 (fun I29 J29 T29 => V50 (x1) (x2) (x3 + (1 : Int32)) I29 J29 T29))))))))))) ∧ (¬ (x3 < v7) → wp_X0_settle (ix_u2 I7 0 0 ((0 : Int32))) J7 T7 (fun v30 I30 J30 T30 => P (v30) I30 J30 T30))))
def wl_X11_account_50 (x1 : Int32) (x2 : Int32) (x3 : Int32) (I : Nat → Nat → Int32) (J : Nat → Nat → Int64) (T : Option Nat) (P : Int64 → (Nat → Nat → Int32) → (Nat → Nat → Int64) → Option Nat → Prop) : Prop := ∀ V : Int32 → Int32 → Int32 → (Nat → Nat → Int32) → (Nat → Nat → Int64) → Option Nat → Prop, (∀ (x1 : Int32) (x2 : Int32) (x3 : Int32) (I : Nat → Nat → Int32) (J : Nat → Nat → Int64) (T : Option Nat), wb_X11_account_50 x1 x2 x3 I J T V P → V x1 x2 x3 I J T) → V x1 x2 x3 I J T
set_option maxRecDepth 20000 in
theorem tl_X11_account_50 {d : Nat} {x1 : Int32} {x2 : Int32} {x3 : Int32} {I : Nat → Nat → Int32} {J : Nat → Nat → Int64} {T : Option Nat} {P : Int64 → (Nat → Nat → Int32) → (Nat → Nat → Int64) → Option Nat → Prop} {Q : ix_Q} (h : wl_X11_account_50 x1 x2 x3 I J T P) (hQ : ∀ v I J T, P v I J T → Q (some (.inr (.inl v))) (ix_mem 276 I J T)) : ix_W (ix_C (d + 9)) (11, ix_lk ix_l206, (some .long), 0, 0, Nat.blt 0 0, none) Q (50, [some (.inr (.inr (.inl (some (0))))), some (.inl (x1)), some (.inl (x2)), some (.inl (x3)), none], [], 0, 0, ix_mem 276 I J T) := by
  refine h (fun x1 x2 x3 I J T => ix_W (ix_C (d + 9)) (11, ix_lk ix_l206, (some .long), 0, 0, Nat.blt 0 0, none) Q (50, [some (.inr (.inr (.inl (some (0))))), some (.inl (x1)), some (.inl (x2)), some (.inl (x3)), none], [], 0, 0, ix_mem 276 I J T)) ?_
  intro x1 x2 x3 I J T hb
  unfold wb_X11_account_50 at hb
  refine ix_go 3 (x' := (55, [some (.inr (.inr (.inl (some (0))))), some (.inl (x1)), some (.inl (x2)), some (.inl (x3)), none], [.inr (.inr (.inl (some (106)))), .inl (x3)], 0, 0, ix_mem 276 I J T)) rfl ⟨rfl, rfl⟩ ?_
  refine ix_sp rfl ⟨rfl, ⟨ix_lt rfl, ix_eq rfl, ix_lt rfl⟩, ix_le rfl, Nat.le_refl _, Nat.le_refl _, tp_X4_count hb (fun v7 I7 J7 T7 h7 => ?_)⟩
  change ix_W _ _ _ (58, [some (.inr (.inr (.inl (some (0))))), some (.inl (x1)), some (.inl (x2)), some (.inl (x3)), none], [.inl (v7), .inl (x3)], 0, 0, ix_mem 276 I7 J7 T7)
  refine ix_go 1 (x' := (if x3 < v7 then 61 else 152, [some (.inr (.inr (.inl (some (0))))), some (.inl (x1)), some (.inl (x2)), some (.inl (x3)), none], [], 0, 0, ix_mem 276 I7 J7 T7)) rfl trivial ?_
  refine ix_br (fun c8 => ?_) (fun c8 => ?_)
  · have h9 := h7.1 c8
    refine ix_go 2 (x' := (if x2 = 0 then 76 else 65, [some (.inr (.inr (.inl (some (0))))), some (.inl (x1)), some (.inl (x2)), some (.inl (x3)), none], [], 0, 0, ix_mem 276 I7 J7 T7)) rfl trivial ?_
    refine ix_br (fun c10 => ?_) (fun c10 => ?_)
    · have h11 := h9.1 c10
      refine ix_go 3 (x' := (81, [some (.inr (.inr (.inl (some (0))))), some (.inl (x1)), some (.inl (x2)), some (.inl (x3)), none], [.inl (x3), .inr (.inr (.inl (some (106))))], 0, 0, ix_mem 276 I7 J7 T7)) rfl ⟨rfl, rfl⟩ ?_
      refine ix_sp rfl ⟨rfl, ⟨ix_lt rfl, ix_eq rfl, ix_lt rfl⟩, ix_le rfl, Nat.le_refl _, Nat.le_refl _, tp_X4_trueWeight h11 (fun v12 I12 J12 T12 h12 => ?_)⟩
      change ix_W _ _ _ (84, [some (.inr (.inr (.inl (some (0))))), some (.inl (x1)), some (.inl (x2)), some (.inl (x3)), none], [.inl (v12)], 0, 0, ix_mem 276 I12 J12 T12)
      refine ix_go 3 (x' := (if v12 = 0 then 91 else 94, [some (.inr (.inr (.inl (some (0))))), some (.inl (x1)), some (.inl (x2)), some (.inl (x3)), some (.inl (v12))], [], 0, 0, ix_mem 276 I12 J12 T12)) rfl trivial ?_
      refine ix_br (fun c13 => ?_) (fun c13 => ?_)
      · have h14 := h12.1 c13
        refine ix_go 3 (x' := (50, [some (.inr (.inr (.inl (some (0))))), some (.inl (x1)), some (.inl (x2)), some (.inl (x3 + (1 : Int32))), some (.inl (v12))], [], 0, 0, ix_mem 276 I12 J12 T12)) rfl trivial ?_
        refine ix_subW ([some (.inr (.inr (.inl (some (0))))), some (.inl (x1)), some (.inl (x2)), some (.inl (x3 + (1 : Int32))), none]) (ix_subS (ix_subS (ix_subS (ix_subS (ix_subN (ix_sub0)))))) ?_
        exact h14
      · have h14 := h12.2 c13
        refine ix_go 7 (x' := (106, [some (.inr (.inr (.inl (some (0))))), some (.inl (x1)), some (.inl (x2)), some (.inl (x3)), some (.inl (v12))], [.inl ((x1) * ((365 : Int32))), .inl (v12), .inl (x3), .inr (.inr (.inl (some (106))))], 0, 0, ix_mem 276 I12 J12 T12)) rfl ⟨rfl, rfl⟩ ?_
        refine ix_go 2 (x' := (110, [some (.inr (.inr (.inl (some (0))))), some (.inl (x1)), some (.inl (x2)), some (.inl (x3)), some (.inl (v12))], [.inr (.inr (.inl (some (95)))), .inl ((x1) * ((365 : Int32))), .inl (v12), .inl (x3), .inr (.inr (.inl (some (106))))], 0, 0, ix_mem 276 I12 J12 T12)) rfl ⟨rfl, rfl⟩ ?_
        refine ix_sp rfl ⟨rfl, ⟨ix_lt rfl, ix_eq rfl, ix_lt rfl⟩, ix_le rfl, Nat.le_refl _, Nat.le_refl _, tp_X4_makeMail h14 (fun I15 J15 T15 h15 => ?_)⟩
        change ix_W _ _ _ (113, [some (.inr (.inr (.inl (some (0))))), some (.inl (x1)), some (.inl (x2)), some (.inl (x3)), some (.inl (v12))], [], 0, 0, ix_mem 276 I15 J15 T15)
        refine ix_go 4 (x' := (121, [some (.inr (.inr (.inl (some (0))))), some (.inl (x1)), some (.inl (x2)), some (.inl (x3)), some (.inl (v12))], [.inr (.inr (.inl (some (95)))), .inr (.inr (.inl (some (97))))], 0, 0, ix_mem 276 I15 J15 T15)) rfl ⟨rfl, rfl, rfl, rfl⟩ ?_
        refine ix_sp rfl ⟨rfl, ⟨ix_lt rfl, ix_eq rfl, ix_lt rfl⟩, ix_le rfl, Nat.le_refl _, Nat.le_refl _, tp_X10_findBest h15 (fun v16 I16 J16 T16 h16 => ?_)⟩
        change ix_W _ _ _ (124, [some (.inr (.inr (.inl (some (0))))), some (.inl (x1)), some (.inl (x2)), some (.inl (x3)), some (.inl (v12))], [.inl (v16)], 0, 0, ix_mem 276 I16 J16 T16)
        refine ix_go 1 (x' := (if v16 = 0 then 127 else 135, [some (.inr (.inr (.inl (some (0))))), some (.inl (x1)), some (.inl (x2)), some (.inl (x3)), some (.inl (v12))], [], 0, 0, ix_mem 276 I16 J16 T16)) rfl trivial ?_
        refine ix_br (fun c17 => ?_) (fun c17 => ?_)
        · have h18 := h16.1 c17
          refine ix_go 2 (x' := (130, [some (.inr (.inr (.inl (some (0))))), some (.inl (x1)), some (.inl (x2)), some (.inl (x3)), some (.inl (v12))], [.inl ((6 : Int32)), .inr (.inr (.inl (some (0))))], 0, 0, ix_mem 276 I16 J16 T16)) rfl trivial ?_
          refine ix_sp rfl ⟨rfl, ⟨ix_lt rfl, ix_eq rfl, ix_lt rfl⟩, ix_le rfl, Nat.le_refl _, Nat.le_refl _, tp_X11_refuse h18 (fun v19 I19 J19 T19 h19 => ?_)⟩
          change ix_W _ _ _ (133, [some (.inr (.inr (.inl (some (0))))), some (.inl (x1)), some (.inl (x2)), some (.inl (x3)), some (.inl (v12))], [.inl (v19)], 0, 0, ix_mem 276 I19 J19 T19)
          refine ix_go 1 (x' := (134, [some (.inr (.inr (.inl (some (0))))), some (.inl (x1)), some (.inl (x2)), some (.inl (x3)), some (.inl (v12))], [.inr (.inl ((v19).toInt64))], 0, 0, ix_mem 276 I19 J19 T19)) rfl trivial ?_
          exact ix_sp rfl ⟨Nat.le_refl _, Nat.le_refl _, rfl, hQ _ _ _ _ h19⟩
        · have h18 := h16.2 c17
          refine ix_go 4 (x' := (143, [some (.inr (.inr (.inl (some (0))))), some (.inl (x1)), some (.inl (x2)), some (.inl (x3)), some (.inl (v12))], [.inr (.inr (.inl (some (97)))), .inr (.inr (.inl (some (124))))], 0, 0, ix_mem 276 I16 J16 T16)) rfl ⟨rfl, rfl, rfl, rfl⟩ ?_
          refine ix_sp rfl ⟨rfl, ⟨ix_lt rfl, ix_eq rfl, ix_lt rfl⟩, ix_le rfl, Nat.le_refl _, Nat.le_refl _, tp_X0_enter h18 (fun I20 J20 T20 h20 => ?_)⟩
          change ix_W _ _ _ (146, [some (.inr (.inr (.inl (some (0))))), some (.inl (x1)), some (.inl (x2)), some (.inl (x3)), some (.inl (v12))], [], 0, 0, ix_mem 276 I20 J20 T20)
          refine ix_go 2 (x' := (50, [some (.inr (.inr (.inl (some (0))))), some (.inl (x1)), some (.inl (x2)), some (.inl (x3 + (1 : Int32))), some (.inl (v12))], [], 0, 0, ix_mem 276 I20 J20 T20)) rfl trivial ?_
          refine ix_subW ([some (.inr (.inr (.inl (some (0))))), some (.inl (x1)), some (.inl (x2)), some (.inl (x3 + (1 : Int32))), none]) (ix_subS (ix_subS (ix_subS (ix_subS (ix_subN (ix_sub0)))))) ?_
          exact h20
    · have h11 := h9.2 c10
      refine ix_go 3 (x' := (70, [some (.inr (.inr (.inl (some (0))))), some (.inl (x1)), some (.inl (x2)), some (.inl (x3)), none], [.inl (x3), .inr (.inr (.inl (some (106))))], 0, 0, ix_mem 276 I7 J7 T7)) rfl ⟨rfl, rfl⟩ ?_
      refine ix_sp rfl ⟨rfl, ⟨ix_lt rfl, ix_eq rfl, ix_lt rfl⟩, ix_le rfl, Nat.le_refl _, Nat.le_refl _, tp_X4_toldWeight h11 (fun v21 I21 J21 T21 h21 => ?_)⟩
      change ix_W _ _ _ (73, [some (.inr (.inr (.inl (some (0))))), some (.inl (x1)), some (.inl (x2)), some (.inl (x3)), none], [.inl (v21)], 0, 0, ix_mem 276 I21 J21 T21)
      refine ix_go 4 (x' := (if v21 = 0 then 91 else 94, [some (.inr (.inr (.inl (some (0))))), some (.inl (x1)), some (.inl (x2)), some (.inl (x3)), some (.inl (v21))], [], 0, 0, ix_mem 276 I21 J21 T21)) rfl trivial ?_
      refine ix_br (fun c22 => ?_) (fun c22 => ?_)
      · have h23 := h21.1 c22
        refine ix_go 3 (x' := (50, [some (.inr (.inr (.inl (some (0))))), some (.inl (x1)), some (.inl (x2)), some (.inl (x3 + (1 : Int32))), some (.inl (v21))], [], 0, 0, ix_mem 276 I21 J21 T21)) rfl trivial ?_
        refine ix_subW ([some (.inr (.inr (.inl (some (0))))), some (.inl (x1)), some (.inl (x2)), some (.inl (x3 + (1 : Int32))), none]) (ix_subS (ix_subS (ix_subS (ix_subS (ix_subN (ix_sub0)))))) ?_
        exact h23
      · have h23 := h21.2 c22
        refine ix_go 7 (x' := (106, [some (.inr (.inr (.inl (some (0))))), some (.inl (x1)), some (.inl (x2)), some (.inl (x3)), some (.inl (v21))], [.inl ((x1) * ((365 : Int32))), .inl (v21), .inl (x3), .inr (.inr (.inl (some (106))))], 0, 0, ix_mem 276 I21 J21 T21)) rfl ⟨rfl, rfl⟩ ?_
        refine ix_go 2 (x' := (110, [some (.inr (.inr (.inl (some (0))))), some (.inl (x1)), some (.inl (x2)), some (.inl (x3)), some (.inl (v21))], [.inr (.inr (.inl (some (95)))), .inl ((x1) * ((365 : Int32))), .inl (v21), .inl (x3), .inr (.inr (.inl (some (106))))], 0, 0, ix_mem 276 I21 J21 T21)) rfl ⟨rfl, rfl⟩ ?_
        refine ix_sp rfl ⟨rfl, ⟨ix_lt rfl, ix_eq rfl, ix_lt rfl⟩, ix_le rfl, Nat.le_refl _, Nat.le_refl _, tp_X4_makeMail h23 (fun I24 J24 T24 h24 => ?_)⟩
        change ix_W _ _ _ (113, [some (.inr (.inr (.inl (some (0))))), some (.inl (x1)), some (.inl (x2)), some (.inl (x3)), some (.inl (v21))], [], 0, 0, ix_mem 276 I24 J24 T24)
        refine ix_go 4 (x' := (121, [some (.inr (.inr (.inl (some (0))))), some (.inl (x1)), some (.inl (x2)), some (.inl (x3)), some (.inl (v21))], [.inr (.inr (.inl (some (95)))), .inr (.inr (.inl (some (97))))], 0, 0, ix_mem 276 I24 J24 T24)) rfl ⟨rfl, rfl, rfl, rfl⟩ ?_
        refine ix_sp rfl ⟨rfl, ⟨ix_lt rfl, ix_eq rfl, ix_lt rfl⟩, ix_le rfl, Nat.le_refl _, Nat.le_refl _, tp_X10_findBest h24 (fun v25 I25 J25 T25 h25 => ?_)⟩
        change ix_W _ _ _ (124, [some (.inr (.inr (.inl (some (0))))), some (.inl (x1)), some (.inl (x2)), some (.inl (x3)), some (.inl (v21))], [.inl (v25)], 0, 0, ix_mem 276 I25 J25 T25)
        refine ix_go 1 (x' := (if v25 = 0 then 127 else 135, [some (.inr (.inr (.inl (some (0))))), some (.inl (x1)), some (.inl (x2)), some (.inl (x3)), some (.inl (v21))], [], 0, 0, ix_mem 276 I25 J25 T25)) rfl trivial ?_
        refine ix_br (fun c26 => ?_) (fun c26 => ?_)
        · have h27 := h25.1 c26
          refine ix_go 2 (x' := (130, [some (.inr (.inr (.inl (some (0))))), some (.inl (x1)), some (.inl (x2)), some (.inl (x3)), some (.inl (v21))], [.inl ((6 : Int32)), .inr (.inr (.inl (some (0))))], 0, 0, ix_mem 276 I25 J25 T25)) rfl trivial ?_
          refine ix_sp rfl ⟨rfl, ⟨ix_lt rfl, ix_eq rfl, ix_lt rfl⟩, ix_le rfl, Nat.le_refl _, Nat.le_refl _, tp_X11_refuse h27 (fun v28 I28 J28 T28 h28 => ?_)⟩
          change ix_W _ _ _ (133, [some (.inr (.inr (.inl (some (0))))), some (.inl (x1)), some (.inl (x2)), some (.inl (x3)), some (.inl (v21))], [.inl (v28)], 0, 0, ix_mem 276 I28 J28 T28)
          refine ix_go 1 (x' := (134, [some (.inr (.inr (.inl (some (0))))), some (.inl (x1)), some (.inl (x2)), some (.inl (x3)), some (.inl (v21))], [.inr (.inl ((v28).toInt64))], 0, 0, ix_mem 276 I28 J28 T28)) rfl trivial ?_
          exact ix_sp rfl ⟨Nat.le_refl _, Nat.le_refl _, rfl, hQ _ _ _ _ h28⟩
        · have h27 := h25.2 c26
          refine ix_go 4 (x' := (143, [some (.inr (.inr (.inl (some (0))))), some (.inl (x1)), some (.inl (x2)), some (.inl (x3)), some (.inl (v21))], [.inr (.inr (.inl (some (97)))), .inr (.inr (.inl (some (124))))], 0, 0, ix_mem 276 I25 J25 T25)) rfl ⟨rfl, rfl, rfl, rfl⟩ ?_
          refine ix_sp rfl ⟨rfl, ⟨ix_lt rfl, ix_eq rfl, ix_lt rfl⟩, ix_le rfl, Nat.le_refl _, Nat.le_refl _, tp_X0_enter h27 (fun I29 J29 T29 h29 => ?_)⟩
          change ix_W _ _ _ (146, [some (.inr (.inr (.inl (some (0))))), some (.inl (x1)), some (.inl (x2)), some (.inl (x3)), some (.inl (v21))], [], 0, 0, ix_mem 276 I29 J29 T29)
          refine ix_go 2 (x' := (50, [some (.inr (.inr (.inl (some (0))))), some (.inl (x1)), some (.inl (x2)), some (.inl (x3 + (1 : Int32))), some (.inl (v21))], [], 0, 0, ix_mem 276 I29 J29 T29)) rfl trivial ?_
          refine ix_subW ([some (.inr (.inr (.inl (some (0))))), some (.inl (x1)), some (.inl (x2)), some (.inl (x3 + (1 : Int32))), none]) (ix_subS (ix_subS (ix_subS (ix_subS (ix_subN (ix_sub0)))))) ?_
          exact h29
  · have h9 := h7.2 c8
    refine ix_go 5 (x' := (161, [some (.inr (.inr (.inl (some (0))))), some (.inl (x1)), some (.inl (x2)), some (.inl (x3)), none], [.inr (.inr (.inl (some (124))))], 0, 0, ix_mem 276 (ix_u2 I7 0 0 ((0 : Int32))) J7 T7)) rfl ⟨rfl, rfl, rfl, rfl⟩ ?_
    refine ix_sp rfl ⟨rfl, ⟨ix_lt rfl, ix_eq rfl, ix_lt rfl⟩, ix_le rfl, Nat.le_refl _, Nat.le_refl _, tp_X0_settle h9 (fun v30 I30 J30 T30 h30 => ?_)⟩
    change ix_W _ _ _ (164, [some (.inr (.inr (.inl (some (0))))), some (.inl (x1)), some (.inl (x2)), some (.inl (x3)), none], [.inr (.inl (v30))], 0, 0, ix_mem 276 I30 J30 T30)
    exact ix_sp rfl ⟨Nat.le_refl _, Nat.le_refl _, rfl, hQ _ _ _ _ h30⟩
def wp_X11_account (a0 : Int32) (a1 : Int32) (I : Nat → Nat → Int32) (J : Nat → Nat → Int64) (T : Option Nat) (P : Int64 → (Nat → Nat → Int32) → (Nat → Nat → Int64) → Option Nat → Prop) : Prop := wp_X11_outside ((a0).toInt64) ((0 : Int64)) ((27 : Int64)) I J T (fun v1 I1 J1 T1 => ((v1 = 0 → ((a1 = 0 → wp_X0_begin I1 J1 T1 (fun I6 J6 T6 => wl_X11_account_50 (a0) (a1) ((0 : Int32)) I6 J6 T6 P)) ∧ (¬ (a1 = 0) → wp_X4_hasDraw I1 J1 T1 (fun v31 I31 J31 T31 => ((v31 = 0 → wp_X11_refuse ((6 : Int32)) I31 J31 T31 (fun v34 I34 J34 T34 => P ((v34).toInt64) I34 J34 T34)) ∧ (¬ (v31 = 0) → wp_X0_begin I31 J31 T31 (fun I35 J35 T35 => wl_X11_account_50 (a0) (a1) ((0 : Int32)) I35 J35 T35 P))))))) ∧ (¬ (v1 = 0) → wp_X11_refuse ((1 : Int32)) I1 J1 T1 (fun v36 I36 J36 T36 => P ((v36).toInt64) I36 J36 T36))))
set_option maxRecDepth 20000 in
theorem tp_X11_account {d : Nat} {a0 : Int32} {a1 : Int32} {I : Nat → Nat → Int32} {J : Nat → Nat → Int64} {T : Option Nat} {P : Int64 → (Nat → Nat → Int32) → (Nat → Nat → Int64) → Option Nat → Prop} {Q : ix_Q} (h : wp_X11_account a0 a1 I J T P) (hQ : ∀ v I J T, P v I J T → Q (some (.inr (.inl v))) (ix_mem 276 I J T)) : ix_C (d + 10) 206 [.inr (.inr (.inl (some (0)))), .inl (a0), .inl (a1)] (ix_mem 276 I J T) Q := by
  unfold wp_X11_account at h
  refine ix_enter (ls := [some (.inr (.inr (.inl (some (0))))), some (.inl (a0)), some (.inl (a1)), none, none]) rfl rfl rfl (Nat.le_of_ble_eq_true rfl) ?_
  refine ix_go 4 (x' := (6, [some (.inr (.inr (.inl (some (0))))), some (.inl (a0)), some (.inl (a1)), none, none], [.inr (.inl ((27 : Int64))), .inr (.inl ((0 : Int64))), .inr (.inl ((a0).toInt64))], 0, 0, ix_mem 276 I J T)) rfl trivial ?_
  refine ix_sp rfl ⟨rfl, trivial, ix_le rfl, Nat.le_refl _, Nat.le_refl _, tp_X11_outside h (fun v1 I1 J1 T1 h1 => ?_)⟩
  change ix_W _ _ _ (9, [some (.inr (.inr (.inl (some (0))))), some (.inl (a0)), some (.inl (a1)), none, none], [.inl (v1)], 0, 0, ix_mem 276 I1 J1 T1)
  refine ix_go 1 (x' := (if v1 = 0 then 19 else 12, [some (.inr (.inr (.inl (some (0))))), some (.inl (a0)), some (.inl (a1)), none, none], [], 0, 0, ix_mem 276 I1 J1 T1)) rfl trivial ?_
  refine ix_br (fun c2 => ?_) (fun c2 => ?_)
  · have h3 := h1.1 c2
    refine ix_go 2 (x' := (if a1 = 0 then 41 else 23, [some (.inr (.inr (.inl (some (0))))), some (.inl (a0)), some (.inl (a1)), none, none], [], 0, 0, ix_mem 276 I1 J1 T1)) rfl trivial ?_
    refine ix_br (fun c4 => ?_) (fun c4 => ?_)
    · have h5 := h3.1 c4
      refine ix_go 2 (x' := (45, [some (.inr (.inr (.inl (some (0))))), some (.inl (a0)), some (.inl (a1)), none, none], [.inr (.inr (.inl (some (124))))], 0, 0, ix_mem 276 I1 J1 T1)) rfl ⟨rfl, rfl⟩ ?_
      refine ix_sp rfl ⟨rfl, ⟨ix_lt rfl, ix_eq rfl, ix_lt rfl⟩, ix_le rfl, Nat.le_refl _, Nat.le_refl _, tp_X0_begin h5 (fun I6 J6 T6 h6 => ?_)⟩
      change ix_W _ _ _ (48, [some (.inr (.inr (.inl (some (0))))), some (.inl (a0)), some (.inl (a1)), none, none], [], 0, 0, ix_mem 276 I6 J6 T6)
      refine ix_go 2 (x' := (50, [some (.inr (.inr (.inl (some (0))))), some (.inl (a0)), some (.inl (a1)), some (.inl ((0 : Int32))), none], [], 0, 0, ix_mem 276 I6 J6 T6)) rfl trivial ?_
      refine ix_subW ([some (.inr (.inr (.inl (some (0))))), some (.inl (a0)), some (.inl (a1)), some (.inl ((0 : Int32))), none]) (ix_subS (ix_subS (ix_subS (ix_subS (ix_subS (ix_sub0)))))) ?_
      exact tl_X11_account_50 h6 hQ
    · have h5 := h3.2 c4
      refine ix_go 2 (x' := (27, [some (.inr (.inr (.inl (some (0))))), some (.inl (a0)), some (.inl (a1)), none, none], [.inr (.inr (.inl (some (106))))], 0, 0, ix_mem 276 I1 J1 T1)) rfl ⟨rfl, rfl⟩ ?_
      refine ix_sp rfl ⟨rfl, ⟨ix_lt rfl, ix_eq rfl, ix_lt rfl⟩, ix_le rfl, Nat.le_refl _, Nat.le_refl _, tp_X4_hasDraw h5 (fun v31 I31 J31 T31 h31 => ?_)⟩
      change ix_W _ _ _ (30, [some (.inr (.inr (.inl (some (0))))), some (.inl (a0)), some (.inl (a1)), none, none], [.inl (v31)], 0, 0, ix_mem 276 I31 J31 T31)
      refine ix_go 1 (x' := (if v31 = 0 then 33 else 41, [some (.inr (.inr (.inl (some (0))))), some (.inl (a0)), some (.inl (a1)), none, none], [], 0, 0, ix_mem 276 I31 J31 T31)) rfl trivial ?_
      refine ix_br (fun c32 => ?_) (fun c32 => ?_)
      · have h33 := h31.1 c32
        refine ix_go 2 (x' := (36, [some (.inr (.inr (.inl (some (0))))), some (.inl (a0)), some (.inl (a1)), none, none], [.inl ((6 : Int32)), .inr (.inr (.inl (some (0))))], 0, 0, ix_mem 276 I31 J31 T31)) rfl trivial ?_
        refine ix_sp rfl ⟨rfl, ⟨ix_lt rfl, ix_eq rfl, ix_lt rfl⟩, ix_le rfl, Nat.le_refl _, Nat.le_refl _, tp_X11_refuse h33 (fun v34 I34 J34 T34 h34 => ?_)⟩
        change ix_W _ _ _ (39, [some (.inr (.inr (.inl (some (0))))), some (.inl (a0)), some (.inl (a1)), none, none], [.inl (v34)], 0, 0, ix_mem 276 I34 J34 T34)
        refine ix_go 1 (x' := (40, [some (.inr (.inr (.inl (some (0))))), some (.inl (a0)), some (.inl (a1)), none, none], [.inr (.inl ((v34).toInt64))], 0, 0, ix_mem 276 I34 J34 T34)) rfl trivial ?_
        exact ix_sp rfl ⟨Nat.le_refl _, Nat.le_refl _, rfl, hQ _ _ _ _ h34⟩
      · have h33 := h31.2 c32
        refine ix_go 2 (x' := (45, [some (.inr (.inr (.inl (some (0))))), some (.inl (a0)), some (.inl (a1)), none, none], [.inr (.inr (.inl (some (124))))], 0, 0, ix_mem 276 I31 J31 T31)) rfl ⟨rfl, rfl⟩ ?_
        refine ix_sp rfl ⟨rfl, ⟨ix_lt rfl, ix_eq rfl, ix_lt rfl⟩, ix_le rfl, Nat.le_refl _, Nat.le_refl _, tp_X0_begin h33 (fun I35 J35 T35 h35 => ?_)⟩
        change ix_W _ _ _ (48, [some (.inr (.inr (.inl (some (0))))), some (.inl (a0)), some (.inl (a1)), none, none], [], 0, 0, ix_mem 276 I35 J35 T35)
        refine ix_go 2 (x' := (50, [some (.inr (.inr (.inl (some (0))))), some (.inl (a0)), some (.inl (a1)), some (.inl ((0 : Int32))), none], [], 0, 0, ix_mem 276 I35 J35 T35)) rfl trivial ?_
        refine ix_subW ([some (.inr (.inr (.inl (some (0))))), some (.inl (a0)), some (.inl (a1)), some (.inl ((0 : Int32))), none]) (ix_subS (ix_subS (ix_subS (ix_subS (ix_subS (ix_sub0)))))) ?_
        exact tl_X11_account_50 h35 hQ
  · have h3 := h1.2 c2
    refine ix_go 2 (x' := (14, [some (.inr (.inr (.inl (some (0))))), some (.inl (a0)), some (.inl (a1)), none, none], [.inl ((1 : Int32)), .inr (.inr (.inl (some (0))))], 0, 0, ix_mem 276 I1 J1 T1)) rfl trivial ?_
    refine ix_sp rfl ⟨rfl, ⟨ix_lt rfl, ix_eq rfl, ix_lt rfl⟩, ix_le rfl, Nat.le_refl _, Nat.le_refl _, tp_X11_refuse h3 (fun v36 I36 J36 T36 h36 => ?_)⟩
    change ix_W _ _ _ (17, [some (.inr (.inr (.inl (some (0))))), some (.inl (a0)), some (.inl (a1)), none, none], [.inl (v36)], 0, 0, ix_mem 276 I36 J36 T36)
    refine ix_go 1 (x' := (18, [some (.inr (.inr (.inl (some (0))))), some (.inl (a0)), some (.inl (a1)), none, none], [.inr (.inl ((v36).toInt64))], 0, 0, ix_mem 276 I36 J36 T36)) rfl trivial ?_
    exact ix_sp rfl ⟨Nat.le_refl _, Nat.le_refl _, rfl, hQ _ _ _ _ h36⟩
