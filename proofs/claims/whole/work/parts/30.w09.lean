def wp_X7_bindingOf (a0 : Int32) (I : Nat → Nat → Int32) (J : Nat → Nat → Int64) (T : Option Nat) (P : Int32 → (Nat → Nat → Int32) → (Nat → Nat → Int64) → Option Nat → Prop) : Prop := ((a0 = 6 → P ((1 : Int32)) I J T) ∧ (¬ (a0 = 6) → ((a0 = 7 → P ((2 : Int32)) I J T) ∧ (¬ (a0 = 7) → ((a0 = 8 → P ((3 : Int32)) I J T) ∧ (¬ (a0 = 8) → ((a0 = 42 → P ((6 : Int32)) I J T) ∧ (¬ (a0 = 42) → ((a0 = 43 → P ((5 : Int32)) I J T) ∧ (¬ (a0 = 43) → ((a0 = 45 → P ((5 : Int32)) I J T) ∧ (¬ (a0 = 45) → ((a0 = 47 → P ((6 : Int32)) I J T) ∧ (¬ (a0 = 47) → ((a0 = 60 → P ((4 : Int32)) I J T) ∧ (¬ (a0 = 60) → ((a0 = 61 → P ((4 : Int32)) I J T) ∧ (¬ (a0 = 61) → ((a0 = 62 → P ((4 : Int32)) I J T) ∧ (¬ (a0 = 62) → P ((0 : Int32)) I J T))))))))))))))))))))
set_option maxRecDepth 20000 in
theorem tp_X7_bindingOf {d : Nat} {a0 : Int32} {I : Nat → Nat → Int32} {J : Nat → Nat → Int64} {T : Option Nat} {P : Int32 → (Nat → Nat → Int32) → (Nat → Nat → Int64) → Option Nat → Prop} {Q : ix_Q} (h : wp_X7_bindingOf a0 I J T P) (hQ : ∀ v I J T, P v I J T → Q (some (.inl v)) (ix_mem 276 I J T)) : ix_C (d + 1) 120 [.inl (a0)] (ix_mem 276 I J T) Q := by
  unfold wp_X7_bindingOf at h
  refine ix_enter (ls := [some (.inl (a0))]) rfl rfl rfl (Nat.le_of_ble_eq_true rfl) ?_
  refine ix_go 1 (x' := (1, [some (.inl (a0))], [.inl (a0)], 0, 0, ix_mem 276 I J T)) rfl trivial ?_
  by_cases e1 : a0 = 6
  · have h2 := h.1 e1
    refine ix_sp rfl ⟨92, rfl, by rw [e1]; rfl, ?_⟩
    refine ix_go 1 (x' := (93, [some (.inl (a0))], [.inl ((1 : Int32))], 0, 0, ix_mem 276 I J T)) rfl trivial ?_
    exact ix_sp rfl ⟨Nat.le_refl _, Nat.le_refl _, trivial, hQ _ _ _ _ h2⟩
  · have h3 := h.2 e1
    by_cases e4 : a0 = 7
    · have h5 := h3.1 e4
      refine ix_sp rfl ⟨94, rfl, by rw [e4]; rfl, ?_⟩
      refine ix_go 1 (x' := (95, [some (.inl (a0))], [.inl ((2 : Int32))], 0, 0, ix_mem 276 I J T)) rfl trivial ?_
      exact ix_sp rfl ⟨Nat.le_refl _, Nat.le_refl _, trivial, hQ _ _ _ _ h5⟩
    · have h6 := h3.2 e4
      by_cases e7 : a0 = 8
      · have h8 := h6.1 e7
        refine ix_sp rfl ⟨96, rfl, by rw [e7]; rfl, ?_⟩
        refine ix_go 1 (x' := (97, [some (.inl (a0))], [.inl ((3 : Int32))], 0, 0, ix_mem 276 I J T)) rfl trivial ?_
        exact ix_sp rfl ⟨Nat.le_refl _, Nat.le_refl _, trivial, hQ _ _ _ _ h8⟩
      · have h9 := h6.2 e7
        by_cases e10 : a0 = 42
        · have h11 := h9.1 e10
          refine ix_sp rfl ⟨102, rfl, by rw [e10]; rfl, ?_⟩
          refine ix_go 1 (x' := (104, [some (.inl (a0))], [.inl ((6 : Int32))], 0, 0, ix_mem 276 I J T)) rfl trivial ?_
          exact ix_sp rfl ⟨Nat.le_refl _, Nat.le_refl _, trivial, hQ _ _ _ _ h11⟩
        · have h12 := h9.2 e10
          by_cases e13 : a0 = 43
          · have h14 := h12.1 e13
            refine ix_sp rfl ⟨100, rfl, by rw [e13]; rfl, ?_⟩
            refine ix_go 1 (x' := (101, [some (.inl (a0))], [.inl ((5 : Int32))], 0, 0, ix_mem 276 I J T)) rfl trivial ?_
            exact ix_sp rfl ⟨Nat.le_refl _, Nat.le_refl _, trivial, hQ _ _ _ _ h14⟩
          · have h15 := h12.2 e13
            by_cases e16 : a0 = 45
            · have h17 := h15.1 e16
              refine ix_sp rfl ⟨100, rfl, by rw [e16]; rfl, ?_⟩
              refine ix_go 1 (x' := (101, [some (.inl (a0))], [.inl ((5 : Int32))], 0, 0, ix_mem 276 I J T)) rfl trivial ?_
              exact ix_sp rfl ⟨Nat.le_refl _, Nat.le_refl _, trivial, hQ _ _ _ _ h17⟩
            · have h18 := h15.2 e16
              by_cases e19 : a0 = 47
              · have h20 := h18.1 e19
                refine ix_sp rfl ⟨102, rfl, by rw [e19]; rfl, ?_⟩
                refine ix_go 1 (x' := (104, [some (.inl (a0))], [.inl ((6 : Int32))], 0, 0, ix_mem 276 I J T)) rfl trivial ?_
                exact ix_sp rfl ⟨Nat.le_refl _, Nat.le_refl _, trivial, hQ _ _ _ _ h20⟩
              · have h21 := h18.2 e19
                by_cases e22 : a0 = 60
                · have h23 := h21.1 e22
                  refine ix_sp rfl ⟨98, rfl, by rw [e22]; rfl, ?_⟩
                  refine ix_go 1 (x' := (99, [some (.inl (a0))], [.inl ((4 : Int32))], 0, 0, ix_mem 276 I J T)) rfl trivial ?_
                  exact ix_sp rfl ⟨Nat.le_refl _, Nat.le_refl _, trivial, hQ _ _ _ _ h23⟩
                · have h24 := h21.2 e22
                  by_cases e25 : a0 = 61
                  · have h26 := h24.1 e25
                    refine ix_sp rfl ⟨98, rfl, by rw [e25]; rfl, ?_⟩
                    refine ix_go 1 (x' := (99, [some (.inl (a0))], [.inl ((4 : Int32))], 0, 0, ix_mem 276 I J T)) rfl trivial ?_
                    exact ix_sp rfl ⟨Nat.le_refl _, Nat.le_refl _, trivial, hQ _ _ _ _ h26⟩
                  · have h27 := h24.2 e25
                    by_cases e28 : a0 = 62
                    · have h29 := h27.1 e28
                      refine ix_sp rfl ⟨98, rfl, by rw [e28]; rfl, ?_⟩
                      refine ix_go 1 (x' := (99, [some (.inl (a0))], [.inl ((4 : Int32))], 0, 0, ix_mem 276 I J T)) rfl trivial ?_
                      exact ix_sp rfl ⟨Nat.le_refl _, Nat.le_refl _, trivial, hQ _ _ _ _ h29⟩
                    · have h30 := h27.2 e28
                      refine ix_sp rfl ⟨105, rfl, ix_lkd (p := 0) (ix_lkc e1 (ix_lkc e4 (ix_lkc e7 (ix_lkc e10 (ix_lkc e13 (ix_lkc e16 (ix_lkc e19 (ix_lkc e22 (ix_lkc e25 (ix_lkc e28 (fun q h => absurd h List.not_mem_nil))))))))))), ?_⟩
                      refine ix_go 1 (x' := (106, [some (.inl (a0))], [.inl ((0 : Int32))], 0, 0, ix_mem 276 I J T)) rfl trivial ?_
                      exact ix_sp rfl ⟨Nat.le_refl _, Nat.le_refl _, trivial, hQ _ _ _ _ h30⟩
def wb_X7_unwind_0 (x1 : Int32) (I : Nat → Nat → Int32) (J : Nat → Nat → Int64) (T : Option Nat) (V0 : Int32 → (Nat → Nat → Int32) → (Nat → Nat → Int64) → Option Nat → Prop) (P : (Nat → Nat → Int32) → (Nat → Nat → Int64) → Option Nat → Prop) : Prop := ((I 44 15 ≤ 0 → P I J T) ∧ (¬ (I 44 15 ≤ 0) → ix_inb ((I 44 15) - ((1 : Int32))) 48 = true ∧ wp_X7_bindingOf (I 50 ((I 44 15) - ((1 : Int32))).toNatClampNeg) I J T (fun v5 I5 J5 T5 => ((v5 < x1 → P I5 J5 T5) ∧ (¬ (v5 < x1) → ix_tn T5 ∧ ((T5 = some 59 → ix_inb (((I5 44 15) - ((1 : Int32)))) 48 = true ∧ wp_X9_emit_59 (((-1 : Int32)) - (I5 50 (((I5 44 15) - ((1 : Int32)))).toNatClampNeg)) (ix_u2 I5 44 15 ((I5 44 15) - ((1 : Int32)))) J5 (some 59) (fun I13 J13 T13 => V0 (x1) I13 J13 T13)) ∧ (T5 = some 68 → ix_inb (((I5 44 15) - ((1 : Int32)))) 48 = true ∧ wp_X9_emit_68 (((-1 : Int32)) - (I5 50 (((I5 44 15) - ((1 : Int32)))).toNatClampNeg)) (ix_u2 I5 44 15 ((I5 44 15) - ((1 : Int32)))) J5 (some 68) (fun I16 J16 T16 => V0 (x1) I16 J16 T16)) ∧ (T5 = some 77 → ix_inb (((I5 44 15) - ((1 : Int32)))) 48 = true ∧ wp_X9_emit_77 (((-1 : Int32)) - (I5 50 (((I5 44 15) - ((1 : Int32)))).toNatClampNeg)) (ix_u2 I5 44 15 ((I5 44 15) - ((1 : Int32)))) J5 (some 77) (fun I19 J19 T19 => V0 (x1) I19 J19 T19)) ∧ (T5 = some 86 → ix_inb (((I5 44 15) - ((1 : Int32)))) 48 = true ∧ wp_X9_emit_86 (((-1 : Int32)) - (I5 50 (((I5 44 15) - ((1 : Int32)))).toNatClampNeg)) (ix_u2 I5 44 15 ((I5 44 15) - ((1 : Int32)))) J5 (some 86) (fun I22 J22 T22 => V0 (x1) I22 J22 T22))))))))
def wl_X7_unwind_0 (x1 : Int32) (I : Nat → Nat → Int32) (J : Nat → Nat → Int64) (T : Option Nat) (P : (Nat → Nat → Int32) → (Nat → Nat → Int64) → Option Nat → Prop) : Prop := ∀ V : Int32 → (Nat → Nat → Int32) → (Nat → Nat → Int64) → Option Nat → Prop, (∀ (x1 : Int32) (I : Nat → Nat → Int32) (J : Nat → Nat → Int64) (T : Option Nat), wb_X7_unwind_0 x1 I J T V P → V x1 I J T) → V x1 I J T
set_option maxRecDepth 20000 in
theorem tl_X7_unwind_0 {d : Nat} {x1 : Int32} {I : Nat → Nat → Int32} {J : Nat → Nat → Int64} {T : Option Nat} {P : (Nat → Nat → Int32) → (Nat → Nat → Int64) → Option Nat → Prop} {Q : ix_Q} (h : wl_X7_unwind_0 x1 I J T P) (hQ : ∀ I J T, P I J T → Q none (ix_mem 276 I J T)) : ix_W (ix_C (d + 1)) (7, ix_lk ix_l121, none, 0, 0, Nat.blt 0 0, none) Q (0, [some (.inr (.inr (.inl (some (44))))), some (.inl (x1))], [], 0, 0, ix_mem 276 I J T) := by
  refine h (fun x1 I J T => ix_W (ix_C (d + 1)) (7, ix_lk ix_l121, none, 0, 0, Nat.blt 0 0, none) Q (0, [some (.inr (.inr (.inl (some (44))))), some (.inl (x1))], [], 0, 0, ix_mem 276 I J T)) ?_
  intro x1 I J T hb
  unfold wb_X7_unwind_0 at hb
  refine ix_go 3 (x' := (if I 44 15 ≤ 0 then 56 else 7, [some (.inr (.inr (.inl (some (44))))), some (.inl (x1))], [], 0, 0, ix_mem 276 I J T)) rfl ⟨rfl, rfl⟩ ?_
  refine ix_br (fun c1 => ?_) (fun c1 => ?_)
  · have h2 := hb.1 c1
    exact ix_sp rfl ⟨Nat.le_refl _, Nat.le_refl _, rfl, hQ _ _ _ h2⟩
  · have h2 := hb.2 c1
    obtain ⟨p3, h4⟩ := h2
    refine ix_go 7 (x' := (18, [some (.inr (.inr (.inl (some (44))))), some (.inl (x1))], [.inl (I 50 ((I 44 15) - ((1 : Int32))).toNatClampNeg)], 0, 0, ix_mem 276 I J T)) rfl ⟨rfl, rfl, rfl, rfl, rfl, rfl, p3⟩ ?_
    refine ix_sp rfl ⟨rfl, trivial, ix_le rfl, Nat.le_refl _, Nat.le_refl _, tp_X7_bindingOf h4 (fun v5 I5 J5 T5 h5 => ?_)⟩
    change ix_W _ _ _ (21, [some (.inr (.inr (.inl (some (44))))), some (.inl (x1))], [.inl (v5)], 0, 0, ix_mem 276 I5 J5 T5)
    refine ix_go 2 (x' := (if v5 < x1 then 56 else 25, [some (.inr (.inr (.inl (some (44))))), some (.inl (x1))], [], 0, 0, ix_mem 276 I5 J5 T5)) rfl trivial ?_
    refine ix_br (fun c6 => ?_) (fun c6 => ?_)
    · have h7 := h5.1 c6
      exact ix_sp rfl ⟨Nat.le_refl _, Nat.le_refl _, rfl, hQ _ _ _ h7⟩
    · have h7 := h5.2 c6
      refine ix_go 8 (x' := (39, [some (.inr (.inr (.inl (some (44))))), some (.inl (x1))], [.inr (.inr (.inl (T5)))], 0, 0, ix_mem 276 (ix_u2 I5 44 15 ((I5 44 15) - ((1 : Int32)))) J5 T5)) rfl ⟨rfl, rfl, rfl, rfl, rfl, rfl⟩ ?_
      obtain ⟨q8, h9⟩ := h7
      rcases q8 with e | e | e | e
      · subst e
        have h10 := h9.1 rfl
        obtain ⟨p11, h12⟩ := h10
        refine ix_go 7 (x' := (50, [some (.inr (.inr (.inl (some (44))))), some (.inl (x1))], [.inl (((-1 : Int32)) - (I5 50 (((I5 44 15) - ((1 : Int32)))).toNatClampNeg)), .inr (.inr (.inl (some (59))))], 0, 0, ix_mem 276 (ix_u2 I5 44 15 ((I5 44 15) - ((1 : Int32)))) J5 (some 59))) rfl ⟨rfl, rfl, rfl, rfl, rfl, rfl, p11⟩ ?_
        refine ix_sp rfl ⟨rfl, ⟨ix_lt rfl, ix_eq rfl, ix_lt rfl⟩, ix_le rfl, Nat.le_refl _, Nat.le_refl _, tp_X9_emit_59 h12 (fun I13 J13 T13 h13 => ?_)⟩
        change ix_W _ _ _ (53, [some (.inr (.inr (.inl (some (44))))), some (.inl (x1))], [], 0, 0, ix_mem 276 I13 J13 T13)
        refine ix_go 1 (x' := (0, [some (.inr (.inr (.inl (some (44))))), some (.inl (x1))], [], 0, 0, ix_mem 276 I13 J13 T13)) rfl trivial ?_
        refine ix_subW ([some (.inr (.inr (.inl (some (44))))), some (.inl (x1))]) (ix_subS (ix_subS (ix_sub0))) ?_
        exact h13
      · subst e
        have h10 := h9.2.1 rfl
        obtain ⟨p14, h15⟩ := h10
        refine ix_go 7 (x' := (50, [some (.inr (.inr (.inl (some (44))))), some (.inl (x1))], [.inl (((-1 : Int32)) - (I5 50 (((I5 44 15) - ((1 : Int32)))).toNatClampNeg)), .inr (.inr (.inl (some (68))))], 0, 0, ix_mem 276 (ix_u2 I5 44 15 ((I5 44 15) - ((1 : Int32)))) J5 (some 68))) rfl ⟨rfl, rfl, rfl, rfl, rfl, rfl, p14⟩ ?_
        refine ix_sp rfl ⟨rfl, ⟨ix_lt rfl, ix_eq rfl, ix_lt rfl⟩, ix_le rfl, Nat.le_refl _, Nat.le_refl _, tp_X9_emit_68 h15 (fun I16 J16 T16 h16 => ?_)⟩
        change ix_W _ _ _ (53, [some (.inr (.inr (.inl (some (44))))), some (.inl (x1))], [], 0, 0, ix_mem 276 I16 J16 T16)
        refine ix_go 1 (x' := (0, [some (.inr (.inr (.inl (some (44))))), some (.inl (x1))], [], 0, 0, ix_mem 276 I16 J16 T16)) rfl trivial ?_
        refine ix_subW ([some (.inr (.inr (.inl (some (44))))), some (.inl (x1))]) (ix_subS (ix_subS (ix_sub0))) ?_
        exact h16
      · subst e
        have h10 := h9.2.2.1 rfl
        obtain ⟨p17, h18⟩ := h10
        refine ix_go 7 (x' := (50, [some (.inr (.inr (.inl (some (44))))), some (.inl (x1))], [.inl (((-1 : Int32)) - (I5 50 (((I5 44 15) - ((1 : Int32)))).toNatClampNeg)), .inr (.inr (.inl (some (77))))], 0, 0, ix_mem 276 (ix_u2 I5 44 15 ((I5 44 15) - ((1 : Int32)))) J5 (some 77))) rfl ⟨rfl, rfl, rfl, rfl, rfl, rfl, p17⟩ ?_
        refine ix_sp rfl ⟨rfl, ⟨ix_lt rfl, ix_eq rfl, ix_lt rfl⟩, ix_le rfl, Nat.le_refl _, Nat.le_refl _, tp_X9_emit_77 h18 (fun I19 J19 T19 h19 => ?_)⟩
        change ix_W _ _ _ (53, [some (.inr (.inr (.inl (some (44))))), some (.inl (x1))], [], 0, 0, ix_mem 276 I19 J19 T19)
        refine ix_go 1 (x' := (0, [some (.inr (.inr (.inl (some (44))))), some (.inl (x1))], [], 0, 0, ix_mem 276 I19 J19 T19)) rfl trivial ?_
        refine ix_subW ([some (.inr (.inr (.inl (some (44))))), some (.inl (x1))]) (ix_subS (ix_subS (ix_sub0))) ?_
        exact h19
      · subst e
        have h10 := h9.2.2.2 rfl
        obtain ⟨p20, h21⟩ := h10
        refine ix_go 7 (x' := (50, [some (.inr (.inr (.inl (some (44))))), some (.inl (x1))], [.inl (((-1 : Int32)) - (I5 50 (((I5 44 15) - ((1 : Int32)))).toNatClampNeg)), .inr (.inr (.inl (some (86))))], 0, 0, ix_mem 276 (ix_u2 I5 44 15 ((I5 44 15) - ((1 : Int32)))) J5 (some 86))) rfl ⟨rfl, rfl, rfl, rfl, rfl, rfl, p20⟩ ?_
        refine ix_sp rfl ⟨rfl, ⟨ix_lt rfl, ix_eq rfl, ix_lt rfl⟩, ix_le rfl, Nat.le_refl _, Nat.le_refl _, tp_X9_emit_86 h21 (fun I22 J22 T22 h22 => ?_)⟩
        change ix_W _ _ _ (53, [some (.inr (.inr (.inl (some (44))))), some (.inl (x1))], [], 0, 0, ix_mem 276 I22 J22 T22)
        refine ix_go 1 (x' := (0, [some (.inr (.inr (.inl (some (44))))), some (.inl (x1))], [], 0, 0, ix_mem 276 I22 J22 T22)) rfl trivial ?_
        refine ix_subW ([some (.inr (.inr (.inl (some (44))))), some (.inl (x1))]) (ix_subS (ix_subS (ix_sub0))) ?_
        exact h22
def wp_X7_unwind (a0 : Int32) (I : Nat → Nat → Int32) (J : Nat → Nat → Int64) (T : Option Nat) (P : (Nat → Nat → Int32) → (Nat → Nat → Int64) → Option Nat → Prop) : Prop := wl_X7_unwind_0 (a0) I J T P
set_option maxRecDepth 20000 in
theorem tp_X7_unwind {d : Nat} {a0 : Int32} {I : Nat → Nat → Int32} {J : Nat → Nat → Int64} {T : Option Nat} {P : (Nat → Nat → Int32) → (Nat → Nat → Int64) → Option Nat → Prop} {Q : ix_Q} (h : wp_X7_unwind a0 I J T P) (hQ : ∀ I J T, P I J T → Q none (ix_mem 276 I J T)) : ix_C (d + 2) 121 [.inr (.inr (.inl (some (44)))), .inl (a0)] (ix_mem 276 I J T) Q := by
  unfold wp_X7_unwind at h
  refine ix_enter (ls := [some (.inr (.inr (.inl (some (44))))), some (.inl (a0))]) rfl rfl rfl (Nat.le_of_ble_eq_true rfl) ?_
  refine ix_subW ([some (.inr (.inr (.inl (some (44))))), some (.inl (a0))]) (ix_subS (ix_subS (ix_sub0))) ?_
  exact tl_X7_unwind_0 h hQ
def wp_X7_joinBy (a0 : Int32) (a1 : Int32) (I : Nat → Nat → Int32) (J : Nat → Nat → Int64) (T : Option Nat) (P : (Nat → Nat → Int32) → (Nat → Nat → Int64) → Option Nat → Prop) : Prop := wp_X7_unwind (a0) I J T (fun I1 J1 T1 => wp_X7_hold (I1 44 9) I1 J1 T1 (fun I2 J2 T2 => wp_X7_step (ix_u2 (ix_u2 I2 44 17 (a1)) 44 18 ((1 : Int32))) J2 T2 (fun I3 J3 T3 => P I3 J3 T3)))
set_option maxRecDepth 20000 in
theorem tp_X7_joinBy {d : Nat} {a0 : Int32} {a1 : Int32} {I : Nat → Nat → Int32} {J : Nat → Nat → Int64} {T : Option Nat} {P : (Nat → Nat → Int32) → (Nat → Nat → Int64) → Option Nat → Prop} {Q : ix_Q} (h : wp_X7_joinBy a0 a1 I J T P) (hQ : ∀ I J T, P I J T → Q none (ix_mem 276 I J T)) : ix_C (d + 3) 122 [.inr (.inr (.inl (some (44)))), .inl (a0), .inl (a1)] (ix_mem 276 I J T) Q := by
  unfold wp_X7_joinBy at h
  refine ix_enter (ls := [some (.inr (.inr (.inl (some (44))))), some (.inl (a0)), some (.inl (a1))]) rfl rfl rfl (Nat.le_of_ble_eq_true rfl) ?_
  refine ix_go 2 (x' := (2, [some (.inr (.inr (.inl (some (44))))), some (.inl (a0)), some (.inl (a1))], [.inl (a0), .inr (.inr (.inl (some (44))))], 0, 0, ix_mem 276 I J T)) rfl trivial ?_
  refine ix_sp rfl ⟨rfl, ⟨ix_lt rfl, ix_eq rfl, ix_lt rfl⟩, ix_le rfl, Nat.le_refl _, Nat.le_refl _, tp_X7_unwind h (fun I1 J1 T1 h1 => ?_)⟩
  change ix_W _ _ _ (5, [some (.inr (.inr (.inl (some (44))))), some (.inl (a0)), some (.inl (a1))], [], 0, 0, ix_mem 276 I1 J1 T1)
  refine ix_go 3 (x' := (10, [some (.inr (.inr (.inl (some (44))))), some (.inl (a0)), some (.inl (a1))], [.inl (I1 44 9), .inr (.inr (.inl (some (44))))], 0, 0, ix_mem 276 I1 J1 T1)) rfl ⟨rfl, rfl⟩ ?_
  refine ix_sp rfl ⟨rfl, ⟨ix_lt rfl, ix_eq rfl, ix_lt rfl⟩, ix_le rfl, Nat.le_refl _, Nat.le_refl _, tp_X7_hold h1 (fun I2 J2 T2 h2 => ?_)⟩
  change ix_W _ _ _ (13, [some (.inr (.inr (.inl (some (44))))), some (.inl (a0)), some (.inl (a1))], [], 0, 0, ix_mem 276 I2 J2 T2)
  refine ix_go 7 (x' := (24, [some (.inr (.inr (.inl (some (44))))), some (.inl (a0)), some (.inl (a1))], [.inr (.inr (.inl (some (44))))], 0, 0, ix_mem 276 (ix_u2 (ix_u2 I2 44 17 (a1)) 44 18 ((1 : Int32))) J2 T2)) rfl ⟨rfl, rfl, rfl, rfl, rfl⟩ ?_
  refine ix_sp rfl ⟨rfl, ⟨ix_lt rfl, ix_eq rfl, ix_lt rfl⟩, ix_le rfl, Nat.le_refl _, Nat.le_refl _, tp_X7_step h2 (fun I3 J3 T3 h3 => ?_)⟩
  change ix_W _ _ _ (27, [some (.inr (.inr (.inl (some (44))))), some (.inl (a0)), some (.inl (a1))], [], 0, 0, ix_mem 276 I3 J3 T3)
  exact ix_sp rfl ⟨Nat.le_refl _, Nat.le_refl _, rfl, hQ _ _ _ h3⟩
def wp_X7_takeInBracket (I : Nat → Nat → Int32) (J : Nat → Nat → Int64) (T : Option Nat) (P : (Nat → Nat → Int32) → (Nat → Nat → Int64) → Option Nat → Prop) : Prop := wp_X7_unwind ((1 : Int32)) I J T (fun I1 J1 T1 => ((I1 44 15 ≤ 0 → wp_X7_blame ((2 : Int32)) I1 J1 T1 (fun I4 J4 T4 => P I4 J4 T4)) ∧ (¬ (I1 44 15 ≤ 0) → ix_inb ((I1 44 15) - ((1 : Int32))) 48 = true ∧ ((I1 50 ((I1 44 15) - ((1 : Int32))).toNatClampNeg ≤ (100 : Int32) → ((I1 50 ((I1 44 15) - ((1 : Int32))).toNatClampNeg = 0 → wp_X7_blame ((2 : Int32)) I1 J1 T1 (fun I11 J11 T11 => P I11 J11 T11)) ∧ (¬ (I1 50 ((I1 44 15) - ((1 : Int32))).toNatClampNeg = 0) → ((I1 44 9 = (41 : Int32) → ((I1 50 ((I1 44 15) - ((1 : Int32))).toNatClampNeg = (40 : Int32) → wp_X7_step (ix_u2 (ix_u2 I1 44 15 ((I1 44 15) - ((1 : Int32)))) 44 16 ((I1 44 16) - ((1 : Int32)))) J1 T1 (fun I16 J16 T16 => P I16 J16 T16)) ∧ (¬ (I1 50 ((I1 44 15) - ((1 : Int32))).toNatClampNeg = (40 : Int32)) → ix_tn T1 ∧ ((T1 = some 59 → wp_X9_emit_59 (((-1 : Int32)) - (I1 50 ((I1 44 15) - ((1 : Int32))).toNatClampNeg)) (ix_u2 (ix_u2 I1 44 15 ((I1 44 15) - ((1 : Int32)))) 44 16 ((I1 44 16) - ((1 : Int32)))) J1 (some 59) (fun I20 J20 T20 => wp_X7_step I20 J20 T20 (fun I21 J21 T21 => P I21 J21 T21))) ∧ (T1 = some 68 → wp_X9_emit_68 (((-1 : Int32)) - (I1 50 ((I1 44 15) - ((1 : Int32))).toNatClampNeg)) (ix_u2 (ix_u2 I1 44 15 ((I1 44 15) - ((1 : Int32)))) 44 16 ((I1 44 16) - ((1 : Int32)))) J1 (some 68) (fun I22 J22 T22 => wp_X7_step I22 J22 T22 (fun I23 J23 T23 => P I23 J23 T23))) ∧ (T1 = some 77 → wp_X9_emit_77 (((-1 : Int32)) - (I1 50 ((I1 44 15) - ((1 : Int32))).toNatClampNeg)) (ix_u2 (ix_u2 I1 44 15 ((I1 44 15) - ((1 : Int32)))) 44 16 ((I1 44 16) - ((1 : Int32)))) J1 (some 77) (fun I24 J24 T24 => wp_X7_step I24 J24 T24 (fun I25 J25 T25 => P I25 J25 T25))) ∧ (T1 = some 86 → wp_X9_emit_86 (((-1 : Int32)) - (I1 50 ((I1 44 15) - ((1 : Int32))).toNatClampNeg)) (ix_u2 (ix_u2 I1 44 15 ((I1 44 15) - ((1 : Int32)))) 44 16 ((I1 44 16) - ((1 : Int32)))) J1 (some 86) (fun I26 J26 T26 => wp_X7_step I26 J26 T26 (fun I27 J27 T27 => P I27 J27 T27))))))) ∧ (¬ (I1 44 9 = (41 : Int32)) → wp_X7_blame ((2 : Int32)) I1 J1 T1 (fun I28 J28 T28 => P I28 J28 T28)))))) ∧ (¬ (I1 50 ((I1 44 15) - ((1 : Int32))).toNatClampNeg ≤ (100 : Int32)) → ((I1 50 ((I1 44 15) - ((1 : Int32))).toNatClampNeg = 0 → wp_X7_blame ((2 : Int32)) I1 J1 T1 (fun I31 J31 T31 => P I31 J31 T31)) ∧ (¬ (I1 50 ((I1 44 15) - ((1 : Int32))).toNatClampNeg = 0) → ((I1 44 9 = (44 : Int32) → wp_X7_hold ((I1 50 ((I1 44 15) - ((1 : Int32))).toNatClampNeg) - ((100 : Int32))) (ix_u2 I1 44 15 ((I1 44 15) - ((1 : Int32)))) J1 T1 (fun I34 J34 T34 => wp_X7_step (ix_u2 I34 44 18 ((1 : Int32))) J34 T34 (fun I35 J35 T35 => P I35 J35 T35))) ∧ (¬ (I1 44 9 = (44 : Int32)) → wp_X7_blame ((2 : Int32)) I1 J1 T1 (fun I36 J36 T36 => P I36 J36 T36))))))))))
set_option maxRecDepth 20000 in
theorem tp_X7_takeInBracket {d : Nat} {I : Nat → Nat → Int32} {J : Nat → Nat → Int64} {T : Option Nat} {P : (Nat → Nat → Int32) → (Nat → Nat → Int64) → Option Nat → Prop} {Q : ix_Q} (h : wp_X7_takeInBracket I J T P) (hQ : ∀ I J T, P I J T → Q none (ix_mem 276 I J T)) : ix_C (d + 3) 123 [.inr (.inr (.inl (some (44))))] (ix_mem 276 I J T) Q := by
  unfold wp_X7_takeInBracket at h
  refine ix_enter (ls := [some (.inr (.inr (.inl (some (44))))), none, none]) rfl rfl rfl (Nat.le_of_ble_eq_true rfl) ?_
  refine ix_go 2 (x' := (2, [some (.inr (.inr (.inl (some (44))))), none, none], [.inl ((1 : Int32)), .inr (.inr (.inl (some (44))))], 0, 0, ix_mem 276 I J T)) rfl trivial ?_
  refine ix_sp rfl ⟨rfl, ⟨ix_lt rfl, ix_eq rfl, ix_lt rfl⟩, ix_le rfl, Nat.le_refl _, Nat.le_refl _, tp_X7_unwind h (fun I1 J1 T1 h1 => ?_)⟩
  change ix_W _ _ _ (5, [some (.inr (.inr (.inl (some (44))))), none, none], [], 0, 0, ix_mem 276 I1 J1 T1)
  refine ix_go 3 (x' := (if I1 44 15 ≤ 0 then 26 else 12, [some (.inr (.inr (.inl (some (44))))), none, none], [], 0, 0, ix_mem 276 I1 J1 T1)) rfl ⟨rfl, rfl⟩ ?_
  refine ix_br (fun c2 => ?_) (fun c2 => ?_)
  · have h3 := h1.1 c2
    refine ix_go 11 (x' := (64, [some (.inr (.inr (.inl (some (44))))), some (.inl ((0 : Int32))), some (.inl ((0 : Int32)))], [.inl ((2 : Int32)), .inr (.inr (.inl (some (44))))], 0, 0, ix_mem 276 I1 J1 T1)) rfl trivial ?_
    refine ix_sp rfl ⟨rfl, ⟨ix_lt rfl, ix_eq rfl, ix_lt rfl⟩, ix_le rfl, Nat.le_refl _, Nat.le_refl _, tp_X7_blame h3 (fun I4 J4 T4 h4 => ?_)⟩
    change ix_W _ _ _ (67, [some (.inr (.inr (.inl (some (44))))), some (.inl ((0 : Int32))), some (.inl ((0 : Int32)))], [], 0, 0, ix_mem 276 I4 J4 T4)
    exact ix_sp rfl ⟨Nat.le_refl _, Nat.le_refl _, rfl, hQ _ _ _ h4⟩
  · have h3 := h1.2 c2
    obtain ⟨p5, h6⟩ := h3
    refine ix_go 12 (x' := (if I1 50 ((I1 44 15) - ((1 : Int32))).toNatClampNeg ≤ (100 : Int32) then 38 else 34, [some (.inr (.inr (.inl (some (44))))), some (.inl (I1 50 ((I1 44 15) - ((1 : Int32))).toNatClampNeg)), none], [], 0, 0, ix_mem 276 I1 J1 T1)) rfl ⟨rfl, rfl, rfl, rfl, rfl, rfl, p5⟩ ?_
    refine ix_br (fun c7 => ?_) (fun c7 => ?_)
    · have h8 := h6.1 c7
      refine ix_go 4 (x' := (if I1 50 ((I1 44 15) - ((1 : Int32))).toNatClampNeg = 0 then 62 else 44, [some (.inr (.inr (.inl (some (44))))), some (.inl (I1 50 ((I1 44 15) - ((1 : Int32))).toNatClampNeg)), some (.inl ((0 : Int32)))], [], 0, 0, ix_mem 276 I1 J1 T1)) rfl trivial ?_
      refine ix_br (fun c9 => ?_) (fun c9 => ?_)
      · have h10 := h8.1 c9
        refine ix_go 2 (x' := (64, [some (.inr (.inr (.inl (some (44))))), some (.inl (I1 50 ((I1 44 15) - ((1 : Int32))).toNatClampNeg)), some (.inl ((0 : Int32)))], [.inl ((2 : Int32)), .inr (.inr (.inl (some (44))))], 0, 0, ix_mem 276 I1 J1 T1)) rfl trivial ?_
        refine ix_sp rfl ⟨rfl, ⟨ix_lt rfl, ix_eq rfl, ix_lt rfl⟩, ix_le rfl, Nat.le_refl _, Nat.le_refl _, tp_X7_blame h10 (fun I11 J11 T11 h11 => ?_)⟩
        change ix_W _ _ _ (67, [some (.inr (.inr (.inl (some (44))))), some (.inl (I1 50 ((I1 44 15) - ((1 : Int32))).toNatClampNeg)), some (.inl ((0 : Int32)))], [], 0, 0, ix_mem 276 I11 J11 T11)
        exact ix_sp rfl ⟨Nat.le_refl _, Nat.le_refl _, rfl, hQ _ _ _ h11⟩
      · have h10 := h8.2 c9
        refine ix_go 6 (x' := (if I1 44 9 = (41 : Int32) then 68 else 62, [some (.inr (.inr (.inl (some (44))))), some (.inl (I1 50 ((I1 44 15) - ((1 : Int32))).toNatClampNeg)), some (.inl ((0 : Int32)))], [], 0, 0, ix_mem 276 I1 J1 T1)) rfl ⟨rfl, rfl⟩ ?_
        refine ix_br (fun c12 => ?_) (fun c12 => ?_)
        · have h13 := h10.1 c12
          refine ix_go 17 (x' := (if I1 50 ((I1 44 15) - ((1 : Int32))).toNatClampNeg = (40 : Int32) then 124 else 114, [some (.inr (.inr (.inl (some (44))))), some (.inl (I1 50 ((I1 44 15) - ((1 : Int32))).toNatClampNeg)), some (.inl ((0 : Int32)))], [], 0, 0, ix_mem 276 (ix_u2 (ix_u2 I1 44 15 ((I1 44 15) - ((1 : Int32)))) 44 16 ((I1 44 16) - ((1 : Int32)))) J1 T1)) rfl ⟨rfl, rfl, rfl, rfl, rfl, rfl, rfl, rfl⟩ ?_
          refine ix_br (fun c14 => ?_) (fun c14 => ?_)
          · have h15 := h13.1 c14
            refine ix_go 1 (x' := (125, [some (.inr (.inr (.inl (some (44))))), some (.inl (I1 50 ((I1 44 15) - ((1 : Int32))).toNatClampNeg)), some (.inl ((0 : Int32)))], [.inr (.inr (.inl (some (44))))], 0, 0, ix_mem 276 (ix_u2 (ix_u2 I1 44 15 ((I1 44 15) - ((1 : Int32)))) 44 16 ((I1 44 16) - ((1 : Int32)))) J1 T1)) rfl trivial ?_
            refine ix_sp rfl ⟨rfl, ⟨ix_lt rfl, ix_eq rfl, ix_lt rfl⟩, ix_le rfl, Nat.le_refl _, Nat.le_refl _, tp_X7_step h15 (fun I16 J16 T16 h16 => ?_)⟩
            change ix_W _ _ _ (128, [some (.inr (.inr (.inl (some (44))))), some (.inl (I1 50 ((I1 44 15) - ((1 : Int32))).toNatClampNeg)), some (.inl ((0 : Int32)))], [], 0, 0, ix_mem 276 I16 J16 T16)
            exact ix_sp rfl ⟨Nat.le_refl _, Nat.le_refl _, rfl, hQ _ _ _ h16⟩
          · have h15 := h13.2 c14
            refine ix_go 2 (x' := (118, [some (.inr (.inr (.inl (some (44))))), some (.inl (I1 50 ((I1 44 15) - ((1 : Int32))).toNatClampNeg)), some (.inl ((0 : Int32)))], [.inr (.inr (.inl (T1)))], 0, 0, ix_mem 276 (ix_u2 (ix_u2 I1 44 15 ((I1 44 15) - ((1 : Int32)))) 44 16 ((I1 44 16) - ((1 : Int32)))) J1 T1)) rfl ⟨rfl, rfl⟩ ?_
            obtain ⟨q17, h18⟩ := h15
            rcases q17 with e | e | e | e
            · subst e
              have h19 := h18.1 rfl
              refine ix_go 3 (x' := (121, [some (.inr (.inr (.inl (some (44))))), some (.inl (I1 50 ((I1 44 15) - ((1 : Int32))).toNatClampNeg)), some (.inl ((0 : Int32)))], [.inl (((-1 : Int32)) - (I1 50 ((I1 44 15) - ((1 : Int32))).toNatClampNeg)), .inr (.inr (.inl (some (59))))], 0, 0, ix_mem 276 (ix_u2 (ix_u2 I1 44 15 ((I1 44 15) - ((1 : Int32)))) 44 16 ((I1 44 16) - ((1 : Int32)))) J1 (some 59))) rfl trivial ?_
              refine ix_sp rfl ⟨rfl, ⟨ix_lt rfl, ix_eq rfl, ix_lt rfl⟩, ix_le rfl, Nat.le_refl _, Nat.le_refl _, tp_X9_emit_59 h19 (fun I20 J20 T20 h20 => ?_)⟩
              change ix_W _ _ _ (124, [some (.inr (.inr (.inl (some (44))))), some (.inl (I1 50 ((I1 44 15) - ((1 : Int32))).toNatClampNeg)), some (.inl ((0 : Int32)))], [], 0, 0, ix_mem 276 I20 J20 T20)
              refine ix_go 1 (x' := (125, [some (.inr (.inr (.inl (some (44))))), some (.inl (I1 50 ((I1 44 15) - ((1 : Int32))).toNatClampNeg)), some (.inl ((0 : Int32)))], [.inr (.inr (.inl (some (44))))], 0, 0, ix_mem 276 I20 J20 T20)) rfl trivial ?_
              refine ix_sp rfl ⟨rfl, ⟨ix_lt rfl, ix_eq rfl, ix_lt rfl⟩, ix_le rfl, Nat.le_refl _, Nat.le_refl _, tp_X7_step h20 (fun I21 J21 T21 h21 => ?_)⟩
              change ix_W _ _ _ (128, [some (.inr (.inr (.inl (some (44))))), some (.inl (I1 50 ((I1 44 15) - ((1 : Int32))).toNatClampNeg)), some (.inl ((0 : Int32)))], [], 0, 0, ix_mem 276 I21 J21 T21)
              exact ix_sp rfl ⟨Nat.le_refl _, Nat.le_refl _, rfl, hQ _ _ _ h21⟩
            · subst e
              have h19 := h18.2.1 rfl
              refine ix_go 3 (x' := (121, [some (.inr (.inr (.inl (some (44))))), some (.inl (I1 50 ((I1 44 15) - ((1 : Int32))).toNatClampNeg)), some (.inl ((0 : Int32)))], [.inl (((-1 : Int32)) - (I1 50 ((I1 44 15) - ((1 : Int32))).toNatClampNeg)), .inr (.inr (.inl (some (68))))], 0, 0, ix_mem 276 (ix_u2 (ix_u2 I1 44 15 ((I1 44 15) - ((1 : Int32)))) 44 16 ((I1 44 16) - ((1 : Int32)))) J1 (some 68))) rfl trivial ?_
              refine ix_sp rfl ⟨rfl, ⟨ix_lt rfl, ix_eq rfl, ix_lt rfl⟩, ix_le rfl, Nat.le_refl _, Nat.le_refl _, tp_X9_emit_68 h19 (fun I22 J22 T22 h22 => ?_)⟩
              change ix_W _ _ _ (124, [some (.inr (.inr (.inl (some (44))))), some (.inl (I1 50 ((I1 44 15) - ((1 : Int32))).toNatClampNeg)), some (.inl ((0 : Int32)))], [], 0, 0, ix_mem 276 I22 J22 T22)
              refine ix_go 1 (x' := (125, [some (.inr (.inr (.inl (some (44))))), some (.inl (I1 50 ((I1 44 15) - ((1 : Int32))).toNatClampNeg)), some (.inl ((0 : Int32)))], [.inr (.inr (.inl (some (44))))], 0, 0, ix_mem 276 I22 J22 T22)) rfl trivial ?_
              refine ix_sp rfl ⟨rfl, ⟨ix_lt rfl, ix_eq rfl, ix_lt rfl⟩, ix_le rfl, Nat.le_refl _, Nat.le_refl _, tp_X7_step h22 (fun I23 J23 T23 h23 => ?_)⟩
              change ix_W _ _ _ (128, [some (.inr (.inr (.inl (some (44))))), some (.inl (I1 50 ((I1 44 15) - ((1 : Int32))).toNatClampNeg)), some (.inl ((0 : Int32)))], [], 0, 0, ix_mem 276 I23 J23 T23)
              exact ix_sp rfl ⟨Nat.le_refl _, Nat.le_refl _, rfl, hQ _ _ _ h23⟩
            · subst e
              have h19 := h18.2.2.1 rfl
              refine ix_go 3 (x' := (121, [some (.inr (.inr (.inl (some (44))))), some (.inl (I1 50 ((I1 44 15) - ((1 : Int32))).toNatClampNeg)), some (.inl ((0 : Int32)))], [.inl (((-1 : Int32)) - (I1 50 ((I1 44 15) - ((1 : Int32))).toNatClampNeg)), .inr (.inr (.inl (some (77))))], 0, 0, ix_mem 276 (ix_u2 (ix_u2 I1 44 15 ((I1 44 15) - ((1 : Int32)))) 44 16 ((I1 44 16) - ((1 : Int32)))) J1 (some 77))) rfl trivial ?_
              refine ix_sp rfl ⟨rfl, ⟨ix_lt rfl, ix_eq rfl, ix_lt rfl⟩, ix_le rfl, Nat.le_refl _, Nat.le_refl _, tp_X9_emit_77 h19 (fun I24 J24 T24 h24 => ?_)⟩
              change ix_W _ _ _ (124, [some (.inr (.inr (.inl (some (44))))), some (.inl (I1 50 ((I1 44 15) - ((1 : Int32))).toNatClampNeg)), some (.inl ((0 : Int32)))], [], 0, 0, ix_mem 276 I24 J24 T24)
              refine ix_go 1 (x' := (125, [some (.inr (.inr (.inl (some (44))))), some (.inl (I1 50 ((I1 44 15) - ((1 : Int32))).toNatClampNeg)), some (.inl ((0 : Int32)))], [.inr (.inr (.inl (some (44))))], 0, 0, ix_mem 276 I24 J24 T24)) rfl trivial ?_
              refine ix_sp rfl ⟨rfl, ⟨ix_lt rfl, ix_eq rfl, ix_lt rfl⟩, ix_le rfl, Nat.le_refl _, Nat.le_refl _, tp_X7_step h24 (fun I25 J25 T25 h25 => ?_)⟩
              change ix_W _ _ _ (128, [some (.inr (.inr (.inl (some (44))))), some (.inl (I1 50 ((I1 44 15) - ((1 : Int32))).toNatClampNeg)), some (.inl ((0 : Int32)))], [], 0, 0, ix_mem 276 I25 J25 T25)
              exact ix_sp rfl ⟨Nat.le_refl _, Nat.le_refl _, rfl, hQ _ _ _ h25⟩
            · subst e
              have h19 := h18.2.2.2 rfl
              refine ix_go 3 (x' := (121, [some (.inr (.inr (.inl (some (44))))), some (.inl (I1 50 ((I1 44 15) - ((1 : Int32))).toNatClampNeg)), some (.inl ((0 : Int32)))], [.inl (((-1 : Int32)) - (I1 50 ((I1 44 15) - ((1 : Int32))).toNatClampNeg)), .inr (.inr (.inl (some (86))))], 0, 0, ix_mem 276 (ix_u2 (ix_u2 I1 44 15 ((I1 44 15) - ((1 : Int32)))) 44 16 ((I1 44 16) - ((1 : Int32)))) J1 (some 86))) rfl trivial ?_
              refine ix_sp rfl ⟨rfl, ⟨ix_lt rfl, ix_eq rfl, ix_lt rfl⟩, ix_le rfl, Nat.le_refl _, Nat.le_refl _, tp_X9_emit_86 h19 (fun I26 J26 T26 h26 => ?_)⟩
              change ix_W _ _ _ (124, [some (.inr (.inr (.inl (some (44))))), some (.inl (I1 50 ((I1 44 15) - ((1 : Int32))).toNatClampNeg)), some (.inl ((0 : Int32)))], [], 0, 0, ix_mem 276 I26 J26 T26)
              refine ix_go 1 (x' := (125, [some (.inr (.inr (.inl (some (44))))), some (.inl (I1 50 ((I1 44 15) - ((1 : Int32))).toNatClampNeg)), some (.inl ((0 : Int32)))], [.inr (.inr (.inl (some (44))))], 0, 0, ix_mem 276 I26 J26 T26)) rfl trivial ?_
              refine ix_sp rfl ⟨rfl, ⟨ix_lt rfl, ix_eq rfl, ix_lt rfl⟩, ix_le rfl, Nat.le_refl _, Nat.le_refl _, tp_X7_step h26 (fun I27 J27 T27 h27 => ?_)⟩
              change ix_W _ _ _ (128, [some (.inr (.inr (.inl (some (44))))), some (.inl (I1 50 ((I1 44 15) - ((1 : Int32))).toNatClampNeg)), some (.inl ((0 : Int32)))], [], 0, 0, ix_mem 276 I27 J27 T27)
              exact ix_sp rfl ⟨Nat.le_refl _, Nat.le_refl _, rfl, hQ _ _ _ h27⟩
        · have h13 := h10.2 c12
          refine ix_go 2 (x' := (64, [some (.inr (.inr (.inl (some (44))))), some (.inl (I1 50 ((I1 44 15) - ((1 : Int32))).toNatClampNeg)), some (.inl ((0 : Int32)))], [.inl ((2 : Int32)), .inr (.inr (.inl (some (44))))], 0, 0, ix_mem 276 I1 J1 T1)) rfl trivial ?_
          refine ix_sp rfl ⟨rfl, ⟨ix_lt rfl, ix_eq rfl, ix_lt rfl⟩, ix_le rfl, Nat.le_refl _, Nat.le_refl _, tp_X7_blame h13 (fun I28 J28 T28 h28 => ?_)⟩
          change ix_W _ _ _ (67, [some (.inr (.inr (.inl (some (44))))), some (.inl (I1 50 ((I1 44 15) - ((1 : Int32))).toNatClampNeg)), some (.inl ((0 : Int32)))], [], 0, 0, ix_mem 276 I28 J28 T28)
          exact ix_sp rfl ⟨Nat.le_refl _, Nat.le_refl _, rfl, hQ _ _ _ h28⟩
    · have h8 := h6.2 c7
      refine ix_go 5 (x' := (if I1 50 ((I1 44 15) - ((1 : Int32))).toNatClampNeg = 0 then 62 else 44, [some (.inr (.inr (.inl (some (44))))), some (.inl (I1 50 ((I1 44 15) - ((1 : Int32))).toNatClampNeg)), some (.inl ((1 : Int32)))], [], 0, 0, ix_mem 276 I1 J1 T1)) rfl trivial ?_
      refine ix_br (fun c29 => ?_) (fun c29 => ?_)
      · have h30 := h8.1 c29
        refine ix_go 2 (x' := (64, [some (.inr (.inr (.inl (some (44))))), some (.inl (I1 50 ((I1 44 15) - ((1 : Int32))).toNatClampNeg)), some (.inl ((1 : Int32)))], [.inl ((2 : Int32)), .inr (.inr (.inl (some (44))))], 0, 0, ix_mem 276 I1 J1 T1)) rfl trivial ?_
        refine ix_sp rfl ⟨rfl, ⟨ix_lt rfl, ix_eq rfl, ix_lt rfl⟩, ix_le rfl, Nat.le_refl _, Nat.le_refl _, tp_X7_blame h30 (fun I31 J31 T31 h31 => ?_)⟩
        change ix_W _ _ _ (67, [some (.inr (.inr (.inl (some (44))))), some (.inl (I1 50 ((I1 44 15) - ((1 : Int32))).toNatClampNeg)), some (.inl ((1 : Int32)))], [], 0, 0, ix_mem 276 I31 J31 T31)
        exact ix_sp rfl ⟨Nat.le_refl _, Nat.le_refl _, rfl, hQ _ _ _ h31⟩
      · have h30 := h8.2 c29
        refine ix_go 7 (x' := (if I1 44 9 = (44 : Int32) then 68 else 62, [some (.inr (.inr (.inl (some (44))))), some (.inl (I1 50 ((I1 44 15) - ((1 : Int32))).toNatClampNeg)), some (.inl ((1 : Int32)))], [], 0, 0, ix_mem 276 I1 J1 T1)) rfl ⟨rfl, rfl⟩ ?_
        refine ix_br (fun c32 => ?_) (fun c32 => ?_)
        · have h33 := h30.1 c32
          refine ix_go 12 (x' := (87, [some (.inr (.inr (.inl (some (44))))), some (.inl (I1 50 ((I1 44 15) - ((1 : Int32))).toNatClampNeg)), some (.inl ((1 : Int32)))], [.inl ((I1 50 ((I1 44 15) - ((1 : Int32))).toNatClampNeg) - ((100 : Int32))), .inr (.inr (.inl (some (44))))], 0, 0, ix_mem 276 (ix_u2 I1 44 15 ((I1 44 15) - ((1 : Int32)))) J1 T1)) rfl ⟨rfl, rfl, rfl, rfl⟩ ?_
          refine ix_sp rfl ⟨rfl, ⟨ix_lt rfl, ix_eq rfl, ix_lt rfl⟩, ix_le rfl, Nat.le_refl _, Nat.le_refl _, tp_X7_hold h33 (fun I34 J34 T34 h34 => ?_)⟩
          change ix_W _ _ _ (90, [some (.inr (.inr (.inl (some (44))))), some (.inl (I1 50 ((I1 44 15) - ((1 : Int32))).toNatClampNeg)), some (.inl ((1 : Int32)))], [], 0, 0, ix_mem 276 I34 J34 T34)
          refine ix_go 5 (x' := (125, [some (.inr (.inr (.inl (some (44))))), some (.inl (I1 50 ((I1 44 15) - ((1 : Int32))).toNatClampNeg)), some (.inl ((1 : Int32)))], [.inr (.inr (.inl (some (44))))], 0, 0, ix_mem 276 (ix_u2 I34 44 18 ((1 : Int32))) J34 T34)) rfl ⟨rfl, rfl, rfl⟩ ?_
          refine ix_sp rfl ⟨rfl, ⟨ix_lt rfl, ix_eq rfl, ix_lt rfl⟩, ix_le rfl, Nat.le_refl _, Nat.le_refl _, tp_X7_step h34 (fun I35 J35 T35 h35 => ?_)⟩
          change ix_W _ _ _ (128, [some (.inr (.inr (.inl (some (44))))), some (.inl (I1 50 ((I1 44 15) - ((1 : Int32))).toNatClampNeg)), some (.inl ((1 : Int32)))], [], 0, 0, ix_mem 276 I35 J35 T35)
          exact ix_sp rfl ⟨Nat.le_refl _, Nat.le_refl _, rfl, hQ _ _ _ h35⟩
        · have h33 := h30.2 c32
          refine ix_go 2 (x' := (64, [some (.inr (.inr (.inl (some (44))))), some (.inl (I1 50 ((I1 44 15) - ((1 : Int32))).toNatClampNeg)), some (.inl ((1 : Int32)))], [.inl ((2 : Int32)), .inr (.inr (.inl (some (44))))], 0, 0, ix_mem 276 I1 J1 T1)) rfl trivial ?_
          refine ix_sp rfl ⟨rfl, ⟨ix_lt rfl, ix_eq rfl, ix_lt rfl⟩, ix_le rfl, Nat.le_refl _, Nat.le_refl _, tp_X7_blame h33 (fun I36 J36 T36 h36 => ?_)⟩
          change ix_W _ _ _ (67, [some (.inr (.inr (.inl (some (44))))), some (.inl (I1 50 ((I1 44 15) - ((1 : Int32))).toNatClampNeg)), some (.inl ((1 : Int32)))], [], 0, 0, ix_mem 276 I36 J36 T36)
          exact ix_sp rfl ⟨Nat.le_refl _, Nat.le_refl _, rfl, hQ _ _ _ h36⟩
def wj_X7_takeJoint_j87 (x1 : Int32) (I : Nat → Nat → Int32) (J : Nat → Nat → Int64) (T : Option Nat) (P : (Nat → Nat → Int32) → (Nat → Nat → Int64) → Option Nat → Prop) : Prop := wp_X7_joinBy (x1) ((0 : Int32)) I J T (fun I15 J15 T15 => P I15 J15 T15)
set_option maxRecDepth 20000 in
theorem tj_X7_takeJoint_j87 {d : Nat} {x1 : Int32} {I : Nat → Nat → Int32} {J : Nat → Nat → Int64} {T : Option Nat} {P : (Nat → Nat → Int32) → (Nat → Nat → Int64) → Option Nat → Prop} {Q : ix_Q} (h : wj_X7_takeJoint_j87 x1 I J T P) (hQ : ∀ I J T, P I J T → Q none (ix_mem 276 I J T)) : ix_W (ix_C (d + 3)) (7, ix_lk ix_l124, none, 0, 0, Nat.blt 0 0, none) Q (87, [some (.inr (.inr (.inl (some (44))))), some (.inl (x1))], [], 0, 0, ix_mem 276 I J T) := by
  unfold wj_X7_takeJoint_j87 at h
  refine ix_go 3 (x' := (90, [some (.inr (.inr (.inl (some (44))))), some (.inl (x1))], [.inl ((0 : Int32)), .inl (x1), .inr (.inr (.inl (some (44))))], 0, 0, ix_mem 276 I J T)) rfl trivial ?_
  refine ix_sp rfl ⟨rfl, ⟨ix_lt rfl, ix_eq rfl, ix_lt rfl⟩, ix_le rfl, Nat.le_refl _, Nat.le_refl _, tp_X7_joinBy h (fun I15 J15 T15 h15 => ?_)⟩
  change ix_W _ _ _ (93, [some (.inr (.inr (.inl (some (44))))), some (.inl (x1))], [], 0, 0, ix_mem 276 I15 J15 T15)
  refine ix_go 1 (x' := (147, [some (.inr (.inr (.inl (some (44))))), some (.inl (x1))], [], 0, 0, ix_mem 276 I15 J15 T15)) rfl trivial ?_
  exact ix_sp rfl ⟨Nat.le_refl _, Nat.le_refl _, rfl, hQ _ _ _ h15⟩
def wj_X7_takeJoint_j129 (I : Nat → Nat → Int32) (J : Nat → Nat → Int64) (T : Option Nat) (P : (Nat → Nat → Int32) → (Nat → Nat → Int64) → Option Nat → Prop) : Prop := wp_X7_unwind ((1 : Int32)) I J T (fun I22 J22 T22 => P (ix_u2 I22 44 17 ((4 : Int32))) J22 T22)
set_option maxRecDepth 20000 in
theorem tj_X7_takeJoint_j129 {d : Nat} {I : Nat → Nat → Int32} {J : Nat → Nat → Int64} {T : Option Nat} {P : (Nat → Nat → Int32) → (Nat → Nat → Int64) → Option Nat → Prop} {Q : ix_Q} (h : wj_X7_takeJoint_j129 I J T P) (hQ : ∀ I J T, P I J T → Q none (ix_mem 276 I J T)) : ix_W (ix_C (d + 2)) (7, ix_lk ix_l124, none, 0, 0, Nat.blt 0 0, none) Q (129, [some (.inr (.inr (.inl (some (44))))), none], [], 0, 0, ix_mem 276 I J T) := by
  unfold wj_X7_takeJoint_j129 at h
  refine ix_go 2 (x' := (131, [some (.inr (.inr (.inl (some (44))))), none], [.inl ((1 : Int32)), .inr (.inr (.inl (some (44))))], 0, 0, ix_mem 276 I J T)) rfl trivial ?_
  refine ix_sp rfl ⟨rfl, ⟨ix_lt rfl, ix_eq rfl, ix_lt rfl⟩, ix_le rfl, Nat.le_refl _, Nat.le_refl _, tp_X7_unwind h (fun I22 J22 T22 h22 => ?_)⟩
  change ix_W _ _ _ (134, [some (.inr (.inr (.inl (some (44))))), none], [], 0, 0, ix_mem 276 I22 J22 T22)
  refine ix_go 4 (x' := (147, [some (.inr (.inr (.inl (some (44))))), none], [], 0, 0, ix_mem 276 (ix_u2 I22 44 17 ((4 : Int32))) J22 T22)) rfl ⟨rfl, rfl⟩ ?_
  exact ix_sp rfl ⟨Nat.le_refl _, Nat.le_refl _, rfl, hQ _ _ _ h22⟩
def wj_X7_takeJoint_j142 (I : Nat → Nat → Int32) (J : Nat → Nat → Int64) (T : Option Nat) (P : (Nat → Nat → Int32) → (Nat → Nat → Int64) → Option Nat → Prop) : Prop := wp_X7_blame ((2 : Int32)) I J T (fun I27 J27 T27 => P I27 J27 T27)
set_option maxRecDepth 20000 in
theorem tj_X7_takeJoint_j142 {d : Nat} {I : Nat → Nat → Int32} {J : Nat → Nat → Int64} {T : Option Nat} {P : (Nat → Nat → Int32) → (Nat → Nat → Int64) → Option Nat → Prop} {Q : ix_Q} (h : wj_X7_takeJoint_j142 I J T P) (hQ : ∀ I J T, P I J T → Q none (ix_mem 276 I J T)) : ix_W (ix_C (d + 1)) (7, ix_lk ix_l124, none, 0, 0, Nat.blt 0 0, none) Q (142, [some (.inr (.inr (.inl (some (44))))), none], [], 0, 0, ix_mem 276 I J T) := by
  unfold wj_X7_takeJoint_j142 at h
  refine ix_go 2 (x' := (144, [some (.inr (.inr (.inl (some (44))))), none], [.inl ((2 : Int32)), .inr (.inr (.inl (some (44))))], 0, 0, ix_mem 276 I J T)) rfl trivial ?_
  refine ix_sp rfl ⟨rfl, ⟨ix_lt rfl, ix_eq rfl, ix_lt rfl⟩, ix_le rfl, Nat.le_refl _, Nat.le_refl _, tp_X7_blame h (fun I27 J27 T27 h27 => ?_)⟩
  change ix_W _ _ _ (147, [some (.inr (.inr (.inl (some (44))))), none], [], 0, 0, ix_mem 276 I27 J27 T27)
  exact ix_sp rfl ⟨Nat.le_refl _, Nat.le_refl _, rfl, hQ _ _ _ h27⟩
def wj_X7_takeJoint_j112 (I : Nat → Nat → Int32) (J : Nat → Nat → Int64) (T : Option Nat) (P : (Nat → Nat → Int32) → (Nat → Nat → Int64) → Option Nat → Prop) : Prop := ((I 44 17 = (3 : Int32) → ((I 44 9 = (59 : Int32) → wj_X7_takeJoint_j129 I J T P) ∧ (¬ (I 44 9 = (59 : Int32)) → wj_X7_takeJoint_j142 I J T P))) ∧ (¬ (I 44 17 = (3 : Int32)) → wj_X7_takeJoint_j142 I J T P))
set_option maxRecDepth 20000 in
theorem tj_X7_takeJoint_j112 {d : Nat} {I : Nat → Nat → Int32} {J : Nat → Nat → Int64} {T : Option Nat} {P : (Nat → Nat → Int32) → (Nat → Nat → Int64) → Option Nat → Prop} {Q : ix_Q} (h : wj_X7_takeJoint_j112 I J T P) (hQ : ∀ I J T, P I J T → Q none (ix_mem 276 I J T)) : ix_W (ix_C (d + 2)) (7, ix_lk ix_l124, none, 0, 0, Nat.blt 0 0, none) Q (112, [some (.inr (.inr (.inl (some (44))))), none], [], 0, 0, ix_mem 276 I J T) := by
  unfold wj_X7_takeJoint_j112 at h
  refine ix_go 4 (x' := (if I 44 17 = (3 : Int32) then 120 else 142, [some (.inr (.inr (.inl (some (44))))), none], [], 0, 0, ix_mem 276 I J T)) rfl ⟨rfl, rfl⟩ ?_
  refine ix_br (fun c23 => ?_) (fun c23 => ?_)
  · have h24 := h.1 c23
    refine ix_go 4 (x' := (if I 44 9 = (59 : Int32) then 129 else 142, [some (.inr (.inr (.inl (some (44))))), none], [], 0, 0, ix_mem 276 I J T)) rfl ⟨rfl, rfl⟩ ?_
    refine ix_br (fun c25 => ?_) (fun c25 => ?_)
    · have h26 := h24.1 c25
      refine ix_subW ([some (.inr (.inr (.inl (some (44))))), none]) (ix_subS (ix_subS (ix_sub0))) ?_
      exact tj_X7_takeJoint_j129 h26 hQ
    · have h26 := h24.2 c25
      refine ix_subW ([some (.inr (.inr (.inl (some (44))))), none]) (ix_subS (ix_subS (ix_sub0))) ?_
      exact tj_X7_takeJoint_j142 h26 hQ
  · have h24 := h.2 c23
    refine ix_subW ([some (.inr (.inr (.inl (some (44))))), none]) (ix_subS (ix_subS (ix_sub0))) ?_
    exact tj_X7_takeJoint_j142 h24 hQ
def wj_X7_takeJoint_j96 (I : Nat → Nat → Int32) (J : Nat → Nat → Int64) (T : Option Nat) (P : (Nat → Nat → Int32) → (Nat → Nat → Int64) → Option Nat → Prop) : Prop := ((I 44 17 = (2 : Int32) → ((I 44 9 = (5 : Int32) → wj_X7_takeJoint_j129 I J T P) ∧ (¬ (I 44 9 = (5 : Int32)) → wj_X7_takeJoint_j112 I J T P))) ∧ (¬ (I 44 17 = (2 : Int32)) → wj_X7_takeJoint_j112 I J T P))
set_option maxRecDepth 20000 in
theorem tj_X7_takeJoint_j96 {d : Nat} {I : Nat → Nat → Int32} {J : Nat → Nat → Int64} {T : Option Nat} {P : (Nat → Nat → Int32) → (Nat → Nat → Int64) → Option Nat → Prop} {Q : ix_Q} (h : wj_X7_takeJoint_j96 I J T P) (hQ : ∀ I J T, P I J T → Q none (ix_mem 276 I J T)) : ix_W (ix_C (d + 2)) (7, ix_lk ix_l124, none, 0, 0, Nat.blt 0 0, none) Q (96, [some (.inr (.inr (.inl (some (44))))), none], [], 0, 0, ix_mem 276 I J T) := by
  unfold wj_X7_takeJoint_j96 at h
  refine ix_go 4 (x' := (if I 44 17 = (2 : Int32) then 104 else 112, [some (.inr (.inr (.inl (some (44))))), none], [], 0, 0, ix_mem 276 I J T)) rfl ⟨rfl, rfl⟩ ?_
  refine ix_br (fun c18 => ?_) (fun c18 => ?_)
  · have h19 := h.1 c18
    refine ix_go 4 (x' := (if I 44 9 = (5 : Int32) then 129 else 112, [some (.inr (.inr (.inl (some (44))))), none], [], 0, 0, ix_mem 276 I J T)) rfl ⟨rfl, rfl⟩ ?_
    refine ix_br (fun c20 => ?_) (fun c20 => ?_)
    · have h21 := h19.1 c20
      refine ix_subW ([some (.inr (.inr (.inl (some (44))))), none]) (ix_subS (ix_subS (ix_sub0))) ?_
      exact tj_X7_takeJoint_j129 h21 hQ
    · have h21 := h19.2 c20
      refine ix_subW ([some (.inr (.inr (.inl (some (44))))), none]) (ix_subS (ix_subS (ix_sub0))) ?_
      exact tj_X7_takeJoint_j112 h21 hQ
  · have h19 := h.2 c18
    refine ix_subW ([some (.inr (.inr (.inl (some (44))))), none]) (ix_subS (ix_subS (ix_sub0))) ?_
    exact tj_X7_takeJoint_j112 h19 hQ
def wj_X7_takeJoint_j61 (x1 : Int32) (I : Nat → Nat → Int32) (J : Nat → Nat → Int64) (T : Option Nat) (P : (Nat → Nat → Int32) → (Nat → Nat → Int64) → Option Nat → Prop) : Prop := ((I 44 17 = (2 : Int32) → ((I 44 9 = (7 : Int32) → wj_X7_takeJoint_j87 (x1) I J T P) ∧ (¬ (I 44 9 = (7 : Int32)) → ((I 44 9 = (6 : Int32) → wj_X7_takeJoint_j87 (x1) I J T P) ∧ (¬ (I 44 9 = (6 : Int32)) → wj_X7_takeJoint_j96 I J T P))))) ∧ (¬ (I 44 17 = (2 : Int32)) → wj_X7_takeJoint_j96 I J T P))
set_option maxRecDepth 20000 in
theorem tj_X7_takeJoint_j61 {d : Nat} {x1 : Int32} {I : Nat → Nat → Int32} {J : Nat → Nat → Int64} {T : Option Nat} {P : (Nat → Nat → Int32) → (Nat → Nat → Int64) → Option Nat → Prop} {Q : ix_Q} (h : wj_X7_takeJoint_j61 x1 I J T P) (hQ : ∀ I J T, P I J T → Q none (ix_mem 276 I J T)) : ix_W (ix_C (d + 3)) (7, ix_lk ix_l124, none, 0, 0, Nat.blt 0 0, none) Q (61, [some (.inr (.inr (.inl (some (44))))), some (.inl (x1))], [], 0, 0, ix_mem 276 I J T) := by
  unfold wj_X7_takeJoint_j61 at h
  refine ix_go 4 (x' := (if I 44 17 = (2 : Int32) then 69 else 96, [some (.inr (.inr (.inl (some (44))))), some (.inl (x1))], [], 0, 0, ix_mem 276 I J T)) rfl ⟨rfl, rfl⟩ ?_
  refine ix_br (fun c11 => ?_) (fun c11 => ?_)
  · have h12 := h.1 c11
    refine ix_go 4 (x' := (if I 44 9 = (7 : Int32) then 87 else 78, [some (.inr (.inr (.inl (some (44))))), some (.inl (x1))], [], 0, 0, ix_mem 276 I J T)) rfl ⟨rfl, rfl⟩ ?_
    refine ix_br (fun c13 => ?_) (fun c13 => ?_)
    · have h14 := h12.1 c13
      refine ix_subW ([some (.inr (.inr (.inl (some (44))))), some (.inl (x1))]) (ix_subS (ix_subS (ix_sub0))) ?_
      exact tj_X7_takeJoint_j87 h14 hQ
    · have h14 := h12.2 c13
      refine ix_go 4 (x' := (if I 44 9 = (6 : Int32) then 87 else 96, [some (.inr (.inr (.inl (some (44))))), some (.inl (x1))], [], 0, 0, ix_mem 276 I J T)) rfl ⟨rfl, rfl⟩ ?_
      refine ix_br (fun c16 => ?_) (fun c16 => ?_)
      · have h17 := h14.1 c16
        refine ix_subW ([some (.inr (.inr (.inl (some (44))))), some (.inl (x1))]) (ix_subS (ix_subS (ix_sub0))) ?_
        exact tj_X7_takeJoint_j87 h17 hQ
      · have h17 := h14.2 c16
        refine ix_subW ([some (.inr (.inr (.inl (some (44))))), none]) (ix_subS (ix_subN (ix_sub0))) ?_
        exact tj_X7_takeJoint_j96 h17 hQ
  · have h12 := h.2 c11
    refine ix_subW ([some (.inr (.inr (.inl (some (44))))), none]) (ix_subS (ix_subN (ix_sub0))) ?_
    exact tj_X7_takeJoint_j96 h12 hQ
def wp_X7_takeJoint (I : Nat → Nat → Int32) (J : Nat → Nat → Int64) (T : Option Nat) (P : (Nat → Nat → Int32) → (Nat → Nat → Int64) → Option Nat → Prop) : Prop := wp_X7_bindingOf (I 44 9) I J T (fun v1 I1 J1 T1 => ((v1 < (5 : Int32) → ((I1 44 16 ≤ 0 → ((I1 44 17 = (1 : Int32) → ((v1 = (4 : Int32) → wp_X7_joinBy (v1) ((2 : Int32)) I1 J1 T1 (fun I10 J10 T10 => P I10 J10 T10)) ∧ (¬ (v1 = (4 : Int32)) → wj_X7_takeJoint_j61 (v1) I1 J1 T1 P))) ∧ (¬ (I1 44 17 = (1 : Int32)) → wj_X7_takeJoint_j61 (v1) I1 J1 T1 P))) ∧ (¬ (I1 44 16 ≤ 0) → wp_X7_takeInBracket I1 J1 T1 (fun I28 J28 T28 => P I28 J28 T28)))) ∧ (¬ (v1 < (5 : Int32)) → wp_X7_joinBy (v1) (I1 44 17) I1 J1 T1 (fun I29 J29 T29 => P I29 J29 T29))))
set_option maxRecDepth 20000 in
theorem tp_X7_takeJoint {d : Nat} {I : Nat → Nat → Int32} {J : Nat → Nat → Int64} {T : Option Nat} {P : (Nat → Nat → Int32) → (Nat → Nat → Int64) → Option Nat → Prop} {Q : ix_Q} (h : wp_X7_takeJoint I J T P) (hQ : ∀ I J T, P I J T → Q none (ix_mem 276 I J T)) : ix_C (d + 4) 124 [.inr (.inr (.inl (some (44))))] (ix_mem 276 I J T) Q := by
  unfold wp_X7_takeJoint at h
  refine ix_enter (ls := [some (.inr (.inr (.inl (some (44))))), none]) rfl rfl rfl (Nat.le_of_ble_eq_true rfl) ?_
  refine ix_go 2 (x' := (4, [some (.inr (.inr (.inl (some (44))))), none], [.inl (I 44 9)], 0, 0, ix_mem 276 I J T)) rfl ⟨rfl, rfl⟩ ?_
  refine ix_sp rfl ⟨rfl, trivial, ix_le rfl, Nat.le_refl _, Nat.le_refl _, tp_X7_bindingOf h (fun v1 I1 J1 T1 h1 => ?_)⟩
  change ix_W _ _ _ (7, [some (.inr (.inr (.inl (some (44))))), none], [.inl (v1)], 0, 0, ix_mem 276 I1 J1 T1)
  refine ix_go 4 (x' := (if v1 < (5 : Int32) then 25 else 13, [some (.inr (.inr (.inl (some (44))))), some (.inl (v1))], [], 0, 0, ix_mem 276 I1 J1 T1)) rfl trivial ?_
  refine ix_br (fun c2 => ?_) (fun c2 => ?_)
  · have h3 := h1.1 c2
    refine ix_go 3 (x' := (if I1 44 16 ≤ 0 then 39 else 32, [some (.inr (.inr (.inl (some (44))))), some (.inl (v1))], [], 0, 0, ix_mem 276 I1 J1 T1)) rfl ⟨rfl, rfl⟩ ?_
    refine ix_br (fun c4 => ?_) (fun c4 => ?_)
    · have h5 := h3.1 c4
      refine ix_go 4 (x' := (if I1 44 17 = (1 : Int32) then 47 else 61, [some (.inr (.inr (.inl (some (44))))), some (.inl (v1))], [], 0, 0, ix_mem 276 I1 J1 T1)) rfl ⟨rfl, rfl⟩ ?_
      refine ix_br (fun c6 => ?_) (fun c6 => ?_)
      · have h7 := h5.1 c6
        refine ix_go 3 (x' := (if v1 = (4 : Int32) then 52 else 61, [some (.inr (.inr (.inl (some (44))))), some (.inl (v1))], [], 0, 0, ix_mem 276 I1 J1 T1)) rfl trivial ?_
        refine ix_br (fun c8 => ?_) (fun c8 => ?_)
        · have h9 := h7.1 c8
          refine ix_go 3 (x' := (55, [some (.inr (.inr (.inl (some (44))))), some (.inl (v1))], [.inl ((2 : Int32)), .inl (v1), .inr (.inr (.inl (some (44))))], 0, 0, ix_mem 276 I1 J1 T1)) rfl trivial ?_
          refine ix_sp rfl ⟨rfl, ⟨ix_lt rfl, ix_eq rfl, ix_lt rfl⟩, ix_le rfl, Nat.le_refl _, Nat.le_refl _, tp_X7_joinBy h9 (fun I10 J10 T10 h10 => ?_)⟩
          change ix_W _ _ _ (58, [some (.inr (.inr (.inl (some (44))))), some (.inl (v1))], [], 0, 0, ix_mem 276 I10 J10 T10)
          refine ix_go 1 (x' := (147, [some (.inr (.inr (.inl (some (44))))), some (.inl (v1))], [], 0, 0, ix_mem 276 I10 J10 T10)) rfl trivial ?_
          exact ix_sp rfl ⟨Nat.le_refl _, Nat.le_refl _, rfl, hQ _ _ _ h10⟩
        · have h9 := h7.2 c8
          refine ix_subW ([some (.inr (.inr (.inl (some (44))))), some (.inl (v1))]) (ix_subS (ix_subS (ix_sub0))) ?_
          exact tj_X7_takeJoint_j61 h9 hQ
      · have h7 := h5.2 c6
        refine ix_subW ([some (.inr (.inr (.inl (some (44))))), some (.inl (v1))]) (ix_subS (ix_subS (ix_sub0))) ?_
        exact tj_X7_takeJoint_j61 h7 hQ
    · have h5 := h3.2 c4
      refine ix_go 1 (x' := (33, [some (.inr (.inr (.inl (some (44))))), some (.inl (v1))], [.inr (.inr (.inl (some (44))))], 0, 0, ix_mem 276 I1 J1 T1)) rfl trivial ?_
      refine ix_sp rfl ⟨rfl, ⟨ix_lt rfl, ix_eq rfl, ix_lt rfl⟩, ix_le rfl, Nat.le_refl _, Nat.le_refl _, tp_X7_takeInBracket h5 (fun I28 J28 T28 h28 => ?_)⟩
      change ix_W _ _ _ (36, [some (.inr (.inr (.inl (some (44))))), some (.inl (v1))], [], 0, 0, ix_mem 276 I28 J28 T28)
      refine ix_go 1 (x' := (147, [some (.inr (.inr (.inl (some (44))))), some (.inl (v1))], [], 0, 0, ix_mem 276 I28 J28 T28)) rfl trivial ?_
      exact ix_sp rfl ⟨Nat.le_refl _, Nat.le_refl _, rfl, hQ _ _ _ h28⟩
  · have h3 := h1.2 c2
    refine ix_go 4 (x' := (19, [some (.inr (.inr (.inl (some (44))))), some (.inl (v1))], [.inl (I1 44 17), .inl (v1), .inr (.inr (.inl (some (44))))], 0, 0, ix_mem 276 I1 J1 T1)) rfl ⟨rfl, rfl⟩ ?_
    refine ix_sp rfl ⟨rfl, ⟨ix_lt rfl, ix_eq rfl, ix_lt rfl⟩, ix_le rfl, Nat.le_refl _, Nat.le_refl _, tp_X7_joinBy h3 (fun I29 J29 T29 h29 => ?_)⟩
    change ix_W _ _ _ (22, [some (.inr (.inr (.inl (some (44))))), some (.inl (v1))], [], 0, 0, ix_mem 276 I29 J29 T29)
    refine ix_go 1 (x' := (147, [some (.inr (.inr (.inl (some (44))))), some (.inl (v1))], [], 0, 0, ix_mem 276 I29 J29 T29)) rfl trivial ?_
    exact ix_sp rfl ⟨Nat.le_refl _, Nat.le_refl _, rfl, hQ _ _ _ h29⟩
def wb_X7_takeFormula_22 (x2 : Int32) (I : Nat → Nat → Int32) (J : Nat → Nat → Int64) (T : Option Nat) (V22 : Int32 → (Nat → Nat → Int32) → (Nat → Nat → Int64) → Option Nat → Prop) (P : (Nat → Nat → Int32) → (Nat → Nat → Int64) → Option Nat → Prop) : Prop := ((x2 < I 44 7 → ((I 44 10 = 0 → ((I 44 17 = (4 : Int32) → P I J T) ∧ (¬ (I 44 17 = (4 : Int32)) → ((I 44 18 = 0 → wp_X7_takeJoint I J T (fun I9 J9 T9 => V22 (x2 + (1 : Int32)) I9 J9 T9)) ∧ (¬ (I 44 18 = 0) → wp_X7_takeAtom I J T (fun I10 J10 T10 => V22 (x2 + (1 : Int32)) I10 J10 T10)))))) ∧ (¬ (I 44 10 = 0) → P I J T))) ∧ (¬ (x2 < I 44 7) → P I J T))
def wl_X7_takeFormula_22 (x2 : Int32) (I : Nat → Nat → Int32) (J : Nat → Nat → Int64) (T : Option Nat) (P : (Nat → Nat → Int32) → (Nat → Nat → Int64) → Option Nat → Prop) : Prop := ∀ V : Int32 → (Nat → Nat → Int32) → (Nat → Nat → Int64) → Option Nat → Prop, (∀ (x2 : Int32) (I : Nat → Nat → Int32) (J : Nat → Nat → Int64) (T : Option Nat), wb_X7_takeFormula_22 x2 I J T V P → V x2 I J T) → V x2 I J T
set_option maxRecDepth 20000 in
theorem tl_X7_takeFormula_22 {d : Nat} {x2 : Int32} {I : Nat → Nat → Int32} {J : Nat → Nat → Int64} {T : Option Nat} {P : (Nat → Nat → Int32) → (Nat → Nat → Int64) → Option Nat → Prop} {Q : ix_Q} (h : wl_X7_takeFormula_22 x2 I J T P) (hQ : ∀ I J T, P I J T → Q none (ix_mem 276 I J T)) : ix_W (ix_C (d + 4)) (7, ix_lk ix_l125, none, 0, 0, Nat.blt 0 0, none) Q (22, [some (.inr (.inr (.inl (some (44))))), none, some (.inl (x2))], [], 0, 0, ix_mem 276 I J T) := by
  refine h (fun x2 I J T => ix_W (ix_C (d + 4)) (7, ix_lk ix_l125, none, 0, 0, Nat.blt 0 0, none) Q (22, [some (.inr (.inr (.inl (some (44))))), none, some (.inl (x2))], [], 0, 0, ix_mem 276 I J T)) ?_
  intro x2 I J T hb
  unfold wb_X7_takeFormula_22 at hb
  refine ix_go 4 (x' := (if x2 < I 44 7 then 30 else 69, [some (.inr (.inr (.inl (some (44))))), none, some (.inl (x2))], [], 0, 0, ix_mem 276 I J T)) rfl ⟨rfl, rfl⟩ ?_
  refine ix_br (fun c1 => ?_) (fun c1 => ?_)
  · have h2 := hb.1 c1
    refine ix_go 3 (x' := (if I 44 10 = 0 then 37 else 69, [some (.inr (.inr (.inl (some (44))))), none, some (.inl (x2))], [], 0, 0, ix_mem 276 I J T)) rfl ⟨rfl, rfl⟩ ?_
    refine ix_br (fun c3 => ?_) (fun c3 => ?_)
    · have h4 := h2.1 c3
      refine ix_go 4 (x' := (if I 44 17 = (4 : Int32) then 69 else 45, [some (.inr (.inr (.inl (some (44))))), none, some (.inl (x2))], [], 0, 0, ix_mem 276 I J T)) rfl ⟨rfl, rfl⟩ ?_
      refine ix_br (fun c5 => ?_) (fun c5 => ?_)
      · have h6 := h4.1 c5
        exact ix_sp rfl ⟨Nat.le_refl _, Nat.le_refl _, rfl, hQ _ _ _ h6⟩
      · have h6 := h4.2 c5
        refine ix_go 3 (x' := (if I 44 18 = 0 then 59 else 52, [some (.inr (.inr (.inl (some (44))))), none, some (.inl (x2))], [], 0, 0, ix_mem 276 I J T)) rfl ⟨rfl, rfl⟩ ?_
        refine ix_br (fun c7 => ?_) (fun c7 => ?_)
        · have h8 := h6.1 c7
          refine ix_go 1 (x' := (60, [some (.inr (.inr (.inl (some (44))))), none, some (.inl (x2))], [.inr (.inr (.inl (some (44))))], 0, 0, ix_mem 276 I J T)) rfl trivial ?_
          refine ix_sp rfl ⟨rfl, ⟨ix_lt rfl, ix_eq rfl, ix_lt rfl⟩, ix_le rfl, Nat.le_refl _, Nat.le_refl _, tp_X7_takeJoint h8 (fun I9 J9 T9 h9 => ?_)⟩
          change ix_W _ _ _ (63, [some (.inr (.inr (.inl (some (44))))), none, some (.inl (x2))], [], 0, 0, ix_mem 276 I9 J9 T9)
          refine ix_go 2 (x' := (22, [some (.inr (.inr (.inl (some (44))))), none, some (.inl (x2 + (1 : Int32)))], [], 0, 0, ix_mem 276 I9 J9 T9)) rfl trivial ?_
          refine ix_subW ([some (.inr (.inr (.inl (some (44))))), none, some (.inl (x2 + (1 : Int32)))]) (ix_subS (ix_subS (ix_subS (ix_sub0)))) ?_
          exact h9
        · have h8 := h6.2 c7
          refine ix_go 1 (x' := (53, [some (.inr (.inr (.inl (some (44))))), none, some (.inl (x2))], [.inr (.inr (.inl (some (44))))], 0, 0, ix_mem 276 I J T)) rfl trivial ?_
          refine ix_sp rfl ⟨rfl, ⟨ix_lt rfl, ix_eq rfl, ix_lt rfl⟩, ix_le rfl, Nat.le_refl _, Nat.le_refl _, tp_X7_takeAtom h8 (fun I10 J10 T10 h10 => ?_)⟩
          change ix_W _ _ _ (56, [some (.inr (.inr (.inl (some (44))))), none, some (.inl (x2))], [], 0, 0, ix_mem 276 I10 J10 T10)
          refine ix_go 3 (x' := (22, [some (.inr (.inr (.inl (some (44))))), none, some (.inl (x2 + (1 : Int32)))], [], 0, 0, ix_mem 276 I10 J10 T10)) rfl trivial ?_
          refine ix_subW ([some (.inr (.inr (.inl (some (44))))), none, some (.inl (x2 + (1 : Int32)))]) (ix_subS (ix_subS (ix_subS (ix_sub0)))) ?_
          exact h10
    · have h4 := h2.2 c3
      exact ix_sp rfl ⟨Nat.le_refl _, Nat.le_refl _, rfl, hQ _ _ _ h4⟩
  · have h2 := hb.2 c1
    exact ix_sp rfl ⟨Nat.le_refl _, Nat.le_refl _, rfl, hQ _ _ _ h2⟩
def wp_X7_takeFormula (a0 : Int32) (I : Nat → Nat → Int32) (J : Nat → Nat → Int64) (T : Option Nat) (P : (Nat → Nat → Int32) → (Nat → Nat → Int64) → Option Nat → Prop) : Prop := wl_X7_takeFormula_22 ((0 : Int32)) (ix_u2 (ix_u2 (ix_u2 (ix_u2 I 44 15 ((0 : Int32))) 44 16 ((0 : Int32))) 44 17 (a0)) 44 18 ((1 : Int32))) J T P
set_option maxRecDepth 20000 in
theorem tp_X7_takeFormula {d : Nat} {a0 : Int32} {I : Nat → Nat → Int32} {J : Nat → Nat → Int64} {T : Option Nat} {P : (Nat → Nat → Int32) → (Nat → Nat → Int64) → Option Nat → Prop} {Q : ix_Q} (h : wp_X7_takeFormula a0 I J T P) (hQ : ∀ I J T, P I J T → Q none (ix_mem 276 I J T)) : ix_C (d + 5) 125 [.inr (.inr (.inl (some (44)))), .inl (a0)] (ix_mem 276 I J T) Q := by
  unfold wp_X7_takeFormula at h
  refine ix_enter (ls := [some (.inr (.inr (.inl (some (44))))), some (.inl (a0)), none]) rfl rfl rfl (Nat.le_of_ble_eq_true rfl) ?_
  refine ix_go 14 (x' := (22, [some (.inr (.inr (.inl (some (44))))), some (.inl (a0)), some (.inl ((0 : Int32)))], [], 0, 0, ix_mem 276 (ix_u2 (ix_u2 (ix_u2 (ix_u2 I 44 15 ((0 : Int32))) 44 16 ((0 : Int32))) 44 17 (a0)) 44 18 ((1 : Int32))) J T)) rfl ⟨rfl, rfl, rfl, rfl, rfl, rfl, rfl, rfl, rfl⟩ ?_
  refine ix_subW ([some (.inr (.inr (.inl (some (44))))), none, some (.inl ((0 : Int32)))]) (ix_subS (ix_subN (ix_subS (ix_sub0)))) ?_
  exact tl_X7_takeFormula_22 h hQ
def wp_X9_addClause_59 (a0 : Int32) (a1 : Int32) (a2 : Int32) (a3 : Int32) (a4 : Int32) (I : Nat → Nat → Int32) (J : Nat → Nat → Int64) (T : Option Nat) (P : (Nat → Nat → Int32) → (Nat → Nat → Int64) → Option Nat → Prop) : Prop := ((I 59 0 < (12 : Int32) → (false || (true && ix_01 (a0))) = true ∧ ix_inb (I 59 0) 12 = true ∧ ix_inb (I 59 0) 12 = true ∧ ix_inb (I 59 0) 12 = true ∧ ix_inb (I 59 0) 12 = true ∧ ix_inb (I 59 0) 12 = true ∧ ix_inb (I 59 0) 12 = true ∧ P (ix_u2 (ix_u2 (ix_u2 (ix_u2 (ix_u2 (ix_u2 (ix_u2 I 60 (I 59 0).toNatClampNeg (a0)) 61 (I 59 0).toNatClampNeg (a1)) 62 (I 59 0).toNatClampNeg (a2)) 63 (I 59 0).toNatClampNeg (a3)) 64 (I 59 0).toNatClampNeg (a4)) 65 (I 59 0).toNatClampNeg (I 59 1)) 59 0 ((I 59 0) + ((1 : Int32)))) J T) ∧ (¬ (I 59 0 < (12 : Int32)) → P I J T))
set_option maxRecDepth 20000 in
theorem tp_X9_addClause_59 {d : Nat} {a0 : Int32} {a1 : Int32} {a2 : Int32} {a3 : Int32} {a4 : Int32} {I : Nat → Nat → Int32} {J : Nat → Nat → Int64} {T : Option Nat} {P : (Nat → Nat → Int32) → (Nat → Nat → Int64) → Option Nat → Prop} {Q : ix_Q} (h : wp_X9_addClause_59 a0 a1 a2 a3 a4 I J T P) (hQ : ∀ I J T, P I J T → Q none (ix_mem 276 I J T)) : ix_C (d + 1) 126 [.inr (.inr (.inl (some (59)))), .inl (a0), .inl (a1), .inl (a2), .inl (a3), .inl (a4)] (ix_mem 276 I J T) Q := by
  unfold wp_X9_addClause_59 at h
  refine ix_enter (ls := [some (.inr (.inr (.inl (some (59))))), some (.inl (a0)), some (.inl (a1)), some (.inl (a2)), some (.inl (a3)), some (.inl (a4))]) rfl rfl rfl (Nat.le_of_ble_eq_true rfl) ?_
  refine ix_go 4 (x' := (if I 59 0 < (12 : Int32) then 10 else 9, [some (.inr (.inr (.inl (some (59))))), some (.inl (a0)), some (.inl (a1)), some (.inl (a2)), some (.inl (a3)), some (.inl (a4))], [], 0, 0, ix_mem 276 I J T)) rfl ⟨rfl, rfl⟩ ?_
  refine ix_br (fun c1 => ?_) (fun c1 => ?_)
  · have h2 := h.1 c1
    obtain ⟨p3, h4⟩ := h2
    obtain ⟨p5, h6⟩ := h4
    obtain ⟨p7, h8⟩ := h6
    obtain ⟨p9, h10⟩ := h8
    obtain ⟨p11, h12⟩ := h10
    obtain ⟨p13, h14⟩ := h12
    obtain ⟨p15, h16⟩ := h14
    refine ix_go 43 (x' := (85, [some (.inr (.inr (.inl (some (59))))), some (.inl (a0)), some (.inl (a1)), some (.inl (a2)), some (.inl (a3)), some (.inl (a4))], [], 0, 0, ix_mem 276 (ix_u2 (ix_u2 (ix_u2 (ix_u2 (ix_u2 (ix_u2 (ix_u2 I 60 (I 59 0).toNatClampNeg (a0)) 61 (I 59 0).toNatClampNeg (a1)) 62 (I 59 0).toNatClampNeg (a2)) 63 (I 59 0).toNatClampNeg (a3)) 64 (I 59 0).toNatClampNeg (a4)) 65 (I 59 0).toNatClampNeg (I 59 1)) 59 0 ((I 59 0) + ((1 : Int32)))) J T)) rfl ⟨rfl, rfl, rfl, rfl, rfl, p3, p5, rfl, rfl, rfl, rfl, rfl, rfl, p7, rfl, rfl, rfl, rfl, rfl, rfl, p9, rfl, rfl, rfl, rfl, rfl, rfl, p11, rfl, rfl, rfl, rfl, rfl, rfl, p13, rfl, rfl, rfl, rfl, rfl, rfl, rfl, rfl, p15, rfl, rfl, rfl, rfl⟩ ?_
    exact ix_sp rfl ⟨Nat.le_refl _, Nat.le_refl _, rfl, hQ _ _ _ h16⟩
  · have h2 := h.2 c1
    exact ix_sp rfl ⟨Nat.le_refl _, Nat.le_refl _, rfl, hQ _ _ _ h2⟩
def wp_X9_addClause_68 (a0 : Int32) (a1 : Int32) (a2 : Int32) (a3 : Int32) (a4 : Int32) (I : Nat → Nat → Int32) (J : Nat → Nat → Int64) (T : Option Nat) (P : (Nat → Nat → Int32) → (Nat → Nat → Int64) → Option Nat → Prop) : Prop := ((I 68 0 < (12 : Int32) → (false || (true && ix_01 (a0))) = true ∧ ix_inb (I 68 0) 12 = true ∧ ix_inb (I 68 0) 12 = true ∧ ix_inb (I 68 0) 12 = true ∧ ix_inb (I 68 0) 12 = true ∧ ix_inb (I 68 0) 12 = true ∧ ix_inb (I 68 0) 12 = true ∧ P (ix_u2 (ix_u2 (ix_u2 (ix_u2 (ix_u2 (ix_u2 (ix_u2 I 69 (I 68 0).toNatClampNeg (a0)) 70 (I 68 0).toNatClampNeg (a1)) 71 (I 68 0).toNatClampNeg (a2)) 72 (I 68 0).toNatClampNeg (a3)) 73 (I 68 0).toNatClampNeg (a4)) 74 (I 68 0).toNatClampNeg (I 68 1)) 68 0 ((I 68 0) + ((1 : Int32)))) J T) ∧ (¬ (I 68 0 < (12 : Int32)) → P I J T))
set_option maxRecDepth 20000 in
theorem tp_X9_addClause_68 {d : Nat} {a0 : Int32} {a1 : Int32} {a2 : Int32} {a3 : Int32} {a4 : Int32} {I : Nat → Nat → Int32} {J : Nat → Nat → Int64} {T : Option Nat} {P : (Nat → Nat → Int32) → (Nat → Nat → Int64) → Option Nat → Prop} {Q : ix_Q} (h : wp_X9_addClause_68 a0 a1 a2 a3 a4 I J T P) (hQ : ∀ I J T, P I J T → Q none (ix_mem 276 I J T)) : ix_C (d + 1) 126 [.inr (.inr (.inl (some (68)))), .inl (a0), .inl (a1), .inl (a2), .inl (a3), .inl (a4)] (ix_mem 276 I J T) Q := by
  unfold wp_X9_addClause_68 at h
  refine ix_enter (ls := [some (.inr (.inr (.inl (some (68))))), some (.inl (a0)), some (.inl (a1)), some (.inl (a2)), some (.inl (a3)), some (.inl (a4))]) rfl rfl rfl (Nat.le_of_ble_eq_true rfl) ?_
  refine ix_go 4 (x' := (if I 68 0 < (12 : Int32) then 10 else 9, [some (.inr (.inr (.inl (some (68))))), some (.inl (a0)), some (.inl (a1)), some (.inl (a2)), some (.inl (a3)), some (.inl (a4))], [], 0, 0, ix_mem 276 I J T)) rfl ⟨rfl, rfl⟩ ?_
  refine ix_br (fun c1 => ?_) (fun c1 => ?_)
  · have h2 := h.1 c1
    obtain ⟨p3, h4⟩ := h2
    obtain ⟨p5, h6⟩ := h4
    obtain ⟨p7, h8⟩ := h6
    obtain ⟨p9, h10⟩ := h8
    obtain ⟨p11, h12⟩ := h10
    obtain ⟨p13, h14⟩ := h12
    obtain ⟨p15, h16⟩ := h14
    refine ix_go 43 (x' := (85, [some (.inr (.inr (.inl (some (68))))), some (.inl (a0)), some (.inl (a1)), some (.inl (a2)), some (.inl (a3)), some (.inl (a4))], [], 0, 0, ix_mem 276 (ix_u2 (ix_u2 (ix_u2 (ix_u2 (ix_u2 (ix_u2 (ix_u2 I 69 (I 68 0).toNatClampNeg (a0)) 70 (I 68 0).toNatClampNeg (a1)) 71 (I 68 0).toNatClampNeg (a2)) 72 (I 68 0).toNatClampNeg (a3)) 73 (I 68 0).toNatClampNeg (a4)) 74 (I 68 0).toNatClampNeg (I 68 1)) 68 0 ((I 68 0) + ((1 : Int32)))) J T)) rfl ⟨rfl, rfl, rfl, rfl, rfl, p3, p5, rfl, rfl, rfl, rfl, rfl, rfl, p7, rfl, rfl, rfl, rfl, rfl, rfl, p9, rfl, rfl, rfl, rfl, rfl, rfl, p11, rfl, rfl, rfl, rfl, rfl, rfl, p13, rfl, rfl, rfl, rfl, rfl, rfl, rfl, rfl, p15, rfl, rfl, rfl, rfl⟩ ?_
    exact ix_sp rfl ⟨Nat.le_refl _, Nat.le_refl _, rfl, hQ _ _ _ h16⟩
  · have h2 := h.2 c1
    exact ix_sp rfl ⟨Nat.le_refl _, Nat.le_refl _, rfl, hQ _ _ _ h2⟩
