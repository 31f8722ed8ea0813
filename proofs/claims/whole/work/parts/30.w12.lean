def wp_X9_both (a0 : Int32) (a1 : Int64) (a2 : Int64) (I : Nat → Nat → Int32) (J : Nat → Nat → Int64) (T : Option Nat) (P : Int64 → (Nat → Nat → Int32) → (Nat → Nat → Int64) → Option Nat → Prop) : Prop := ((a0 = 7 → wp_J9_min_f86c9 (a1) (a2) I J T (fun v3 I3 J3 T3 => P (v3) I3 J3 T3)) ∧ (¬ (a0 = 7) → ((a0 = 9 → wp_J9_min_f86c9 (a1) (a2) I J T (fun v7 I7 J7 T7 => P (v7) I7 J7 T7)) ∧ (¬ (a0 = 9) → ((a0 = 42 → P ((a1) * (a2)) I J T) ∧ (¬ (a0 = 42) → ((a0 = 43 → P ((a1) + (a2)) I J T) ∧ (¬ (a0 = 43) → ((a0 = 45 → P ((a1) - (a2)) I J T) ∧ (¬ (a0 = 45) → ((a0 = 47 → ((lg_cmp (a2) ((0 : Int64)) = 0 → P ((0 : Int64)) I J T) ∧ (¬ (lg_cmp (a2) ((0 : Int64)) = 0) → ix_nzl (a2) = true ∧ P ((a1) / (a2)) I J T))) ∧ (¬ (a0 = 47) → ((a0 = 60 → ((lg_cmp (a1) (a2) < 0 → P ((1 : Int64)) I J T) ∧ (¬ (lg_cmp (a1) (a2) < 0) → P ((0 : Int64)) I J T))) ∧ (¬ (a0 = 60) → ((a0 = 61 → ((lg_cmp (a1) (a2) = 0 → P ((1 : Int64)) I J T) ∧ (¬ (lg_cmp (a1) (a2) = 0) → P ((0 : Int64)) I J T))) ∧ (¬ (a0 = 61) → ((a0 = 62 → ((lg_cmp (a1) (a2) ≤ 0 → P ((0 : Int64)) I J T) ∧ (¬ (lg_cmp (a1) (a2) ≤ 0) → P ((1 : Int64)) I J T))) ∧ (¬ (a0 = 62) → wp_J9_max_f86c9 (a1) (a2) I J T (fun v40 I40 J40 T40 => P (v40) I40 J40 T40)))))))))))))))))))
set_option maxRecDepth 20000 in
theorem tp_X9_both {d : Nat} {a0 : Int32} {a1 : Int64} {a2 : Int64} {I : Nat → Nat → Int32} {J : Nat → Nat → Int64} {T : Option Nat} {P : Int64 → (Nat → Nat → Int32) → (Nat → Nat → Int64) → Option Nat → Prop} {Q : ix_Q} (h : wp_X9_both a0 a1 a2 I J T P) (hQ : ∀ v I J T, P v I J T → Q (some (.inr (.inl v))) (ix_mem 276 I J T)) : ix_C (d + 2) 140 [.inl (a0), .inr (.inl (a1)), .inr (.inl (a2))] (ix_mem 276 I J T) Q := by
  unfold wp_X9_both at h
  refine ix_enter (ls := [some (.inl (a0)), some (.inr (.inl (a1))), none, some (.inr (.inl (a2))), none]) rfl rfl rfl (Nat.le_of_ble_eq_true rfl) ?_
  refine ix_go 1 (x' := (1, [some (.inl (a0)), some (.inr (.inl (a1))), none, some (.inr (.inl (a2))), none], [.inl (a0)], 0, 0, ix_mem 276 I J T)) rfl trivial ?_
  by_cases e1 : a0 = 7
  · have h2 := h.1 e1
    refine ix_sp rfl ⟨146, rfl, by rw [e1]; rfl, ?_⟩
    refine ix_go 2 (x' := (148, [some (.inl (a0)), some (.inr (.inl (a1))), none, some (.inr (.inl (a2))), none], [.inr (.inl (a2)), .inr (.inl (a1))], 0, 0, ix_mem 276 I J T)) rfl trivial ?_
    refine ix_sp rfl ⟨rfl, trivial, ix_le rfl, Nat.le_refl _, Nat.le_refl _, tp_J9_min_f86c9 h2 (fun v3 I3 J3 T3 h3 => ?_)⟩
    change ix_W _ _ _ (151, [some (.inl (a0)), some (.inr (.inl (a1))), none, some (.inr (.inl (a2))), none], [.inr (.inl (v3))], 0, 0, ix_mem 276 I3 J3 T3)
    exact ix_sp rfl ⟨Nat.le_refl _, Nat.le_refl _, rfl, hQ _ _ _ _ h3⟩
  · have h4 := h.2 e1
    by_cases e5 : a0 = 9
    · have h6 := h4.1 e5
      refine ix_sp rfl ⟨146, rfl, by rw [e5]; rfl, ?_⟩
      refine ix_go 2 (x' := (148, [some (.inl (a0)), some (.inr (.inl (a1))), none, some (.inr (.inl (a2))), none], [.inr (.inl (a2)), .inr (.inl (a1))], 0, 0, ix_mem 276 I J T)) rfl trivial ?_
      refine ix_sp rfl ⟨rfl, trivial, ix_le rfl, Nat.le_refl _, Nat.le_refl _, tp_J9_min_f86c9 h6 (fun v7 I7 J7 T7 h7 => ?_)⟩
      change ix_W _ _ _ (151, [some (.inl (a0)), some (.inr (.inl (a1))), none, some (.inr (.inl (a2))), none], [.inr (.inl (v7))], 0, 0, ix_mem 276 I7 J7 T7)
      exact ix_sp rfl ⟨Nat.le_refl _, Nat.le_refl _, rfl, hQ _ _ _ _ h7⟩
    · have h8 := h4.2 e5
      by_cases e9 : a0 = 42
      · have h10 := h8.1 e9
        refine ix_sp rfl ⟨92, rfl, by rw [e9]; rfl, ?_⟩
        refine ix_go 3 (x' := (95, [some (.inl (a0)), some (.inr (.inl (a1))), none, some (.inr (.inl (a2))), none], [.inr (.inl ((a1) * (a2)))], 0, 0, ix_mem 276 I J T)) rfl trivial ?_
        exact ix_sp rfl ⟨Nat.le_refl _, Nat.le_refl _, rfl, hQ _ _ _ _ h10⟩
      · have h11 := h8.2 e9
        by_cases e12 : a0 = 43
        · have h13 := h11.1 e12
          refine ix_sp rfl ⟨84, rfl, by rw [e12]; rfl, ?_⟩
          refine ix_go 3 (x' := (87, [some (.inl (a0)), some (.inr (.inl (a1))), none, some (.inr (.inl (a2))), none], [.inr (.inl ((a1) + (a2)))], 0, 0, ix_mem 276 I J T)) rfl trivial ?_
          exact ix_sp rfl ⟨Nat.le_refl _, Nat.le_refl _, rfl, hQ _ _ _ _ h13⟩
        · have h14 := h11.2 e12
          by_cases e15 : a0 = 45
          · have h16 := h14.1 e15
            refine ix_sp rfl ⟨88, rfl, by rw [e15]; rfl, ?_⟩
            refine ix_go 3 (x' := (91, [some (.inl (a0)), some (.inr (.inl (a1))), none, some (.inr (.inl (a2))), none], [.inr (.inl ((a1) - (a2)))], 0, 0, ix_mem 276 I J T)) rfl trivial ?_
            exact ix_sp rfl ⟨Nat.le_refl _, Nat.le_refl _, rfl, hQ _ _ _ _ h16⟩
          · have h17 := h14.2 e15
            by_cases e18 : a0 = 47
            · have h19 := h17.1 e18
              refine ix_sp rfl ⟨96, rfl, by rw [e18]; rfl, ?_⟩
              refine ix_go 4 (x' := (if lg_cmp (a2) ((0 : Int64)) = 0 then 102 else 106, [some (.inl (a0)), some (.inr (.inl (a1))), none, some (.inr (.inl (a2))), none], [], 0, 0, ix_mem 276 I J T)) rfl trivial ?_
              refine ix_br (fun c20 => ?_) (fun c20 => ?_)
              · have h21 := h19.1 c20
                refine ix_go 2 (x' := (109, [some (.inl (a0)), some (.inr (.inl (a1))), none, some (.inr (.inl (a2))), none], [.inr (.inl ((0 : Int64)))], 0, 0, ix_mem 276 I J T)) rfl trivial ?_
                exact ix_sp rfl ⟨Nat.le_refl _, Nat.le_refl _, rfl, hQ _ _ _ _ h21⟩
              · have h21 := h19.2 c20
                obtain ⟨p22, h23⟩ := h21
                refine ix_go 3 (x' := (109, [some (.inl (a0)), some (.inr (.inl (a1))), none, some (.inr (.inl (a2))), none], [.inr (.inl ((a1) / (a2)))], 0, 0, ix_mem 276 I J T)) rfl p22 ?_
                exact ix_sp rfl ⟨Nat.le_refl _, Nat.le_refl _, rfl, hQ _ _ _ _ h23⟩
            · have h24 := h17.2 e18
              by_cases e25 : a0 = 60
              · have h26 := h24.1 e25
                refine ix_sp rfl ⟨110, rfl, by rw [e25]; rfl, ?_⟩
                refine ix_go 4 (x' := (if lg_cmp (a1) (a2) < 0 then 116 else 120, [some (.inl (a0)), some (.inr (.inl (a1))), none, some (.inr (.inl (a2))), none], [], 0, 0, ix_mem 276 I J T)) rfl trivial ?_
                refine ix_br (fun c27 => ?_) (fun c27 => ?_)
                · have h28 := h26.1 c27
                  refine ix_go 2 (x' := (121, [some (.inl (a0)), some (.inr (.inl (a1))), none, some (.inr (.inl (a2))), none], [.inr (.inl ((1 : Int64)))], 0, 0, ix_mem 276 I J T)) rfl trivial ?_
                  exact ix_sp rfl ⟨Nat.le_refl _, Nat.le_refl _, rfl, hQ _ _ _ _ h28⟩
                · have h28 := h26.2 c27
                  refine ix_go 1 (x' := (121, [some (.inl (a0)), some (.inr (.inl (a1))), none, some (.inr (.inl (a2))), none], [.inr (.inl ((0 : Int64)))], 0, 0, ix_mem 276 I J T)) rfl trivial ?_
                  exact ix_sp rfl ⟨Nat.le_refl _, Nat.le_refl _, rfl, hQ _ _ _ _ h28⟩
              · have h29 := h24.2 e25
                by_cases e30 : a0 = 61
                · have h31 := h29.1 e30
                  refine ix_sp rfl ⟨134, rfl, by rw [e30]; rfl, ?_⟩
                  refine ix_go 4 (x' := (if lg_cmp (a1) (a2) = 0 then 140 else 144, [some (.inl (a0)), some (.inr (.inl (a1))), none, some (.inr (.inl (a2))), none], [], 0, 0, ix_mem 276 I J T)) rfl trivial ?_
                  refine ix_br (fun c32 => ?_) (fun c32 => ?_)
                  · have h33 := h31.1 c32
                    refine ix_go 2 (x' := (145, [some (.inl (a0)), some (.inr (.inl (a1))), none, some (.inr (.inl (a2))), none], [.inr (.inl ((1 : Int64)))], 0, 0, ix_mem 276 I J T)) rfl trivial ?_
                    exact ix_sp rfl ⟨Nat.le_refl _, Nat.le_refl _, rfl, hQ _ _ _ _ h33⟩
                  · have h33 := h31.2 c32
                    refine ix_go 1 (x' := (145, [some (.inl (a0)), some (.inr (.inl (a1))), none, some (.inr (.inl (a2))), none], [.inr (.inl ((0 : Int64)))], 0, 0, ix_mem 276 I J T)) rfl trivial ?_
                    exact ix_sp rfl ⟨Nat.le_refl _, Nat.le_refl _, rfl, hQ _ _ _ _ h33⟩
                · have h34 := h29.2 e30
                  by_cases e35 : a0 = 62
                  · have h36 := h34.1 e35
                    refine ix_sp rfl ⟨122, rfl, by rw [e35]; rfl, ?_⟩
                    refine ix_go 4 (x' := (if lg_cmp (a1) (a2) ≤ 0 then 132 else 128, [some (.inl (a0)), some (.inr (.inl (a1))), none, some (.inr (.inl (a2))), none], [], 0, 0, ix_mem 276 I J T)) rfl trivial ?_
                    refine ix_br (fun c37 => ?_) (fun c37 => ?_)
                    · have h38 := h36.1 c37
                      refine ix_go 1 (x' := (133, [some (.inl (a0)), some (.inr (.inl (a1))), none, some (.inr (.inl (a2))), none], [.inr (.inl ((0 : Int64)))], 0, 0, ix_mem 276 I J T)) rfl trivial ?_
                      exact ix_sp rfl ⟨Nat.le_refl _, Nat.le_refl _, rfl, hQ _ _ _ _ h38⟩
                    · have h38 := h36.2 c37
                      refine ix_go 2 (x' := (133, [some (.inl (a0)), some (.inr (.inl (a1))), none, some (.inr (.inl (a2))), none], [.inr (.inl ((1 : Int64)))], 0, 0, ix_mem 276 I J T)) rfl trivial ?_
                      exact ix_sp rfl ⟨Nat.le_refl _, Nat.le_refl _, rfl, hQ _ _ _ _ h38⟩
                  · have h39 := h34.2 e35
                    refine ix_sp rfl ⟨152, rfl, ix_lkd (p := 0) (ix_lkc e1 (ix_lkc e5 (ix_lkc e9 (ix_lkc e12 (ix_lkc e15 (ix_lkc e18 (ix_lkc e25 (ix_lkc e30 (ix_lkc e35 (fun q h => absurd h List.not_mem_nil)))))))))), ?_⟩
                    refine ix_go 2 (x' := (154, [some (.inl (a0)), some (.inr (.inl (a1))), none, some (.inr (.inl (a2))), none], [.inr (.inl (a2)), .inr (.inl (a1))], 0, 0, ix_mem 276 I J T)) rfl trivial ?_
                    refine ix_sp rfl ⟨rfl, trivial, ix_le rfl, Nat.le_refl _, Nat.le_refl _, tp_J9_max_f86c9 h39 (fun v40 I40 J40 T40 h40 => ?_)⟩
                    change ix_W _ _ _ (157, [some (.inl (a0)), some (.inr (.inl (a1))), none, some (.inr (.inl (a2))), none], [.inr (.inl (v40))], 0, 0, ix_mem 276 I40 J40 T40)
                    exact ix_sp rfl ⟨Nat.le_refl _, Nat.le_refl _, rfl, hQ _ _ _ _ h40⟩
def wb_X9_compute_59_58_c95 (x5 : Int32) (x6 : Int32) (x7 : Int32) (I : Nat → Nat → Int32) (J : Nat → Nat → Int64) (T : Option Nat) (V58 : Int32 → Int32 → Int32 → (Nat → Nat → Int32) → (Nat → Nat → Int64) → Option Nat → Prop) (P : Int64 → (Nat → Nat → Int32) → (Nat → Nat → Int64) → Option Nat → Prop) : Prop := ((x7 < x5 → ((x7 < (600 : Int32) → ix_inb (x7) 600 = true ∧ ((((-1 : Int32)) - (I 66 (x7).toNatClampNeg) < 0 → ((x6 < (48 : Int32) → ((((-1 : Int32)) - (I 66 (x7).toNatClampNeg) < 0 → ix_inb (x7) 600 = true ∧ ix_inb (x6) 48 = true ∧ V58 (x5) (x6 + (1 : Int32)) (x7 + (1 : Int32)) I (ix_u2 J 67 (x6).toNatClampNeg ((I 66 (x7).toNatClampNeg).toInt64)) T) ∧ (¬ (((-1 : Int32)) - (I 66 (x7).toNatClampNeg) < 0) → wp_X6_variable ((((-1 : Int32)) - (I 66 (x7).toNatClampNeg)) - ((11 : Int32))) I J T (fun v27 I27 J27 T27 => ix_inb (x6) 48 = true ∧ V58 (x5) (x6 + (1 : Int32)) (x7 + (1 : Int32)) I27 (ix_u2 J27 67 (x6).toNatClampNeg (v27)) T27)))) ∧ (¬ (x6 < (48 : Int32)) → P ((0 : Int64)) I J T))) ∧ (¬ (((-1 : Int32)) - (I 66 (x7).toNatClampNeg) < 0) → wp_X7_isVariable (((-1 : Int32)) - (I 66 (x7).toNatClampNeg)) I J T (fun v30 I30 J30 T30 => ((v30 = 0 → ((((-1 : Int32)) - (I 66 (x7).toNatClampNeg) = (8 : Int32) → ((x6 < (1 : Int32) → P ((0 : Int64)) I30 J30 T30) ∧ (¬ (x6 < (1 : Int32)) → ix_inb ((x6) - ((1 : Int32))) 48 = true ∧ ix_inb ((x6) - ((1 : Int32))) 48 = true ∧ V58 (x5) (x6) (x7 + (1 : Int32)) I30 (ix_u2 J30 67 ((x6) - ((1 : Int32))).toNatClampNeg (((1 : Int64)) - (J30 67 ((x6) - ((1 : Int32))).toNatClampNeg))) T30))) ∧ (¬ (((-1 : Int32)) - (I 66 (x7).toNatClampNeg) = (8 : Int32)) → ((x6 < (2 : Int32) → P ((0 : Int64)) I30 J30 T30) ∧ (¬ (x6 < (2 : Int32)) → ix_inb ((x6 + (-1 : Int32)) - ((1 : Int32))) 48 = true ∧ ix_inb (x6 + (-1 : Int32)) 48 = true ∧ wp_X9_both (((-1 : Int32)) - (I 66 (x7).toNatClampNeg)) (J30 67 ((x6 + (-1 : Int32)) - ((1 : Int32))).toNatClampNeg) (J30 67 (x6 + (-1 : Int32)).toNatClampNeg) I30 J30 T30 (fun v47 I47 J47 T47 => ix_inb ((x6 + (-1 : Int32)) - ((1 : Int32))) 48 = true ∧ V58 (x5) (x6 + (-1 : Int32)) (x7 + (1 : Int32)) I47 (ix_u2 J47 67 ((x6 + (-1 : Int32)) - ((1 : Int32))).toNatClampNeg (v47)) T47)))))) ∧ (¬ (v30 = 0) → ((x6 < (48 : Int32) → ((((-1 : Int32)) - (I 66 (x7).toNatClampNeg) < 0 → ix_inb (x7) 600 = true ∧ ix_inb (x6) 48 = true ∧ V58 (x5) (x6 + (1 : Int32)) (x7 + (1 : Int32)) I30 (ix_u2 J30 67 (x6).toNatClampNeg ((I30 66 (x7).toNatClampNeg).toInt64)) T30) ∧ (¬ (((-1 : Int32)) - (I 66 (x7).toNatClampNeg) < 0) → wp_X6_variable ((((-1 : Int32)) - (I 66 (x7).toNatClampNeg)) - ((11 : Int32))) I30 J30 T30 (fun v58 I58 J58 T58 => ix_inb (x6) 48 = true ∧ V58 (x5) (x6 + (1 : Int32)) (x7 + (1 : Int32)) I58 (ix_u2 J58 67 (x6).toNatClampNeg (v58)) T58)))) ∧ (¬ (x6 < (48 : Int32)) → P ((0 : Int64)) I30 J30 T30)))))))) ∧ (¬ (x7 < (600 : Int32)) → ((x6 ≤ 0 → P ((0 : Int64)) I J T) ∧ (¬ (x6 ≤ 0) → P (J 67 ((0 : Int32)).toNatClampNeg) I J T))))) ∧ (¬ (x7 < x5) → ((x6 ≤ 0 → P ((0 : Int64)) I J T) ∧ (¬ (x6 ≤ 0) → P (J 67 ((0 : Int32)).toNatClampNeg) I J T))))
def wl_X9_compute_59_58_c95 (x5 : Int32) (x6 : Int32) (x7 : Int32) (I : Nat → Nat → Int32) (J : Nat → Nat → Int64) (T : Option Nat) (P : Int64 → (Nat → Nat → Int32) → (Nat → Nat → Int64) → Option Nat → Prop) : Prop := ∀ V : Int32 → Int32 → Int32 → (Nat → Nat → Int32) → (Nat → Nat → Int64) → Option Nat → Prop, (∀ (x5 : Int32) (x6 : Int32) (x7 : Int32) (I : Nat → Nat → Int32) (J : Nat → Nat → Int64) (T : Option Nat), wb_X9_compute_59_58_c95 x5 x6 x7 I J T V P → V x5 x6 x7 I J T) → V x5 x6 x7 I J T
set_option maxRecDepth 20000 in
theorem tl_X9_compute_59_58_c95 {d : Nat} {x5 : Int32} {x6 : Int32} {x7 : Int32} {I : Nat → Nat → Int32} {J : Nat → Nat → Int64} {T : Option Nat} {P : Int64 → (Nat → Nat → Int32) → (Nat → Nat → Int64) → Option Nat → Prop} {Q : ix_Q} (h : wl_X9_compute_59_58_c95 x5 x6 x7 I J T P) (hQ : ∀ v I J T, P v I J T → Q (some (.inr (.inl v))) (ix_mem 276 I J T)) : ix_W (ix_C (d + 2)) (9, ix_lk ix_l141, (some .long), 0, 0, Nat.blt 0 0, none) Q (58, [some (.inr (.inr (.inl (some (59))))), none, none, some (.inr (.inr (.inl (some (95))))), none, some (.inl (x5)), some (.inl (x6)), some (.inl (x7)), none], [], 0, 0, ix_mem 276 I J T) := by
  refine h (fun x5 x6 x7 I J T => ix_W (ix_C (d + 2)) (9, ix_lk ix_l141, (some .long), 0, 0, Nat.blt 0 0, none) Q (58, [some (.inr (.inr (.inl (some (59))))), none, none, some (.inr (.inr (.inl (some (95))))), none, some (.inl (x5)), some (.inl (x6)), some (.inl (x7)), none], [], 0, 0, ix_mem 276 I J T)) ?_
  intro x5 x6 x7 I J T hb
  unfold wb_X9_compute_59_58_c95 at hb
  refine ix_go 3 (x' := (if x7 < x5 then 65 else 229, [some (.inr (.inr (.inl (some (59))))), none, none, some (.inr (.inr (.inl (some (95))))), none, some (.inl (x5)), some (.inl (x6)), some (.inl (x7)), none], [], 0, 0, ix_mem 276 I J T)) rfl trivial ?_
  refine ix_br (fun c11 => ?_) (fun c11 => ?_)
  · have h12 := hb.1 c11
    refine ix_go 3 (x' := (if x7 < (600 : Int32) then 73 else 229, [some (.inr (.inr (.inl (some (59))))), none, none, some (.inr (.inr (.inl (some (95))))), none, some (.inl (x5)), some (.inl (x6)), some (.inl (x7)), none], [], 0, 0, ix_mem 276 I J T)) rfl trivial ?_
    refine ix_br (fun c13 => ?_) (fun c13 => ?_)
    · have h14 := h12.1 c13
      obtain ⟨p15, h16⟩ := h14
      refine ix_go 9 (x' := (if ((-1 : Int32)) - (I 66 (x7).toNatClampNeg) < 0 then 97 else 89, [some (.inr (.inr (.inl (some (59))))), none, none, some (.inr (.inr (.inl (some (95))))), none, some (.inl (x5)), some (.inl (x6)), some (.inl (x7)), some (.inl (((-1 : Int32)) - (I 66 (x7).toNatClampNeg)))], [], 0, 0, ix_mem 276 I J T)) rfl ⟨rfl, rfl, rfl, rfl, p15⟩ ?_
      refine ix_br (fun c17 => ?_) (fun c17 => ?_)
      · have h18 := h16.1 c17
        refine ix_go 3 (x' := (if x6 < (48 : Int32) then 106 else 104, [some (.inr (.inr (.inl (some (59))))), none, none, some (.inr (.inr (.inl (some (95))))), none, some (.inl (x5)), some (.inl (x6)), some (.inl (x7)), some (.inl (((-1 : Int32)) - (I 66 (x7).toNatClampNeg)))], [], 0, 0, ix_mem 276 I J T)) rfl trivial ?_
        refine ix_br (fun c19 => ?_) (fun c19 => ?_)
        · have h20 := h18.1 c19
          refine ix_go 5 (x' := (if ((-1 : Int32)) - (I 66 (x7).toNatClampNeg) < 0 then 117 else 128, [some (.inr (.inr (.inl (some (59))))), none, none, some (.inr (.inr (.inl (some (95))))), none, some (.inl (x5)), some (.inl (x6)), some (.inl (x7)), some (.inl (((-1 : Int32)) - (I 66 (x7).toNatClampNeg)))], [.inl (x6), .inr (.inr (.inl (some (67))))], 0, 0, ix_mem 276 I J T)) rfl ⟨rfl, rfl⟩ ?_
          refine ix_br (fun c21 => ?_) (fun c21 => ?_)
          · have h22 := h20.1 c21
            obtain ⟨p23, h24⟩ := h22
            obtain ⟨p25, h26⟩ := h24
            refine ix_go 11 (x' := (58, [some (.inr (.inr (.inl (some (59))))), none, none, some (.inr (.inr (.inl (some (95))))), none, some (.inl (x5)), some (.inl (x6 + (1 : Int32))), some (.inl (x7 + (1 : Int32))), some (.inl (((-1 : Int32)) - (I 66 (x7).toNatClampNeg)))], [], 0, 0, ix_mem 276 I (ix_u2 J 67 (x6).toNatClampNeg ((I 66 (x7).toNatClampNeg).toInt64)) T)) rfl ⟨rfl, rfl, rfl, rfl, p23, rfl, rfl, p25⟩ ?_
            refine ix_subW ([some (.inr (.inr (.inl (some (59))))), none, none, some (.inr (.inr (.inl (some (95))))), none, some (.inl (x5)), some (.inl (x6 + (1 : Int32))), some (.inl (x7 + (1 : Int32))), none]) (ix_subS (ix_subS (ix_subS (ix_subS (ix_subS (ix_subS (ix_subS (ix_subS (ix_subN (ix_sub0)))))))))) ?_
            exact h26
          · have h22 := h20.2 c21
            refine ix_go 4 (x' := (134, [some (.inr (.inr (.inl (some (59))))), none, none, some (.inr (.inr (.inl (some (95))))), none, some (.inl (x5)), some (.inl (x6)), some (.inl (x7)), some (.inl (((-1 : Int32)) - (I 66 (x7).toNatClampNeg)))], [.inl ((((-1 : Int32)) - (I 66 (x7).toNatClampNeg)) - ((11 : Int32))), .inr (.inr (.inl (some (95)))), .inl (x6), .inr (.inr (.inl (some (67))))], 0, 0, ix_mem 276 I J T)) rfl trivial ?_
            refine ix_sp rfl ⟨rfl, ⟨ix_lt rfl, ix_eq rfl, ix_lt rfl⟩, ix_le rfl, Nat.le_refl _, Nat.le_refl _, tp_X6_variable h22 (fun v27 I27 J27 T27 h27 => ?_)⟩
            change ix_W _ _ _ (137, [some (.inr (.inr (.inl (some (59))))), none, none, some (.inr (.inr (.inl (some (95))))), none, some (.inl (x5)), some (.inl (x6)), some (.inl (x7)), some (.inl (((-1 : Int32)) - (I 66 (x7).toNatClampNeg)))], [.inr (.inl (v27)), .inl (x6), .inr (.inr (.inl (some (67))))], 0, 0, ix_mem 276 I27 J27 T27)
            obtain ⟨p28, h29⟩ := h27
            refine ix_go 5 (x' := (58, [some (.inr (.inr (.inl (some (59))))), none, none, some (.inr (.inr (.inl (some (95))))), none, some (.inl (x5)), some (.inl (x6 + (1 : Int32))), some (.inl (x7 + (1 : Int32))), some (.inl (((-1 : Int32)) - (I 66 (x7).toNatClampNeg)))], [], 0, 0, ix_mem 276 I27 (ix_u2 J27 67 (x6).toNatClampNeg (v27)) T27)) rfl ⟨rfl, rfl, p28⟩ ?_
            refine ix_subW ([some (.inr (.inr (.inl (some (59))))), none, none, some (.inr (.inr (.inl (some (95))))), none, some (.inl (x5)), some (.inl (x6 + (1 : Int32))), some (.inl (x7 + (1 : Int32))), none]) (ix_subS (ix_subS (ix_subS (ix_subS (ix_subS (ix_subS (ix_subS (ix_subS (ix_subN (ix_sub0)))))))))) ?_
            exact h29
        · have h20 := h18.2 c19
          refine ix_go 1 (x' := (105, [some (.inr (.inr (.inl (some (59))))), none, none, some (.inr (.inr (.inl (some (95))))), none, some (.inl (x5)), some (.inl (x6)), some (.inl (x7)), some (.inl (((-1 : Int32)) - (I 66 (x7).toNatClampNeg)))], [.inr (.inl ((0 : Int64)))], 0, 0, ix_mem 276 I J T)) rfl trivial ?_
          exact ix_sp rfl ⟨Nat.le_refl _, Nat.le_refl _, rfl, hQ _ _ _ _ h20⟩
      · have h18 := h16.2 c17
        refine ix_go 1 (x' := (91, [some (.inr (.inr (.inl (some (59))))), none, none, some (.inr (.inr (.inl (some (95))))), none, some (.inl (x5)), some (.inl (x6)), some (.inl (x7)), some (.inl (((-1 : Int32)) - (I 66 (x7).toNatClampNeg)))], [.inl (((-1 : Int32)) - (I 66 (x7).toNatClampNeg))], 0, 0, ix_mem 276 I J T)) rfl trivial ?_
        refine ix_sp rfl ⟨rfl, trivial, ix_le rfl, Nat.le_refl _, Nat.le_refl _, tp_X7_isVariable h18 (fun v30 I30 J30 T30 h30 => ?_)⟩
        change ix_W _ _ _ (94, [some (.inr (.inr (.inl (some (59))))), none, none, some (.inr (.inr (.inl (some (95))))), none, some (.inl (x5)), some (.inl (x6)), some (.inl (x7)), some (.inl (((-1 : Int32)) - (I 66 (x7).toNatClampNeg)))], [.inl (v30)], 0, 0, ix_mem 276 I30 J30 T30)
        refine ix_go 1 (x' := (if v30 = 0 then 144 else 97, [some (.inr (.inr (.inl (some (59))))), none, none, some (.inr (.inr (.inl (some (95))))), none, some (.inl (x5)), some (.inl (x6)), some (.inl (x7)), some (.inl (((-1 : Int32)) - (I 66 (x7).toNatClampNeg)))], [], 0, 0, ix_mem 276 I30 J30 T30)) rfl trivial ?_
        refine ix_br (fun c31 => ?_) (fun c31 => ?_)
        · have h32 := h30.1 c31
          refine ix_go 3 (x' := (if ((-1 : Int32)) - (I 66 (x7).toNatClampNeg) = (8 : Int32) then 151 else 182, [some (.inr (.inr (.inl (some (59))))), none, none, some (.inr (.inr (.inl (some (95))))), none, some (.inl (x5)), some (.inl (x6)), some (.inl (x7)), some (.inl (((-1 : Int32)) - (I 66 (x7).toNatClampNeg)))], [], 0, 0, ix_mem 276 I30 J30 T30)) rfl trivial ?_
          refine ix_br (fun c33 => ?_) (fun c33 => ?_)
          · have h34 := h32.1 c33
            refine ix_go 3 (x' := (if x6 < (1 : Int32) then 157 else 159, [some (.inr (.inr (.inl (some (59))))), none, none, some (.inr (.inr (.inl (some (95))))), none, some (.inl (x5)), some (.inl (x6)), some (.inl (x7)), some (.inl (((-1 : Int32)) - (I 66 (x7).toNatClampNeg)))], [], 0, 0, ix_mem 276 I30 J30 T30)) rfl trivial ?_
            refine ix_br (fun c35 => ?_) (fun c35 => ?_)
            · have h36 := h34.1 c35
              refine ix_go 1 (x' := (158, [some (.inr (.inr (.inl (some (59))))), none, none, some (.inr (.inr (.inl (some (95))))), none, some (.inl (x5)), some (.inl (x6)), some (.inl (x7)), some (.inl (((-1 : Int32)) - (I 66 (x7).toNatClampNeg)))], [.inr (.inl ((0 : Int64)))], 0, 0, ix_mem 276 I30 J30 T30)) rfl trivial ?_
              exact ix_sp rfl ⟨Nat.le_refl _, Nat.le_refl _, rfl, hQ _ _ _ _ h36⟩
            · have h36 := h34.2 c35
              obtain ⟨p37, h38⟩ := h36
              obtain ⟨p39, h40⟩ := h38
              refine ix_go 17 (x' := (58, [some (.inr (.inr (.inl (some (59))))), none, none, some (.inr (.inr (.inl (some (95))))), none, some (.inl (x5)), some (.inl (x6)), some (.inl (x7 + (1 : Int32))), some (.inl (((-1 : Int32)) - (I 66 (x7).toNatClampNeg)))], [], 0, 0, ix_mem 276 I30 (ix_u2 J30 67 ((x6) - ((1 : Int32))).toNatClampNeg (((1 : Int64)) - (J30 67 ((x6) - ((1 : Int32))).toNatClampNeg))) T30)) rfl ⟨rfl, rfl, rfl, rfl, rfl, rfl, p37, rfl, rfl, p39⟩ ?_
              refine ix_subW ([some (.inr (.inr (.inl (some (59))))), none, none, some (.inr (.inr (.inl (some (95))))), none, some (.inl (x5)), some (.inl (x6)), some (.inl (x7 + (1 : Int32))), none]) (ix_subS (ix_subS (ix_subS (ix_subS (ix_subS (ix_subS (ix_subS (ix_subS (ix_subN (ix_sub0)))))))))) ?_
              exact h40
          · have h34 := h32.2 c33
            refine ix_go 3 (x' := (if x6 < (2 : Int32) then 188 else 190, [some (.inr (.inr (.inl (some (59))))), none, none, some (.inr (.inr (.inl (some (95))))), none, some (.inl (x5)), some (.inl (x6)), some (.inl (x7)), some (.inl (((-1 : Int32)) - (I 66 (x7).toNatClampNeg)))], [], 0, 0, ix_mem 276 I30 J30 T30)) rfl trivial ?_
            refine ix_br (fun c41 => ?_) (fun c41 => ?_)
            · have h42 := h34.1 c41
              refine ix_go 1 (x' := (189, [some (.inr (.inr (.inl (some (59))))), none, none, some (.inr (.inr (.inl (some (95))))), none, some (.inl (x5)), some (.inl (x6)), some (.inl (x7)), some (.inl (((-1 : Int32)) - (I 66 (x7).toNatClampNeg)))], [.inr (.inl ((0 : Int64)))], 0, 0, ix_mem 276 I30 J30 T30)) rfl trivial ?_
              exact ix_sp rfl ⟨Nat.le_refl _, Nat.le_refl _, rfl, hQ _ _ _ _ h42⟩
            · have h42 := h34.2 c41
              obtain ⟨p43, h44⟩ := h42
              obtain ⟨p45, h46⟩ := h44
              refine ix_go 17 (x' := (219, [some (.inr (.inr (.inl (some (59))))), none, none, some (.inr (.inr (.inl (some (95))))), none, some (.inl (x5)), some (.inl (x6 + (-1 : Int32))), some (.inl (x7)), some (.inl (((-1 : Int32)) - (I 66 (x7).toNatClampNeg)))], [.inr (.inl (J30 67 (x6 + (-1 : Int32)).toNatClampNeg)), .inr (.inl (J30 67 ((x6 + (-1 : Int32)) - ((1 : Int32))).toNatClampNeg)), .inl (((-1 : Int32)) - (I 66 (x7).toNatClampNeg)), .inl ((x6 + (-1 : Int32)) - ((1 : Int32))), .inr (.inr (.inl (some (67))))], 0, 0, ix_mem 276 I30 J30 T30)) rfl ⟨rfl, rfl, rfl, rfl, rfl, rfl, p43, rfl, rfl, rfl, rfl, p45⟩ ?_
              refine ix_sp rfl ⟨rfl, trivial, ix_le rfl, Nat.le_refl _, Nat.le_refl _, tp_X9_both h46 (fun v47 I47 J47 T47 h47 => ?_)⟩
              change ix_W _ _ _ (222, [some (.inr (.inr (.inl (some (59))))), none, none, some (.inr (.inr (.inl (some (95))))), none, some (.inl (x5)), some (.inl (x6 + (-1 : Int32))), some (.inl (x7)), some (.inl (((-1 : Int32)) - (I 66 (x7).toNatClampNeg)))], [.inr (.inl (v47)), .inl ((x6 + (-1 : Int32)) - ((1 : Int32))), .inr (.inr (.inl (some (67))))], 0, 0, ix_mem 276 I47 J47 T47)
              obtain ⟨p48, h49⟩ := h47
              refine ix_go 3 (x' := (58, [some (.inr (.inr (.inl (some (59))))), none, none, some (.inr (.inr (.inl (some (95))))), none, some (.inl (x5)), some (.inl (x6 + (-1 : Int32))), some (.inl (x7 + (1 : Int32))), some (.inl (((-1 : Int32)) - (I 66 (x7).toNatClampNeg)))], [], 0, 0, ix_mem 276 I47 (ix_u2 J47 67 ((x6 + (-1 : Int32)) - ((1 : Int32))).toNatClampNeg (v47)) T47)) rfl ⟨rfl, rfl, p48⟩ ?_
              refine ix_subW ([some (.inr (.inr (.inl (some (59))))), none, none, some (.inr (.inr (.inl (some (95))))), none, some (.inl (x5)), some (.inl (x6 + (-1 : Int32))), some (.inl (x7 + (1 : Int32))), none]) (ix_subS (ix_subS (ix_subS (ix_subS (ix_subS (ix_subS (ix_subS (ix_subS (ix_subN (ix_sub0)))))))))) ?_
              exact h49
        · have h32 := h30.2 c31
          refine ix_go 3 (x' := (if x6 < (48 : Int32) then 106 else 104, [some (.inr (.inr (.inl (some (59))))), none, none, some (.inr (.inr (.inl (some (95))))), none, some (.inl (x5)), some (.inl (x6)), some (.inl (x7)), some (.inl (((-1 : Int32)) - (I 66 (x7).toNatClampNeg)))], [], 0, 0, ix_mem 276 I30 J30 T30)) rfl trivial ?_
          refine ix_br (fun c50 => ?_) (fun c50 => ?_)
          · have h51 := h32.1 c50
            refine ix_go 5 (x' := (if ((-1 : Int32)) - (I 66 (x7).toNatClampNeg) < 0 then 117 else 128, [some (.inr (.inr (.inl (some (59))))), none, none, some (.inr (.inr (.inl (some (95))))), none, some (.inl (x5)), some (.inl (x6)), some (.inl (x7)), some (.inl (((-1 : Int32)) - (I 66 (x7).toNatClampNeg)))], [.inl (x6), .inr (.inr (.inl (some (67))))], 0, 0, ix_mem 276 I30 J30 T30)) rfl ⟨rfl, rfl⟩ ?_
            refine ix_br (fun c52 => ?_) (fun c52 => ?_)
            · have h53 := h51.1 c52
              obtain ⟨p54, h55⟩ := h53
              obtain ⟨p56, h57⟩ := h55
              refine ix_go 11 (x' := (58, [some (.inr (.inr (.inl (some (59))))), none, none, some (.inr (.inr (.inl (some (95))))), none, some (.inl (x5)), some (.inl (x6 + (1 : Int32))), some (.inl (x7 + (1 : Int32))), some (.inl (((-1 : Int32)) - (I 66 (x7).toNatClampNeg)))], [], 0, 0, ix_mem 276 I30 (ix_u2 J30 67 (x6).toNatClampNeg ((I30 66 (x7).toNatClampNeg).toInt64)) T30)) rfl ⟨rfl, rfl, rfl, rfl, p54, rfl, rfl, p56⟩ ?_
              refine ix_subW ([some (.inr (.inr (.inl (some (59))))), none, none, some (.inr (.inr (.inl (some (95))))), none, some (.inl (x5)), some (.inl (x6 + (1 : Int32))), some (.inl (x7 + (1 : Int32))), none]) (ix_subS (ix_subS (ix_subS (ix_subS (ix_subS (ix_subS (ix_subS (ix_subS (ix_subN (ix_sub0)))))))))) ?_
              exact h57
            · have h53 := h51.2 c52
              refine ix_go 4 (x' := (134, [some (.inr (.inr (.inl (some (59))))), none, none, some (.inr (.inr (.inl (some (95))))), none, some (.inl (x5)), some (.inl (x6)), some (.inl (x7)), some (.inl (((-1 : Int32)) - (I 66 (x7).toNatClampNeg)))], [.inl ((((-1 : Int32)) - (I 66 (x7).toNatClampNeg)) - ((11 : Int32))), .inr (.inr (.inl (some (95)))), .inl (x6), .inr (.inr (.inl (some (67))))], 0, 0, ix_mem 276 I30 J30 T30)) rfl trivial ?_
              refine ix_sp rfl ⟨rfl, ⟨ix_lt rfl, ix_eq rfl, ix_lt rfl⟩, ix_le rfl, Nat.le_refl _, Nat.le_refl _, tp_X6_variable h53 (fun v58 I58 J58 T58 h58 => ?_)⟩
              change ix_W _ _ _ (137, [some (.inr (.inr (.inl (some (59))))), none, none, some (.inr (.inr (.inl (some (95))))), none, some (.inl (x5)), some (.inl (x6)), some (.inl (x7)), some (.inl (((-1 : Int32)) - (I 66 (x7).toNatClampNeg)))], [.inr (.inl (v58)), .inl (x6), .inr (.inr (.inl (some (67))))], 0, 0, ix_mem 276 I58 J58 T58)
              obtain ⟨p59, h60⟩ := h58
              refine ix_go 5 (x' := (58, [some (.inr (.inr (.inl (some (59))))), none, none, some (.inr (.inr (.inl (some (95))))), none, some (.inl (x5)), some (.inl (x6 + (1 : Int32))), some (.inl (x7 + (1 : Int32))), some (.inl (((-1 : Int32)) - (I 66 (x7).toNatClampNeg)))], [], 0, 0, ix_mem 276 I58 (ix_u2 J58 67 (x6).toNatClampNeg (v58)) T58)) rfl ⟨rfl, rfl, p59⟩ ?_
              refine ix_subW ([some (.inr (.inr (.inl (some (59))))), none, none, some (.inr (.inr (.inl (some (95))))), none, some (.inl (x5)), some (.inl (x6 + (1 : Int32))), some (.inl (x7 + (1 : Int32))), none]) (ix_subS (ix_subS (ix_subS (ix_subS (ix_subS (ix_subS (ix_subS (ix_subS (ix_subN (ix_sub0)))))))))) ?_
              exact h60
          · have h51 := h32.2 c50
            refine ix_go 1 (x' := (105, [some (.inr (.inr (.inl (some (59))))), none, none, some (.inr (.inr (.inl (some (95))))), none, some (.inl (x5)), some (.inl (x6)), some (.inl (x7)), some (.inl (((-1 : Int32)) - (I 66 (x7).toNatClampNeg)))], [.inr (.inl ((0 : Int64)))], 0, 0, ix_mem 276 I30 J30 T30)) rfl trivial ?_
            exact ix_sp rfl ⟨Nat.le_refl _, Nat.le_refl _, rfl, hQ _ _ _ _ h51⟩
    · have h14 := h12.2 c13
      refine ix_go 2 (x' := (if x6 ≤ 0 then 243 else 234, [some (.inr (.inr (.inl (some (59))))), none, none, some (.inr (.inr (.inl (some (95))))), none, some (.inl (x5)), some (.inl (x6)), some (.inl (x7)), none], [], 0, 0, ix_mem 276 I J T)) rfl trivial ?_
      refine ix_br (fun c61 => ?_) (fun c61 => ?_)
      · have h62 := h14.1 c61
        refine ix_go 1 (x' := (244, [some (.inr (.inr (.inl (some (59))))), none, none, some (.inr (.inr (.inl (some (95))))), none, some (.inl (x5)), some (.inl (x6)), some (.inl (x7)), none], [.inr (.inl ((0 : Int64)))], 0, 0, ix_mem 276 I J T)) rfl trivial ?_
        exact ix_sp rfl ⟨Nat.le_refl _, Nat.le_refl _, rfl, hQ _ _ _ _ h62⟩
      · have h62 := h14.2 c61
        refine ix_go 5 (x' := (244, [some (.inr (.inr (.inl (some (59))))), none, none, some (.inr (.inr (.inl (some (95))))), none, some (.inl (x5)), some (.inl (x6)), some (.inl (x7)), none], [.inr (.inl (J 67 ((0 : Int32)).toNatClampNeg))], 0, 0, ix_mem 276 I J T)) rfl ⟨rfl, rfl, rfl, rfl, rfl⟩ ?_
        exact ix_sp rfl ⟨Nat.le_refl _, Nat.le_refl _, rfl, hQ _ _ _ _ h62⟩
  · have h12 := hb.2 c11
    refine ix_go 2 (x' := (if x6 ≤ 0 then 243 else 234, [some (.inr (.inr (.inl (some (59))))), none, none, some (.inr (.inr (.inl (some (95))))), none, some (.inl (x5)), some (.inl (x6)), some (.inl (x7)), none], [], 0, 0, ix_mem 276 I J T)) rfl trivial ?_
    refine ix_br (fun c63 => ?_) (fun c63 => ?_)
    · have h64 := h12.1 c63
      refine ix_go 1 (x' := (244, [some (.inr (.inr (.inl (some (59))))), none, none, some (.inr (.inr (.inl (some (95))))), none, some (.inl (x5)), some (.inl (x6)), some (.inl (x7)), none], [.inr (.inl ((0 : Int64)))], 0, 0, ix_mem 276 I J T)) rfl trivial ?_
      exact ix_sp rfl ⟨Nat.le_refl _, Nat.le_refl _, rfl, hQ _ _ _ _ h64⟩
    · have h64 := h12.2 c63
      refine ix_go 5 (x' := (244, [some (.inr (.inr (.inl (some (59))))), none, none, some (.inr (.inr (.inl (some (95))))), none, some (.inl (x5)), some (.inl (x6)), some (.inl (x7)), none], [.inr (.inl (J 67 ((0 : Int32)).toNatClampNeg))], 0, 0, ix_mem 276 I J T)) rfl ⟨rfl, rfl, rfl, rfl, rfl⟩ ?_
      exact ix_sp rfl ⟨Nat.le_refl _, Nat.le_refl _, rfl, hQ _ _ _ _ h64⟩
def wp_X9_compute_59 (a0 : Int32) (a1 : Int32) (I : Nat → Nat → Int32) (J : Nat → Nat → Int64) (T : Option Nat) (P : Int64 → (Nat → Nat → Int32) → (Nat → Nat → Int64) → Option Nat → Prop) : Prop := ((a1 = 0 → ix_inb (a0) 12 = true ∧ ((a1 = 0 → ix_inb (a0) 12 = true ∧ ((I 64 (a0).toNatClampNeg = I 65 (a0).toNatClampNeg → P ((1 : Int64)) I J T) ∧ (¬ (I 64 (a0).toNatClampNeg = I 65 (a0).toNatClampNeg) → wl_X9_compute_59_58_c95 (I 65 (a0).toNatClampNeg) ((0 : Int32)) (I 64 (a0).toNatClampNeg) I J T P))) ∧ (¬ (a1 = 0) → ix_inb (a0) 12 = true ∧ ((I 64 (a0).toNatClampNeg = I 64 (a0).toNatClampNeg → P ((1 : Int64)) I J T) ∧ (¬ (I 64 (a0).toNatClampNeg = I 64 (a0).toNatClampNeg) → wl_X9_compute_59_58_c95 (I 64 (a0).toNatClampNeg) ((0 : Int32)) (I 64 (a0).toNatClampNeg) I J T P))))) ∧ (¬ (a1 = 0) → ix_inb (a0) 12 = true ∧ ((a1 = 0 → ix_inb (a0) 12 = true ∧ ((I 63 (a0).toNatClampNeg = I 65 (a0).toNatClampNeg → P ((1 : Int64)) I J T) ∧ (¬ (I 63 (a0).toNatClampNeg = I 65 (a0).toNatClampNeg) → wl_X9_compute_59_58_c95 (I 65 (a0).toNatClampNeg) ((0 : Int32)) (I 63 (a0).toNatClampNeg) I J T P))) ∧ (¬ (a1 = 0) → ix_inb (a0) 12 = true ∧ ((I 63 (a0).toNatClampNeg = I 64 (a0).toNatClampNeg → P ((1 : Int64)) I J T) ∧ (¬ (I 63 (a0).toNatClampNeg = I 64 (a0).toNatClampNeg) → wl_X9_compute_59_58_c95 (I 64 (a0).toNatClampNeg) ((0 : Int32)) (I 63 (a0).toNatClampNeg) I J T P))))))
set_option maxRecDepth 20000 in
theorem tp_X9_compute_59 {d : Nat} {a0 : Int32} {a1 : Int32} {I : Nat → Nat → Int32} {J : Nat → Nat → Int64} {T : Option Nat} {P : Int64 → (Nat → Nat → Int32) → (Nat → Nat → Int64) → Option Nat → Prop} {Q : ix_Q} (h : wp_X9_compute_59 a0 a1 I J T P) (hQ : ∀ v I J T, P v I J T → Q (some (.inr (.inl v))) (ix_mem 276 I J T)) : ix_C (d + 3) 141 [.inr (.inr (.inl (some (59)))), .inl (a0), .inl (a1), .inr (.inr (.inl (some (95))))] (ix_mem 276 I J T) Q := by
  unfold wp_X9_compute_59 at h
  refine ix_enter (ls := [some (.inr (.inr (.inl (some (59))))), some (.inl (a0)), some (.inl (a1)), some (.inr (.inr (.inl (some (95))))), none, none, none, none, none]) rfl rfl rfl (Nat.le_of_ble_eq_true rfl) ?_
  refine ix_go 2 (x' := (if a1 = 0 then 13 else 4, [some (.inr (.inr (.inl (some (59))))), some (.inl (a0)), some (.inl (a1)), some (.inr (.inr (.inl (some (95))))), none, none, none, none, none], [], 0, 0, ix_mem 276 I J T)) rfl trivial ?_
  refine ix_br (fun c1 => ?_) (fun c1 => ?_)
  · have h2 := h.1 c1
    obtain ⟨p3, h4⟩ := h2
    refine ix_go 7 (x' := (if a1 = 0 then 34 else 25, [some (.inr (.inr (.inl (some (59))))), some (.inl (a0)), some (.inl (a1)), some (.inr (.inr (.inl (some (95))))), some (.inl (I 64 (a0).toNatClampNeg)), none, none, none, none], [], 0, 0, ix_mem 276 I J T)) rfl ⟨rfl, rfl, rfl, rfl, p3⟩ ?_
    refine ix_br (fun c5 => ?_) (fun c5 => ?_)
    · have h6 := h4.1 c5
      obtain ⟨p7, h8⟩ := h6
      refine ix_go 8 (x' := (if I 64 (a0).toNatClampNeg = I 65 (a0).toNatClampNeg then 49 else 51, [some (.inr (.inr (.inl (some (59))))), some (.inl (a0)), some (.inl (a1)), some (.inr (.inr (.inl (some (95))))), some (.inl (I 64 (a0).toNatClampNeg)), some (.inl (I 65 (a0).toNatClampNeg)), none, none, none], [], 0, 0, ix_mem 276 I J T)) rfl ⟨rfl, rfl, rfl, rfl, p7⟩ ?_
      refine ix_br (fun c9 => ?_) (fun c9 => ?_)
      · have h10 := h8.1 c9
        refine ix_go 1 (x' := (50, [some (.inr (.inr (.inl (some (59))))), some (.inl (a0)), some (.inl (a1)), some (.inr (.inr (.inl (some (95))))), some (.inl (I 64 (a0).toNatClampNeg)), some (.inl (I 65 (a0).toNatClampNeg)), none, none, none], [.inr (.inl ((1 : Int64)))], 0, 0, ix_mem 276 I J T)) rfl trivial ?_
        exact ix_sp rfl ⟨Nat.le_refl _, Nat.le_refl _, rfl, hQ _ _ _ _ h10⟩
      · have h10 := h8.2 c9
        refine ix_go 4 (x' := (58, [some (.inr (.inr (.inl (some (59))))), some (.inl (a0)), some (.inl (a1)), some (.inr (.inr (.inl (some (95))))), some (.inl (I 64 (a0).toNatClampNeg)), some (.inl (I 65 (a0).toNatClampNeg)), some (.inl ((0 : Int32))), some (.inl (I 64 (a0).toNatClampNeg)), none], [], 0, 0, ix_mem 276 I J T)) rfl trivial ?_
        refine ix_subW ([some (.inr (.inr (.inl (some (59))))), none, none, some (.inr (.inr (.inl (some (95))))), none, some (.inl (I 65 (a0).toNatClampNeg)), some (.inl ((0 : Int32))), some (.inl (I 64 (a0).toNatClampNeg)), none]) (ix_subS (ix_subN (ix_subN (ix_subS (ix_subN (ix_subS (ix_subS (ix_subS (ix_subS (ix_sub0)))))))))) ?_
        exact tl_X9_compute_59_58_c95 h10 hQ
    · have h6 := h4.2 c5
      obtain ⟨p65, h66⟩ := h6
      refine ix_go 9 (x' := (if I 64 (a0).toNatClampNeg = I 64 (a0).toNatClampNeg then 49 else 51, [some (.inr (.inr (.inl (some (59))))), some (.inl (a0)), some (.inl (a1)), some (.inr (.inr (.inl (some (95))))), some (.inl (I 64 (a0).toNatClampNeg)), some (.inl (I 64 (a0).toNatClampNeg)), none, none, none], [], 0, 0, ix_mem 276 I J T)) rfl ⟨rfl, rfl, rfl, rfl, p65⟩ ?_
      refine ix_br (fun c67 => ?_) (fun c67 => ?_)
      · have h68 := h66.1 c67
        refine ix_go 1 (x' := (50, [some (.inr (.inr (.inl (some (59))))), some (.inl (a0)), some (.inl (a1)), some (.inr (.inr (.inl (some (95))))), some (.inl (I 64 (a0).toNatClampNeg)), some (.inl (I 64 (a0).toNatClampNeg)), none, none, none], [.inr (.inl ((1 : Int64)))], 0, 0, ix_mem 276 I J T)) rfl trivial ?_
        exact ix_sp rfl ⟨Nat.le_refl _, Nat.le_refl _, rfl, hQ _ _ _ _ h68⟩
      · have h68 := h66.2 c67
        refine ix_go 4 (x' := (58, [some (.inr (.inr (.inl (some (59))))), some (.inl (a0)), some (.inl (a1)), some (.inr (.inr (.inl (some (95))))), some (.inl (I 64 (a0).toNatClampNeg)), some (.inl (I 64 (a0).toNatClampNeg)), some (.inl ((0 : Int32))), some (.inl (I 64 (a0).toNatClampNeg)), none], [], 0, 0, ix_mem 276 I J T)) rfl trivial ?_
        refine ix_subW ([some (.inr (.inr (.inl (some (59))))), none, none, some (.inr (.inr (.inl (some (95))))), none, some (.inl (I 64 (a0).toNatClampNeg)), some (.inl ((0 : Int32))), some (.inl (I 64 (a0).toNatClampNeg)), none]) (ix_subS (ix_subN (ix_subN (ix_subS (ix_subN (ix_subS (ix_subS (ix_subS (ix_subS (ix_sub0)))))))))) ?_
        exact tl_X9_compute_59_58_c95 h68 hQ
  · have h2 := h.2 c1
    obtain ⟨p69, h70⟩ := h2
    refine ix_go 8 (x' := (if a1 = 0 then 34 else 25, [some (.inr (.inr (.inl (some (59))))), some (.inl (a0)), some (.inl (a1)), some (.inr (.inr (.inl (some (95))))), some (.inl (I 63 (a0).toNatClampNeg)), none, none, none, none], [], 0, 0, ix_mem 276 I J T)) rfl ⟨rfl, rfl, rfl, rfl, p69⟩ ?_
    refine ix_br (fun c71 => ?_) (fun c71 => ?_)
    · have h72 := h70.1 c71
      obtain ⟨p73, h74⟩ := h72
      refine ix_go 8 (x' := (if I 63 (a0).toNatClampNeg = I 65 (a0).toNatClampNeg then 49 else 51, [some (.inr (.inr (.inl (some (59))))), some (.inl (a0)), some (.inl (a1)), some (.inr (.inr (.inl (some (95))))), some (.inl (I 63 (a0).toNatClampNeg)), some (.inl (I 65 (a0).toNatClampNeg)), none, none, none], [], 0, 0, ix_mem 276 I J T)) rfl ⟨rfl, rfl, rfl, rfl, p73⟩ ?_
      refine ix_br (fun c75 => ?_) (fun c75 => ?_)
      · have h76 := h74.1 c75
        refine ix_go 1 (x' := (50, [some (.inr (.inr (.inl (some (59))))), some (.inl (a0)), some (.inl (a1)), some (.inr (.inr (.inl (some (95))))), some (.inl (I 63 (a0).toNatClampNeg)), some (.inl (I 65 (a0).toNatClampNeg)), none, none, none], [.inr (.inl ((1 : Int64)))], 0, 0, ix_mem 276 I J T)) rfl trivial ?_
        exact ix_sp rfl ⟨Nat.le_refl _, Nat.le_refl _, rfl, hQ _ _ _ _ h76⟩
      · have h76 := h74.2 c75
        refine ix_go 4 (x' := (58, [some (.inr (.inr (.inl (some (59))))), some (.inl (a0)), some (.inl (a1)), some (.inr (.inr (.inl (some (95))))), some (.inl (I 63 (a0).toNatClampNeg)), some (.inl (I 65 (a0).toNatClampNeg)), some (.inl ((0 : Int32))), some (.inl (I 63 (a0).toNatClampNeg)), none], [], 0, 0, ix_mem 276 I J T)) rfl trivial ?_
        refine ix_subW ([some (.inr (.inr (.inl (some (59))))), none, none, some (.inr (.inr (.inl (some (95))))), none, some (.inl (I 65 (a0).toNatClampNeg)), some (.inl ((0 : Int32))), some (.inl (I 63 (a0).toNatClampNeg)), none]) (ix_subS (ix_subN (ix_subN (ix_subS (ix_subN (ix_subS (ix_subS (ix_subS (ix_subS (ix_sub0)))))))))) ?_
        exact tl_X9_compute_59_58_c95 h76 hQ
    · have h72 := h70.2 c71
      obtain ⟨p77, h78⟩ := h72
      refine ix_go 9 (x' := (if I 63 (a0).toNatClampNeg = I 64 (a0).toNatClampNeg then 49 else 51, [some (.inr (.inr (.inl (some (59))))), some (.inl (a0)), some (.inl (a1)), some (.inr (.inr (.inl (some (95))))), some (.inl (I 63 (a0).toNatClampNeg)), some (.inl (I 64 (a0).toNatClampNeg)), none, none, none], [], 0, 0, ix_mem 276 I J T)) rfl ⟨rfl, rfl, rfl, rfl, p77⟩ ?_
      refine ix_br (fun c79 => ?_) (fun c79 => ?_)
      · have h80 := h78.1 c79
        refine ix_go 1 (x' := (50, [some (.inr (.inr (.inl (some (59))))), some (.inl (a0)), some (.inl (a1)), some (.inr (.inr (.inl (some (95))))), some (.inl (I 63 (a0).toNatClampNeg)), some (.inl (I 64 (a0).toNatClampNeg)), none, none, none], [.inr (.inl ((1 : Int64)))], 0, 0, ix_mem 276 I J T)) rfl trivial ?_
        exact ix_sp rfl ⟨Nat.le_refl _, Nat.le_refl _, rfl, hQ _ _ _ _ h80⟩
      · have h80 := h78.2 c79
        refine ix_go 4 (x' := (58, [some (.inr (.inr (.inl (some (59))))), some (.inl (a0)), some (.inl (a1)), some (.inr (.inr (.inl (some (95))))), some (.inl (I 63 (a0).toNatClampNeg)), some (.inl (I 64 (a0).toNatClampNeg)), some (.inl ((0 : Int32))), some (.inl (I 63 (a0).toNatClampNeg)), none], [], 0, 0, ix_mem 276 I J T)) rfl trivial ?_
        refine ix_subW ([some (.inr (.inr (.inl (some (59))))), none, none, some (.inr (.inr (.inl (some (95))))), none, some (.inl (I 64 (a0).toNatClampNeg)), some (.inl ((0 : Int32))), some (.inl (I 63 (a0).toNatClampNeg)), none]) (ix_subS (ix_subN (ix_subN (ix_subS (ix_subN (ix_subS (ix_subS (ix_subS (ix_subS (ix_sub0)))))))))) ?_
        exact tl_X9_compute_59_58_c95 h80 hQ
def wb_X9_compute_68_58_c95 (x5 : Int32) (x6 : Int32) (x7 : Int32) (I : Nat → Nat → Int32) (J : Nat → Nat → Int64) (T : Option Nat) (V58 : Int32 → Int32 → Int32 → (Nat → Nat → Int32) → (Nat → Nat → Int64) → Option Nat → Prop) (P : Int64 → (Nat → Nat → Int32) → (Nat → Nat → Int64) → Option Nat → Prop) : Prop := ((x7 < x5 → ((x7 < (600 : Int32) → ix_inb (x7) 600 = true ∧ ((((-1 : Int32)) - (I 75 (x7).toNatClampNeg) < 0 → ((x6 < (48 : Int32) → ((((-1 : Int32)) - (I 75 (x7).toNatClampNeg) < 0 → ix_inb (x7) 600 = true ∧ ix_inb (x6) 48 = true ∧ V58 (x5) (x6 + (1 : Int32)) (x7 + (1 : Int32)) I (ix_u2 J 76 (x6).toNatClampNeg ((I 75 (x7).toNatClampNeg).toInt64)) T) ∧ (¬ (((-1 : Int32)) - (I 75 (x7).toNatClampNeg) < 0) → wp_X6_variable ((((-1 : Int32)) - (I 75 (x7).toNatClampNeg)) - ((11 : Int32))) I J T (fun v27 I27 J27 T27 => ix_inb (x6) 48 = true ∧ V58 (x5) (x6 + (1 : Int32)) (x7 + (1 : Int32)) I27 (ix_u2 J27 76 (x6).toNatClampNeg (v27)) T27)))) ∧ (¬ (x6 < (48 : Int32)) → P ((0 : Int64)) I J T))) ∧ (¬ (((-1 : Int32)) - (I 75 (x7).toNatClampNeg) < 0) → wp_X7_isVariable (((-1 : Int32)) - (I 75 (x7).toNatClampNeg)) I J T (fun v30 I30 J30 T30 => ((v30 = 0 → ((((-1 : Int32)) - (I 75 (x7).toNatClampNeg) = (8 : Int32) → ((x6 < (1 : Int32) → P ((0 : Int64)) I30 J30 T30) ∧ (¬ (x6 < (1 : Int32)) → ix_inb ((x6) - ((1 : Int32))) 48 = true ∧ ix_inb ((x6) - ((1 : Int32))) 48 = true ∧ V58 (x5) (x6) (x7 + (1 : Int32)) I30 (ix_u2 J30 76 ((x6) - ((1 : Int32))).toNatClampNeg (((1 : Int64)) - (J30 76 ((x6) - ((1 : Int32))).toNatClampNeg))) T30))) ∧ (¬ (((-1 : Int32)) - (I 75 (x7).toNatClampNeg) = (8 : Int32)) → ((x6 < (2 : Int32) → P ((0 : Int64)) I30 J30 T30) ∧ (¬ (x6 < (2 : Int32)) → ix_inb ((x6 + (-1 : Int32)) - ((1 : Int32))) 48 = true ∧ ix_inb (x6 + (-1 : Int32)) 48 = true ∧ wp_X9_both (((-1 : Int32)) - (I 75 (x7).toNatClampNeg)) (J30 76 ((x6 + (-1 : Int32)) - ((1 : Int32))).toNatClampNeg) (J30 76 (x6 + (-1 : Int32)).toNatClampNeg) I30 J30 T30 (fun v47 I47 J47 T47 => ix_inb ((x6 + (-1 : Int32)) - ((1 : Int32))) 48 = true ∧ V58 (x5) (x6 + (-1 : Int32)) (x7 + (1 : Int32)) I47 (ix_u2 J47 76 ((x6 + (-1 : Int32)) - ((1 : Int32))).toNatClampNeg (v47)) T47)))))) ∧ (¬ (v30 = 0) → ((x6 < (48 : Int32) → ((((-1 : Int32)) - (I 75 (x7).toNatClampNeg) < 0 → ix_inb (x7) 600 = true ∧ ix_inb (x6) 48 = true ∧ V58 (x5) (x6 + (1 : Int32)) (x7 + (1 : Int32)) I30 (ix_u2 J30 76 (x6).toNatClampNeg ((I30 75 (x7).toNatClampNeg).toInt64)) T30) ∧ (¬ (((-1 : Int32)) - (I 75 (x7).toNatClampNeg) < 0) → wp_X6_variable ((((-1 : Int32)) - (I 75 (x7).toNatClampNeg)) - ((11 : Int32))) I30 J30 T30 (fun v58 I58 J58 T58 => ix_inb (x6) 48 = true ∧ V58 (x5) (x6 + (1 : Int32)) (x7 + (1 : Int32)) I58 (ix_u2 J58 76 (x6).toNatClampNeg (v58)) T58)))) ∧ (¬ (x6 < (48 : Int32)) → P ((0 : Int64)) I30 J30 T30)))))))) ∧ (¬ (x7 < (600 : Int32)) → ((x6 ≤ 0 → P ((0 : Int64)) I J T) ∧ (¬ (x6 ≤ 0) → P (J 76 ((0 : Int32)).toNatClampNeg) I J T))))) ∧ (¬ (x7 < x5) → ((x6 ≤ 0 → P ((0 : Int64)) I J T) ∧ (¬ (x6 ≤ 0) → P (J 76 ((0 : Int32)).toNatClampNeg) I J T))))
def wl_X9_compute_68_58_c95 (x5 : Int32) (x6 : Int32) (x7 : Int32) (I : Nat → Nat → Int32) (J : Nat → Nat → Int64) (T : Option Nat) (P : Int64 → (Nat → Nat → Int32) → (Nat → Nat → Int64) → Option Nat → Prop) : Prop := ∀ V : Int32 → Int32 → Int32 → (Nat → Nat → Int32) → (Nat → Nat → Int64) → Option Nat → Prop, (∀ (x5 : Int32) (x6 : Int32) (x7 : Int32) (I : Nat → Nat → Int32) (J : Nat → Nat → Int64) (T : Option Nat), wb_X9_compute_68_58_c95 x5 x6 x7 I J T V P → V x5 x6 x7 I J T) → V x5 x6 x7 I J T
set_option maxRecDepth 20000 in
theorem tl_X9_compute_68_58_c95 {d : Nat} {x5 : Int32} {x6 : Int32} {x7 : Int32} {I : Nat → Nat → Int32} {J : Nat → Nat → Int64} {T : Option Nat} {P : Int64 → (Nat → Nat → Int32) → (Nat → Nat → Int64) → Option Nat → Prop} {Q : ix_Q} (h : wl_X9_compute_68_58_c95 x5 x6 x7 I J T P) (hQ : ∀ v I J T, P v I J T → Q (some (.inr (.inl v))) (ix_mem 276 I J T)) : ix_W (ix_C (d + 2)) (9, ix_lk ix_l141, (some .long), 0, 0, Nat.blt 0 0, none) Q (58, [some (.inr (.inr (.inl (some (68))))), none, none, some (.inr (.inr (.inl (some (95))))), none, some (.inl (x5)), some (.inl (x6)), some (.inl (x7)), none], [], 0, 0, ix_mem 276 I J T) := by
  refine h (fun x5 x6 x7 I J T => ix_W (ix_C (d + 2)) (9, ix_lk ix_l141, (some .long), 0, 0, Nat.blt 0 0, none) Q (58, [some (.inr (.inr (.inl (some (68))))), none, none, some (.inr (.inr (.inl (some (95))))), none, some (.inl (x5)), some (.inl (x6)), some (.inl (x7)), none], [], 0, 0, ix_mem 276 I J T)) ?_
  intro x5 x6 x7 I J T hb
  unfold wb_X9_compute_68_58_c95 at hb
  refine ix_go 3 (x' := (if x7 < x5 then 65 else 229, [some (.inr (.inr (.inl (some (68))))), none, none, some (.inr (.inr (.inl (some (95))))), none, some (.inl (x5)), some (.inl (x6)), some (.inl (x7)), none], [], 0, 0, ix_mem 276 I J T)) rfl trivial ?_
  refine ix_br (fun c11 => ?_) (fun c11 => ?_)
  · have h12 := hb.1 c11
    refine ix_go 3 (x' := (if x7 < (600 : Int32) then 73 else 229, [some (.inr (.inr (.inl (some (68))))), none, none, some (.inr (.inr (.inl (some (95))))), none, some (.inl (x5)), some (.inl (x6)), some (.inl (x7)), none], [], 0, 0, ix_mem 276 I J T)) rfl trivial ?_
    refine ix_br (fun c13 => ?_) (fun c13 => ?_)
    · have h14 := h12.1 c13
      obtain ⟨p15, h16⟩ := h14
      refine ix_go 9 (x' := (if ((-1 : Int32)) - (I 75 (x7).toNatClampNeg) < 0 then 97 else 89, [some (.inr (.inr (.inl (some (68))))), none, none, some (.inr (.inr (.inl (some (95))))), none, some (.inl (x5)), some (.inl (x6)), some (.inl (x7)), some (.inl (((-1 : Int32)) - (I 75 (x7).toNatClampNeg)))], [], 0, 0, ix_mem 276 I J T)) rfl ⟨rfl, rfl, rfl, rfl, p15⟩ ?_
      refine ix_br (fun c17 => ?_) (fun c17 => ?_)
      · have h18 := h16.1 c17
        refine ix_go 3 (x' := (if x6 < (48 : Int32) then 106 else 104, [some (.inr (.inr (.inl (some (68))))), none, none, some (.inr (.inr (.inl (some (95))))), none, some (.inl (x5)), some (.inl (x6)), some (.inl (x7)), some (.inl (((-1 : Int32)) - (I 75 (x7).toNatClampNeg)))], [], 0, 0, ix_mem 276 I J T)) rfl trivial ?_
        refine ix_br (fun c19 => ?_) (fun c19 => ?_)
        · have h20 := h18.1 c19
          refine ix_go 5 (x' := (if ((-1 : Int32)) - (I 75 (x7).toNatClampNeg) < 0 then 117 else 128, [some (.inr (.inr (.inl (some (68))))), none, none, some (.inr (.inr (.inl (some (95))))), none, some (.inl (x5)), some (.inl (x6)), some (.inl (x7)), some (.inl (((-1 : Int32)) - (I 75 (x7).toNatClampNeg)))], [.inl (x6), .inr (.inr (.inl (some (76))))], 0, 0, ix_mem 276 I J T)) rfl ⟨rfl, rfl⟩ ?_
          refine ix_br (fun c21 => ?_) (fun c21 => ?_)
          · have h22 := h20.1 c21
            obtain ⟨p23, h24⟩ := h22
            obtain ⟨p25, h26⟩ := h24
            refine ix_go 11 (x' := (58, [some (.inr (.inr (.inl (some (68))))), none, none, some (.inr (.inr (.inl (some (95))))), none, some (.inl (x5)), some (.inl (x6 + (1 : Int32))), some (.inl (x7 + (1 : Int32))), some (.inl (((-1 : Int32)) - (I 75 (x7).toNatClampNeg)))], [], 0, 0, ix_mem 276 I (ix_u2 J 76 (x6).toNatClampNeg ((I 75 (x7).toNatClampNeg).toInt64)) T)) rfl ⟨rfl, rfl, rfl, rfl, p23, rfl, rfl, p25⟩ ?_
            refine ix_subW ([some (.inr (.inr (.inl (some (68))))), none, none, some (.inr (.inr (.inl (some (95))))), none, some (.inl (x5)), some (.inl (x6 + (1 : Int32))), some (.inl (x7 + (1 : Int32))), none]) (ix_subS (ix_subS (ix_subS (ix_subS (ix_subS (ix_subS (ix_subS (ix_subS (ix_subN (ix_sub0)))))))))) ?_
            exact h26
          · have h22 := h20.2 c21
            refine ix_go 4 (x' := (134, [some (.inr (.inr (.inl (some (68))))), none, none, some (.inr (.inr (.inl (some (95))))), none, some (.inl (x5)), some (.inl (x6)), some (.inl (x7)), some (.inl (((-1 : Int32)) - (I 75 (x7).toNatClampNeg)))], [.inl ((((-1 : Int32)) - (I 75 (x7).toNatClampNeg)) - ((11 : Int32))), .inr (.inr (.inl (some (95)))), .inl (x6), .inr (.inr (.inl (some (76))))], 0, 0, ix_mem 276 I J T)) rfl trivial ?_
            refine ix_sp rfl ⟨rfl, ⟨ix_lt rfl, ix_eq rfl, ix_lt rfl⟩, ix_le rfl, Nat.le_refl _, Nat.le_refl _, tp_X6_variable h22 (fun v27 I27 J27 T27 h27 => ?_)⟩
            change ix_W _ _ _ (137, [some (.inr (.inr (.inl (some (68))))), none, none, some (.inr (.inr (.inl (some (95))))), none, some (.inl (x5)), some (.inl (x6)), some (.inl (x7)), some (.inl (((-1 : Int32)) - (I 75 (x7).toNatClampNeg)))], [.inr (.inl (v27)), .inl (x6), .inr (.inr (.inl (some (76))))], 0, 0, ix_mem 276 I27 J27 T27)
            obtain ⟨p28, h29⟩ := h27
            refine ix_go 5 (x' := (58, [some (.inr (.inr (.inl (some (68))))), none, none, some (.inr (.inr (.inl (some (95))))), none, some (.inl (x5)), some (.inl (x6 + (1 : Int32))), some (.inl (x7 + (1 : Int32))), some (.inl (((-1 : Int32)) - (I 75 (x7).toNatClampNeg)))], [], 0, 0, ix_mem 276 I27 (ix_u2 J27 76 (x6).toNatClampNeg (v27)) T27)) rfl ⟨rfl, rfl, p28⟩ ?_
            refine ix_subW ([some (.inr (.inr (.inl (some (68))))), none, none, some (.inr (.inr (.inl (some (95))))), none, some (.inl (x5)), some (.inl (x6 + (1 : Int32))), some (.inl (x7 + (1 : Int32))), none]) (ix_subS (ix_subS (ix_subS (ix_subS (ix_subS (ix_subS (ix_subS (ix_subS (ix_subN (ix_sub0)))))))))) ?_
            exact h29
        · have h20 := h18.2 c19
          refine ix_go 1 (x' := (105, [some (.inr (.inr (.inl (some (68))))), none, none, some (.inr (.inr (.inl (some (95))))), none, some (.inl (x5)), some (.inl (x6)), some (.inl (x7)), some (.inl (((-1 : Int32)) - (I 75 (x7).toNatClampNeg)))], [.inr (.inl ((0 : Int64)))], 0, 0, ix_mem 276 I J T)) rfl trivial ?_
          exact ix_sp rfl ⟨Nat.le_refl _, Nat.le_refl _, rfl, hQ _ _ _ _ h20⟩
      · have h18 := h16.2 c17
        refine ix_go 1 (x' := (91, [some (.inr (.inr (.inl (some (68))))), none, none, some (.inr (.inr (.inl (some (95))))), none, some (.inl (x5)), some (.inl (x6)), some (.inl (x7)), some (.inl (((-1 : Int32)) - (I 75 (x7).toNatClampNeg)))], [.inl (((-1 : Int32)) - (I 75 (x7).toNatClampNeg))], 0, 0, ix_mem 276 I J T)) rfl trivial ?_
        refine ix_sp rfl ⟨rfl, trivial, ix_le rfl, Nat.le_refl _, Nat.le_refl _, tp_X7_isVariable h18 (fun v30 I30 J30 T30 h30 => ?_)⟩
        change ix_W _ _ _ (94, [some (.inr (.inr (.inl (some (68))))), none, none, some (.inr (.inr (.inl (some (95))))), none, some (.inl (x5)), some (.inl (x6)), some (.inl (x7)), some (.inl (((-1 : Int32)) - (I 75 (x7).toNatClampNeg)))], [.inl (v30)], 0, 0, ix_mem 276 I30 J30 T30)
        refine ix_go 1 (x' := (if v30 = 0 then 144 else 97, [some (.inr (.inr (.inl (some (68))))), none, none, some (.inr (.inr (.inl (some (95))))), none, some (.inl (x5)), some (.inl (x6)), some (.inl (x7)), some (.inl (((-1 : Int32)) - (I 75 (x7).toNatClampNeg)))], [], 0, 0, ix_mem 276 I30 J30 T30)) rfl trivial ?_
        refine ix_br (fun c31 => ?_) (fun c31 => ?_)
        · have h32 := h30.1 c31
          refine ix_go 3 (x' := (if ((-1 : Int32)) - (I 75 (x7).toNatClampNeg) = (8 : Int32) then 151 else 182, [some (.inr (.inr (.inl (some (68))))), none, none, some (.inr (.inr (.inl (some (95))))), none, some (.inl (x5)), some (.inl (x6)), some (.inl (x7)), some (.inl (((-1 : Int32)) - (I 75 (x7).toNatClampNeg)))], [], 0, 0, ix_mem 276 I30 J30 T30)) rfl trivial ?_
          refine ix_br (fun c33 => ?_) (fun c33 => ?_)
          · have h34 := h32.1 c33
            refine ix_go 3 (x' := (if x6 < (1 : Int32) then 157 else 159, [some (.inr (.inr (.inl (some (68))))), none, none, some (.inr (.inr (.inl (some (95))))), none, some (.inl (x5)), some (.inl (x6)), some (.inl (x7)), some (.inl (((-1 : Int32)) - (I 75 (x7).toNatClampNeg)))], [], 0, 0, ix_mem 276 I30 J30 T30)) rfl trivial ?_
            refine ix_br (fun c35 => ?_) (fun c35 => ?_)
            · have h36 := h34.1 c35
              refine ix_go 1 (x' := (158, [some (.inr (.inr (.inl (some (68))))), none, none, some (.inr (.inr (.inl (some (95))))), none, some (.inl (x5)), some (.inl (x6)), some (.inl (x7)), some (.inl (((-1 : Int32)) - (I 75 (x7).toNatClampNeg)))], [.inr (.inl ((0 : Int64)))], 0, 0, ix_mem 276 I30 J30 T30)) rfl trivial ?_
              exact ix_sp rfl ⟨Nat.le_refl _, Nat.le_refl _, rfl, hQ _ _ _ _ h36⟩
            · have h36 := h34.2 c35
              obtain ⟨p37, h38⟩ := h36
              obtain ⟨p39, h40⟩ := h38
              refine ix_go 17 (x' := (58, [some (.inr (.inr (.inl (some (68))))), none, none, some (.inr (.inr (.inl (some (95))))), none, some (.inl (x5)), some (.inl (x6)), some (.inl (x7 + (1 : Int32))), some (.inl (((-1 : Int32)) - (I 75 (x7).toNatClampNeg)))], [], 0, 0, ix_mem 276 I30 (ix_u2 J30 76 ((x6) - ((1 : Int32))).toNatClampNeg (((1 : Int64)) - (J30 76 ((x6) - ((1 : Int32))).toNatClampNeg))) T30)) rfl ⟨rfl, rfl, rfl, rfl, rfl, rfl, p37, rfl, rfl, p39⟩ ?_
              refine ix_subW ([some (.inr (.inr (.inl (some (68))))), none, none, some (.inr (.inr (.inl (some (95))))), none, some (.inl (x5)), some (.inl (x6)), some (.inl (x7 + (1 : Int32))), none]) (ix_subS (ix_subS (ix_subS (ix_subS (ix_subS (ix_subS (ix_subS (ix_subS (ix_subN (ix_sub0)))))))))) ?_
              exact h40
          · have h34 := h32.2 c33
            refine ix_go 3 (x' := (if x6 < (2 : Int32) then 188 else 190, [some (.inr (.inr (.inl (some (68))))), none, none, some (.inr (.inr (.inl (some (95))))), none, some (.inl (x5)), some (.inl (x6)), some (.inl (x7)), some (.inl (((-1 : Int32)) - (I 75 (x7).toNatClampNeg)))], [], 0, 0, ix_mem 276 I30 J30 T30)) rfl trivial ?_
            refine ix_br (fun c41 => ?_) (fun c41 => ?_)
            · have h42 := h34.1 c41
              refine ix_go 1 (x' := (189, [some (.inr (.inr (.inl (some (68))))), none, none, some (.inr (.inr (.inl (some (95))))), none, some (.inl (x5)), some (.inl (x6)), some (.inl (x7)), some (.inl (((-1 : Int32)) - (I 75 (x7).toNatClampNeg)))], [.inr (.inl ((0 : Int64)))], 0, 0, ix_mem 276 I30 J30 T30)) rfl trivial ?_
              exact ix_sp rfl ⟨Nat.le_refl _, Nat.le_refl _, rfl, hQ _ _ _ _ h42⟩
            · have h42 := h34.2 c41
              obtain ⟨p43, h44⟩ := h42
              obtain ⟨p45, h46⟩ := h44
              refine ix_go 17 (x' := (219, [some (.inr (.inr (.inl (some (68))))), none, none, some (.inr (.inr (.inl (some (95))))), none, some (.inl (x5)), some (.inl (x6 + (-1 : Int32))), some (.inl (x7)), some (.inl (((-1 : Int32)) - (I 75 (x7).toNatClampNeg)))], [.inr (.inl (J30 76 (x6 + (-1 : Int32)).toNatClampNeg)), .inr (.inl (J30 76 ((x6 + (-1 : Int32)) - ((1 : Int32))).toNatClampNeg)), .inl (((-1 : Int32)) - (I 75 (x7).toNatClampNeg)), .inl ((x6 + (-1 : Int32)) - ((1 : Int32))), .inr (.inr (.inl (some (76))))], 0, 0, ix_mem 276 I30 J30 T30)) rfl ⟨rfl, rfl, rfl, rfl, rfl, rfl, p43, rfl, rfl, rfl, rfl, p45⟩ ?_
              refine ix_sp rfl ⟨rfl, trivial, ix_le rfl, Nat.le_refl _, Nat.le_refl _, tp_X9_both h46 (fun v47 I47 J47 T47 h47 => ?_)⟩
              change ix_W _ _ _ (222, [some (.inr (.inr (.inl (some (68))))), none, none, some (.inr (.inr (.inl (some (95))))), none, some (.inl (x5)), some (.inl (x6 + (-1 : Int32))), some (.inl (x7)), some (.inl (((-1 : Int32)) - (I 75 (x7).toNatClampNeg)))], [.inr (.inl (v47)), .inl ((x6 + (-1 : Int32)) - ((1 : Int32))), .inr (.inr (.inl (some (76))))], 0, 0, ix_mem 276 I47 J47 T47)
              obtain ⟨p48, h49⟩ := h47
              refine ix_go 3 (x' := (58, [some (.inr (.inr (.inl (some (68))))), none, none, some (.inr (.inr (.inl (some (95))))), none, some (.inl (x5)), some (.inl (x6 + (-1 : Int32))), some (.inl (x7 + (1 : Int32))), some (.inl (((-1 : Int32)) - (I 75 (x7).toNatClampNeg)))], [], 0, 0, ix_mem 276 I47 (ix_u2 J47 76 ((x6 + (-1 : Int32)) - ((1 : Int32))).toNatClampNeg (v47)) T47)) rfl ⟨rfl, rfl, p48⟩ ?_
              refine ix_subW ([some (.inr (.inr (.inl (some (68))))), none, none, some (.inr (.inr (.inl (some (95))))), none, some (.inl (x5)), some (.inl (x6 + (-1 : Int32))), some (.inl (x7 + (1 : Int32))), none]) (ix_subS (ix_subS (ix_subS (ix_subS (ix_subS (ix_subS (ix_subS (ix_subS (ix_subN (ix_sub0)))))))))) ?_
              exact h49
        · have h32 := h30.2 c31
          refine ix_go 3 (x' := (if x6 < (48 : Int32) then 106 else 104, [some (.inr (.inr (.inl (some (68))))), none, none, some (.inr (.inr (.inl (some (95))))), none, some (.inl (x5)), some (.inl (x6)), some (.inl (x7)), some (.inl (((-1 : Int32)) - (I 75 (x7).toNatClampNeg)))], [], 0, 0, ix_mem 276 I30 J30 T30)) rfl trivial ?_
          refine ix_br (fun c50 => ?_) (fun c50 => ?_)
          · have h51 := h32.1 c50
            refine ix_go 5 (x' := (if ((-1 : Int32)) - (I 75 (x7).toNatClampNeg) < 0 then 117 else 128, [some (.inr (.inr (.inl (some (68))))), none, none, some (.inr (.inr (.inl (some (95))))), none, some (.inl (x5)), some (.inl (x6)), some (.inl (x7)), some (.inl (((-1 : Int32)) - (I 75 (x7).toNatClampNeg)))], [.inl (x6), .inr (.inr (.inl (some (76))))], 0, 0, ix_mem 276 I30 J30 T30)) rfl ⟨rfl, rfl⟩ ?_
            refine ix_br (fun c52 => ?_) (fun c52 => ?_)
            · have h53 := h51.1 c52
              obtain ⟨p54, h55⟩ := h53
              obtain ⟨p56, h57⟩ := h55
              refine ix_go 11 (x' := (58, [some (.inr (.inr (.inl (some (68))))), none, none, some (.inr (.inr (.inl (some (95))))), none, some (.inl (x5)), some (.inl (x6 + (1 : Int32))), some (.inl (x7 + (1 : Int32))), some (.inl (((-1 : Int32)) - (I 75 (x7).toNatClampNeg)))], [], 0, 0, ix_mem 276 I30 (ix_u2 J30 76 (x6).toNatClampNeg ((I30 75 (x7).toNatClampNeg).toInt64)) T30)) rfl ⟨rfl, rfl, rfl, rfl, p54, rfl, rfl, p56⟩ ?_
              refine ix_subW ([some (.inr (.inr (.inl (some (68))))), none, none, some (.inr (.inr (.inl (some (95))))), none, some (.inl (x5)), some (.inl (x6 + (1 : Int32))), some (.inl (x7 + (1 : Int32))), none]) (ix_subS (ix_subS (ix_subS (ix_subS (ix_subS (ix_subS (ix_subS (ix_subS (ix_subN (ix_sub0)))))))))) ?_
              exact h57
            · have h53 := h51.2 c52
              refine ix_go 4 (x' := (134, [some (.inr (.inr (.inl (some (68))))), none, none, some (.inr (.inr (.inl (some (95))))), none, some (.inl (x5)), some (.inl (x6)), some (.inl (x7)), some (.inl (((-1 : Int32)) - (I 75 (x7).toNatClampNeg)))], [.inl ((((-1 : Int32)) - (I 75 (x7).toNatClampNeg)) - ((11 : Int32))), .inr (.inr (.inl (some (95)))), .inl (x6), .inr (.inr (.inl (some (76))))], 0, 0, ix_mem 276 I30 J30 T30)) rfl trivial ?_
              refine ix_sp rfl ⟨rfl, ⟨ix_lt rfl, ix_eq rfl, ix_lt rfl⟩, ix_le rfl, Nat.le_refl _, Nat.le_refl _, tp_X6_variable h53 (fun v58 I58 J58 T58 h58 => ?_)⟩
              change ix_W _ _ _ (137, [some (.inr (.inr (.inl (some (68))))), none, none, some (.inr (.inr (.inl (some (95))))), none, some (.inl (x5)), some (.inl (x6)), some (.inl (x7)), some (.inl (((-1 : Int32)) - (I 75 (x7).toNatClampNeg)))], [.inr (.inl (v58)), .inl (x6), .inr (.inr (.inl (some (76))))], 0, 0, ix_mem 276 I58 J58 T58)
              obtain ⟨p59, h60⟩ := h58
              refine ix_go 5 (x' := (58, [some (.inr (.inr (.inl (some (68))))), none, none, some (.inr (.inr (.inl (some (95))))), none, some (.inl (x5)), some (.inl (x6 + (1 : Int32))), some (.inl (x7 + (1 : Int32))), some (.inl (((-1 : Int32)) - (I 75 (x7).toNatClampNeg)))], [], 0, 0, ix_mem 276 I58 (ix_u2 J58 76 (x6).toNatClampNeg (v58)) T58)) rfl ⟨rfl, rfl, p59⟩ ?_
              refine ix_subW ([some (.inr (.inr (.inl (some (68))))), none, none, some (.inr (.inr (.inl (some (95))))), none, some (.inl (x5)), some (.inl (x6 + (1 : Int32))), some (.inl (x7 + (1 : Int32))), none]) (ix_subS (ix_subS (ix_subS (ix_subS (ix_subS (ix_subS (ix_subS (ix_subS (ix_subN (ix_sub0)))))))))) ?_
              exact h60
          · have h51 := h32.2 c50
            refine ix_go 1 (x' := (105, [some (.inr (.inr (.inl (some (68))))), none, none, some (.inr (.inr (.inl (some (95))))), none, some (.inl (x5)), some (.inl (x6)), some (.inl (x7)), some (.inl (((-1 : Int32)) - (I 75 (x7).toNatClampNeg)))], [.inr (.inl ((0 : Int64)))], 0, 0, ix_mem 276 I30 J30 T30)) rfl trivial ?_
            exact ix_sp rfl ⟨Nat.le_refl _, Nat.le_refl _, rfl, hQ _ _ _ _ h51⟩
    · have h14 := h12.2 c13
      refine ix_go 2 (x' := (if x6 ≤ 0 then 243 else 234, [some (.inr (.inr (.inl (some (68))))), none, none, some (.inr (.inr (.inl (some (95))))), none, some (.inl (x5)), some (.inl (x6)), some (.inl (x7)), none], [], 0, 0, ix_mem 276 I J T)) rfl trivial ?_
      refine ix_br (fun c61 => ?_) (fun c61 => ?_)
      · have h62 := h14.1 c61
        refine ix_go 1 (x' := (244, [some (.inr (.inr (.inl (some (68))))), none, none, some (.inr (.inr (.inl (some (95))))), none, some (.inl (x5)), some (.inl (x6)), some (.inl (x7)), none], [.inr (.inl ((0 : Int64)))], 0, 0, ix_mem 276 I J T)) rfl trivial ?_
        exact ix_sp rfl ⟨Nat.le_refl _, Nat.le_refl _, rfl, hQ _ _ _ _ h62⟩
      · have h62 := h14.2 c61
        refine ix_go 5 (x' := (244, [some (.inr (.inr (.inl (some (68))))), none, none, some (.inr (.inr (.inl (some (95))))), none, some (.inl (x5)), some (.inl (x6)), some (.inl (x7)), none], [.inr (.inl (J 76 ((0 : Int32)).toNatClampNeg))], 0, 0, ix_mem 276 I J T)) rfl ⟨rfl, rfl, rfl, rfl, rfl⟩ ?_
        exact ix_sp rfl ⟨Nat.le_refl _, Nat.le_refl _, rfl, hQ _ _ _ _ h62⟩
  · have h12 := hb.2 c11
    refine ix_go 2 (x' := (if x6 ≤ 0 then 243 else 234, [some (.inr (.inr (.inl (some (68))))), none, none, some (.inr (.inr (.inl (some (95))))), none, some (.inl (x5)), some (.inl (x6)), some (.inl (x7)), none], [], 0, 0, ix_mem 276 I J T)) rfl trivial ?_
    refine ix_br (fun c63 => ?_) (fun c63 => ?_)
    · have h64 := h12.1 c63
      refine ix_go 1 (x' := (244, [some (.inr (.inr (.inl (some (68))))), none, none, some (.inr (.inr (.inl (some (95))))), none, some (.inl (x5)), some (.inl (x6)), some (.inl (x7)), none], [.inr (.inl ((0 : Int64)))], 0, 0, ix_mem 276 I J T)) rfl trivial ?_
      exact ix_sp rfl ⟨Nat.le_refl _, Nat.le_refl _, rfl, hQ _ _ _ _ h64⟩
    · have h64 := h12.2 c63
      refine ix_go 5 (x' := (244, [some (.inr (.inr (.inl (some (68))))), none, none, some (.inr (.inr (.inl (some (95))))), none, some (.inl (x5)), some (.inl (x6)), some (.inl (x7)), none], [.inr (.inl (J 76 ((0 : Int32)).toNatClampNeg))], 0, 0, ix_mem 276 I J T)) rfl ⟨rfl, rfl, rfl, rfl, rfl⟩ ?_
      exact ix_sp rfl ⟨Nat.le_refl _, Nat.le_refl _, rfl, hQ _ _ _ _ h64⟩
def wp_X9_compute_68 (a0 : Int32) (a1 : Int32) (I : Nat → Nat → Int32) (J : Nat → Nat → Int64) (T : Option Nat) (P : Int64 → (Nat → Nat → Int32) → (Nat → Nat → Int64) → Option Nat → Prop) : Prop := ((a1 = 0 → ix_inb (a0) 12 = true ∧ ((a1 = 0 → ix_inb (a0) 12 = true ∧ ((I 73 (a0).toNatClampNeg = I 74 (a0).toNatClampNeg → P ((1 : Int64)) I J T) ∧ (¬ (I 73 (a0).toNatClampNeg = I 74 (a0).toNatClampNeg) → wl_X9_compute_68_58_c95 (I 74 (a0).toNatClampNeg) ((0 : Int32)) (I 73 (a0).toNatClampNeg) I J T P))) ∧ (¬ (a1 = 0) → ix_inb (a0) 12 = true ∧ ((I 73 (a0).toNatClampNeg = I 73 (a0).toNatClampNeg → P ((1 : Int64)) I J T) ∧ (¬ (I 73 (a0).toNatClampNeg = I 73 (a0).toNatClampNeg) → wl_X9_compute_68_58_c95 (I 73 (a0).toNatClampNeg) ((0 : Int32)) (I 73 (a0).toNatClampNeg) I J T P))))) ∧ (¬ (a1 = 0) → ix_inb (a0) 12 = true ∧ ((a1 = 0 → ix_inb (a0) 12 = true ∧ ((I 72 (a0).toNatClampNeg = I 74 (a0).toNatClampNeg → P ((1 : Int64)) I J T) ∧ (¬ (I 72 (a0).toNatClampNeg = I 74 (a0).toNatClampNeg) → wl_X9_compute_68_58_c95 (I 74 (a0).toNatClampNeg) ((0 : Int32)) (I 72 (a0).toNatClampNeg) I J T P))) ∧ (¬ (a1 = 0) → ix_inb (a0) 12 = true ∧ ((I 72 (a0).toNatClampNeg = I 73 (a0).toNatClampNeg → P ((1 : Int64)) I J T) ∧ (¬ (I 72 (a0).toNatClampNeg = I 73 (a0).toNatClampNeg) → wl_X9_compute_68_58_c95 (I 73 (a0).toNatClampNeg) ((0 : Int32)) (I 72 (a0).toNatClampNeg) I J T P))))))
set_option maxRecDepth 20000 in
theorem tp_X9_compute_68 {d : Nat} {a0 : Int32} {a1 : Int32} {I : Nat → Nat → Int32} {J : Nat → Nat → Int64} {T : Option Nat} {P : Int64 → (Nat → Nat → Int32) → (Nat → Nat → Int64) → Option Nat → Prop} {Q : ix_Q} (h : wp_X9_compute_68 a0 a1 I J T P) (hQ : ∀ v I J T, P v I J T → Q (some (.inr (.inl v))) (ix_mem 276 I J T)) : ix_C (d + 3) 141 [.inr (.inr (.inl (some (68)))), .inl (a0), .inl (a1), .inr (.inr (.inl (some (95))))] (ix_mem 276 I J T) Q := by
  unfold wp_X9_compute_68 at h
  refine ix_enter (ls := [some (.inr (.inr (.inl (some (68))))), some (.inl (a0)), some (.inl (a1)), some (.inr (.inr (.inl (some (95))))), none, none, none, none, none]) rfl rfl rfl (Nat.le_of_ble_eq_true rfl) ?_
  refine ix_go 2 (x' := (if a1 = 0 then 13 else 4, [some (.inr (.inr (.inl (some (68))))), some (.inl (a0)), some (.inl (a1)), some (.inr (.inr (.inl (some (95))))), none, none, none, none, none], [], 0, 0, ix_mem 276 I J T)) rfl trivial ?_
  refine ix_br (fun c1 => ?_) (fun c1 => ?_)
  · have h2 := h.1 c1
    obtain ⟨p3, h4⟩ := h2
    refine ix_go 7 (x' := (if a1 = 0 then 34 else 25, [some (.inr (.inr (.inl (some (68))))), some (.inl (a0)), some (.inl (a1)), some (.inr (.inr (.inl (some (95))))), some (.inl (I 73 (a0).toNatClampNeg)), none, none, none, none], [], 0, 0, ix_mem 276 I J T)) rfl ⟨rfl, rfl, rfl, rfl, p3⟩ ?_
    refine ix_br (fun c5 => ?_) (fun c5 => ?_)
    · have h6 := h4.1 c5
      obtain ⟨p7, h8⟩ := h6
      refine ix_go 8 (x' := (if I 73 (a0).toNatClampNeg = I 74 (a0).toNatClampNeg then 49 else 51, [some (.inr (.inr (.inl (some (68))))), some (.inl (a0)), some (.inl (a1)), some (.inr (.inr (.inl (some (95))))), some (.inl (I 73 (a0).toNatClampNeg)), some (.inl (I 74 (a0).toNatClampNeg)), none, none, none], [], 0, 0, ix_mem 276 I J T)) rfl ⟨rfl, rfl, rfl, rfl, p7⟩ ?_
      refine ix_br (fun c9 => ?_) (fun c9 => ?_)
      · have h10 := h8.1 c9
        refine ix_go 1 (x' := (50, [some (.inr (.inr (.inl (some (68))))), some (.inl (a0)), some (.inl (a1)), some (.inr (.inr (.inl (some (95))))), some (.inl (I 73 (a0).toNatClampNeg)), some (.inl (I 74 (a0).toNatClampNeg)), none, none, none], [.inr (.inl ((1 : Int64)))], 0, 0, ix_mem 276 I J T)) rfl trivial ?_
        exact ix_sp rfl ⟨Nat.le_refl _, Nat.le_refl _, rfl, hQ _ _ _ _ h10⟩
      · have h10 := h8.2 c9
        refine ix_go 4 (x' := (58, [some (.inr (.inr (.inl (some (68))))), some (.inl (a0)), some (.inl (a1)), some (.inr (.inr (.inl (some (95))))), some (.inl (I 73 (a0).toNatClampNeg)), some (.inl (I 74 (a0).toNatClampNeg)), some (.inl ((0 : Int32))), some (.inl (I 73 (a0).toNatClampNeg)), none], [], 0, 0, ix_mem 276 I J T)) rfl trivial ?_
        refine ix_subW ([some (.inr (.inr (.inl (some (68))))), none, none, some (.inr (.inr (.inl (some (95))))), none, some (.inl (I 74 (a0).toNatClampNeg)), some (.inl ((0 : Int32))), some (.inl (I 73 (a0).toNatClampNeg)), none]) (ix_subS (ix_subN (ix_subN (ix_subS (ix_subN (ix_subS (ix_subS (ix_subS (ix_subS (ix_sub0)))))))))) ?_
        exact tl_X9_compute_68_58_c95 h10 hQ
    · have h6 := h4.2 c5
      obtain ⟨p65, h66⟩ := h6
      refine ix_go 9 (x' := (if I 73 (a0).toNatClampNeg = I 73 (a0).toNatClampNeg then 49 else 51, [some (.inr (.inr (.inl (some (68))))), some (.inl (a0)), some (.inl (a1)), some (.inr (.inr (.inl (some (95))))), some (.inl (I 73 (a0).toNatClampNeg)), some (.inl (I 73 (a0).toNatClampNeg)), none, none, none], [], 0, 0, ix_mem 276 I J T)) rfl ⟨rfl, rfl, rfl, rfl, p65⟩ ?_
      refine ix_br (fun c67 => ?_) (fun c67 => ?_)
      · have h68 := h66.1 c67
        refine ix_go 1 (x' := (50, [some (.inr (.inr (.inl (some (68))))), some (.inl (a0)), some (.inl (a1)), some (.inr (.inr (.inl (some (95))))), some (.inl (I 73 (a0).toNatClampNeg)), some (.inl (I 73 (a0).toNatClampNeg)), none, none, none], [.inr (.inl ((1 : Int64)))], 0, 0, ix_mem 276 I J T)) rfl trivial ?_
        exact ix_sp rfl ⟨Nat.le_refl _, Nat.le_refl _, rfl, hQ _ _ _ _ h68⟩
      · have h68 := h66.2 c67
        refine ix_go 4 (x' := (58, [some (.inr (.inr (.inl (some (68))))), some (.inl (a0)), some (.inl (a1)), some (.inr (.inr (.inl (some (95))))), some (.inl (I 73 (a0).toNatClampNeg)), some (.inl (I 73 (a0).toNatClampNeg)), some (.inl ((0 : Int32))), some (.inl (I 73 (a0).toNatClampNeg)), none], [], 0, 0, ix_mem 276 I J T)) rfl trivial ?_
        refine ix_subW ([some (.inr (.inr (.inl (some (68))))), none, none, some (.inr (.inr (.inl (some (95))))), none, some (.inl (I 73 (a0).toNatClampNeg)), some (.inl ((0 : Int32))), some (.inl (I 73 (a0).toNatClampNeg)), none]) (ix_subS (ix_subN (ix_subN (ix_subS (ix_subN (ix_subS (ix_subS (ix_subS (ix_subS (ix_sub0)))))))))) ?_
        exact tl_X9_compute_68_58_c95 h68 hQ
  · have h2 := h.2 c1
    obtain ⟨p69, h70⟩ := h2
    refine ix_go 8 (x' := (if a1 = 0 then 34 else 25, [some (.inr (.inr (.inl (some (68))))), some (.inl (a0)), some (.inl (a1)), some (.inr (.inr (.inl (some (95))))), some (.inl (I 72 (a0).toNatClampNeg)), none, none, none, none], [], 0, 0, ix_mem 276 I J T)) rfl ⟨rfl, rfl, rfl, rfl, p69⟩ ?_
    refine ix_br (fun c71 => ?_) (fun c71 => ?_)
    · have h72 := h70.1 c71
      obtain ⟨p73, h74⟩ := h72
      refine ix_go 8 (x' := (if I 72 (a0).toNatClampNeg = I 74 (a0).toNatClampNeg then 49 else 51, [some (.inr (.inr (.inl (some (68))))), some (.inl (a0)), some (.inl (a1)), some (.inr (.inr (.inl (some (95))))), some (.inl (I 72 (a0).toNatClampNeg)), some (.inl (I 74 (a0).toNatClampNeg)), none, none, none], [], 0, 0, ix_mem 276 I J T)) rfl ⟨rfl, rfl, rfl, rfl, p73⟩ ?_
      refine ix_br (fun c75 => ?_) (fun c75 => ?_)
      · have h76 := h74.1 c75
        refine ix_go 1 (x' := (50, [some (.inr (.inr (.inl (some (68))))), some (.inl (a0)), some (.inl (a1)), some (.inr (.inr (.inl (some (95))))), some (.inl (I 72 (a0).toNatClampNeg)), some (.inl (I 74 (a0).toNatClampNeg)), none, none, none], [.inr (.inl ((1 : Int64)))], 0, 0, ix_mem 276 I J T)) rfl trivial ?_
        exact ix_sp rfl ⟨Nat.le_refl _, Nat.le_refl _, rfl, hQ _ _ _ _ h76⟩
      · have h76 := h74.2 c75
        refine ix_go 4 (x' := (58, [some (.inr (.inr (.inl (some (68))))), some (.inl (a0)), some (.inl (a1)), some (.inr (.inr (.inl (some (95))))), some (.inl (I 72 (a0).toNatClampNeg)), some (.inl (I 74 (a0).toNatClampNeg)), some (.inl ((0 : Int32))), some (.inl (I 72 (a0).toNatClampNeg)), none], [], 0, 0, ix_mem 276 I J T)) rfl trivial ?_
        refine ix_subW ([some (.inr (.inr (.inl (some (68))))), none, none, some (.inr (.inr (.inl (some (95))))), none, some (.inl (I 74 (a0).toNatClampNeg)), some (.inl ((0 : Int32))), some (.inl (I 72 (a0).toNatClampNeg)), none]) (ix_subS (ix_subN (ix_subN (ix_subS (ix_subN (ix_subS (ix_subS (ix_subS (ix_subS (ix_sub0)))))))))) ?_
        exact tl_X9_compute_68_58_c95 h76 hQ
    · have h72 := h70.2 c71
      obtain ⟨p77, h78⟩ := h72
      refine ix_go 9 (x' := (if I 72 (a0).toNatClampNeg = I 73 (a0).toNatClampNeg then 49 else 51, [some (.inr (.inr (.inl (some (68))))), some (.inl (a0)), some (.inl (a1)), some (.inr (.inr (.inl (some (95))))), some (.inl (I 72 (a0).toNatClampNeg)), some (.inl (I 73 (a0).toNatClampNeg)), none, none, none], [], 0, 0, ix_mem 276 I J T)) rfl ⟨rfl, rfl, rfl, rfl, p77⟩ ?_
      refine ix_br (fun c79 => ?_) (fun c79 => ?_)
      · have h80 := h78.1 c79
        refine ix_go 1 (x' := (50, [some (.inr (.inr (.inl (some (68))))), some (.inl (a0)), some (.inl (a1)), some (.inr (.inr (.inl (some (95))))), some (.inl (I 72 (a0).toNatClampNeg)), some (.inl (I 73 (a0).toNatClampNeg)), none, none, none], [.inr (.inl ((1 : Int64)))], 0, 0, ix_mem 276 I J T)) rfl trivial ?_
        exact ix_sp rfl ⟨Nat.le_refl _, Nat.le_refl _, rfl, hQ _ _ _ _ h80⟩
      · have h80 := h78.2 c79
        refine ix_go 4 (x' := (58, [some (.inr (.inr (.inl (some (68))))), some (.inl (a0)), some (.inl (a1)), some (.inr (.inr (.inl (some (95))))), some (.inl (I 72 (a0).toNatClampNeg)), some (.inl (I 73 (a0).toNatClampNeg)), some (.inl ((0 : Int32))), some (.inl (I 72 (a0).toNatClampNeg)), none], [], 0, 0, ix_mem 276 I J T)) rfl trivial ?_
        refine ix_subW ([some (.inr (.inr (.inl (some (68))))), none, none, some (.inr (.inr (.inl (some (95))))), none, some (.inl (I 73 (a0).toNatClampNeg)), some (.inl ((0 : Int32))), some (.inl (I 72 (a0).toNatClampNeg)), none]) (ix_subS (ix_subN (ix_subN (ix_subS (ix_subN (ix_subS (ix_subS (ix_subS (ix_subS (ix_sub0)))))))))) ?_
        exact tl_X9_compute_68_58_c95 h80 hQ
