def wp_X12_line (a0 : Int32) (a1 : Int32) (a2 : Int32) (a3 : Int32) (I : Nat → Nat → Int32) (J : Nat → Nat → Int64) (T : Option Nat) (P : Int32 → (Nat → Nat → Int32) → (Nat → Nat → Int64) → Option Nat → Prop) : Prop := ((a0 < 0 → wp_X12_refuse ((1 : Int32)) I J T (fun v3 I3 J3 T3 => P (v3) I3 J3 T3)) ∧ (¬ (a0 < 0) → ((a0 ≤ (1 : Int32) → ((a1 < 0 → wp_X12_refuse ((1 : Int32)) I J T (fun v8 I8 J8 T8 => P (v8) I8 J8 T8)) ∧ (¬ (a1 < 0) → ((a1 ≤ (9999 : Int32) → wp_X12_isDay (a2) I J T (fun v11 I11 J11 T11 => ((v11 = 0 → wp_X12_refuse ((1 : Int32)) I11 J11 T11 (fun v14 I14 J14 T14 => P (v14) I14 J14 T14)) ∧ (¬ (v11 = 0) → ((a3 < 0 → wp_X12_refuse ((1 : Int32)) I11 J11 T11 (fun v17 I17 J17 T17 => P (v17) I17 J17 T17)) ∧ (¬ (a3 < 0) → ((a3 ≤ (1000000 : Int32) → ix_inb (a0) 2 = true ∧ ((I11 267 (a0).toNatClampNeg = (12 : Int32) → wp_X12_refuse ((4 : Int32)) I11 J11 T11 (fun v24 I24 J24 T24 => P (v24) I24 J24 T24)) ∧ (¬ (I11 267 (a0).toNatClampNeg = (12 : Int32)) → ix_inb (a0) 2 = true ∧ ix_inb ((((12 : Int32)) * (a0)) + (I11 267 (a0).toNatClampNeg)) 24 = true ∧ ix_inb ((((12 : Int32)) * (a0)) + (I11 267 (a0).toNatClampNeg)) 24 = true ∧ ix_inb ((((12 : Int32)) * (a0)) + (I11 267 (a0).toNatClampNeg)) 24 = true ∧ ix_inb (a0) 2 = true ∧ ix_inb (a0) 2 = true ∧ ix_inb (a0) 2 = true ∧ wp_X12_gives (((ix_u2 (ix_u2 (ix_u2 (ix_u2 I11 268 ((((12 : Int32)) * (a0)) + (I11 267 (a0).toNatClampNeg)).toNatClampNeg (a1)) 269 ((((12 : Int32)) * (a0)) + (I11 267 (a0).toNatClampNeg)).toNatClampNeg (a2)) 270 ((((12 : Int32)) * (a0)) + (I11 267 (a0).toNatClampNeg)).toNatClampNeg (a3)) 267 (a0).toNatClampNeg ((I11 267 (a0).toNatClampNeg) + ((1 : Int32)))) 267 (a0).toNatClampNeg) - ((1 : Int32))) (ix_u2 (ix_u2 (ix_u2 (ix_u2 I11 268 ((((12 : Int32)) * (a0)) + (I11 267 (a0).toNatClampNeg)).toNatClampNeg (a1)) 269 ((((12 : Int32)) * (a0)) + (I11 267 (a0).toNatClampNeg)).toNatClampNeg (a2)) 270 ((((12 : Int32)) * (a0)) + (I11 267 (a0).toNatClampNeg)).toNatClampNeg (a3)) 267 (a0).toNatClampNeg ((I11 267 (a0).toNatClampNeg) + ((1 : Int32)))) J11 T11 (fun v39 I39 J39 T39 => P (v39) I39 J39 T39)))) ∧ (¬ (a3 ≤ (1000000 : Int32)) → wp_X12_refuse ((1 : Int32)) I11 J11 T11 (fun v40 I40 J40 T40 => P (v40) I40 J40 T40))))))))) ∧ (¬ (a1 ≤ (9999 : Int32)) → wp_X12_refuse ((1 : Int32)) I J T (fun v41 I41 J41 T41 => P (v41) I41 J41 T41)))))) ∧ (¬ (a0 ≤ (1 : Int32)) → wp_X12_refuse ((1 : Int32)) I J T (fun v42 I42 J42 T42 => P (v42) I42 J42 T42)))))
set_option maxRecDepth 20000 in
theorem tp_X12_line {d : Nat} {a0 : Int32} {a1 : Int32} {a2 : Int32} {a3 : Int32} {I : Nat → Nat → Int32} {J : Nat → Nat → Int64} {T : Option Nat} {P : Int32 → (Nat → Nat → Int32) → (Nat → Nat → Int64) → Option Nat → Prop} {Q : ix_Q} (h : wp_X12_line a0 a1 a2 a3 I J T P) (hQ : ∀ v I J T, P v I J T → Q (some (.inl v)) (ix_mem 276 I J T)) : ix_C (d + 2) 329 [.inr (.inr (.inl (some (204)))), .inl (a0), .inl (a1), .inl (a2), .inl (a3)] (ix_mem 276 I J T) Q := by
  unfold wp_X12_line at h
  refine ix_enter (ls := [some (.inr (.inr (.inl (some (204))))), some (.inl (a0)), some (.inl (a1)), some (.inl (a2)), some (.inl (a3)), none]) rfl rfl rfl (Nat.le_of_ble_eq_true rfl) ?_
  refine ix_go 2 (x' := (if a0 < 0 then 40 else 4, [some (.inr (.inr (.inl (some (204))))), some (.inl (a0)), some (.inl (a1)), some (.inl (a2)), some (.inl (a3)), none], [], 0, 0, ix_mem 276 I J T)) rfl trivial ?_
  refine ix_br (fun c1 => ?_) (fun c1 => ?_)
  · have h2 := h.1 c1
    refine ix_go 2 (x' := (42, [some (.inr (.inr (.inl (some (204))))), some (.inl (a0)), some (.inl (a1)), some (.inl (a2)), some (.inl (a3)), none], [.inl ((1 : Int32)), .inr (.inr (.inl (some (204))))], 0, 0, ix_mem 276 I J T)) rfl trivial ?_
    refine ix_sp rfl ⟨rfl, ⟨ix_lt rfl, ix_eq rfl, ix_lt rfl⟩, ix_le rfl, Nat.le_refl _, Nat.le_refl _, tp_X12_refuse h2 (fun v3 I3 J3 T3 h3 => ?_)⟩
    change ix_W _ _ _ (45, [some (.inr (.inr (.inl (some (204))))), some (.inl (a0)), some (.inl (a1)), some (.inl (a2)), some (.inl (a3)), none], [.inl (v3)], 0, 0, ix_mem 276 I3 J3 T3)
    exact ix_sp rfl ⟨Nat.le_refl _, Nat.le_refl _, trivial, hQ _ _ _ _ h3⟩
  · have h2 := h.2 c1
    refine ix_go 3 (x' := (if a0 ≤ (1 : Int32) then 9 else 40, [some (.inr (.inr (.inl (some (204))))), some (.inl (a0)), some (.inl (a1)), some (.inl (a2)), some (.inl (a3)), none], [], 0, 0, ix_mem 276 I J T)) rfl trivial ?_
    refine ix_br (fun c4 => ?_) (fun c4 => ?_)
    · have h5 := h2.1 c4
      refine ix_go 2 (x' := (if a1 < 0 then 40 else 13, [some (.inr (.inr (.inl (some (204))))), some (.inl (a0)), some (.inl (a1)), some (.inl (a2)), some (.inl (a3)), none], [], 0, 0, ix_mem 276 I J T)) rfl trivial ?_
      refine ix_br (fun c6 => ?_) (fun c6 => ?_)
      · have h7 := h5.1 c6
        refine ix_go 2 (x' := (42, [some (.inr (.inr (.inl (some (204))))), some (.inl (a0)), some (.inl (a1)), some (.inl (a2)), some (.inl (a3)), none], [.inl ((1 : Int32)), .inr (.inr (.inl (some (204))))], 0, 0, ix_mem 276 I J T)) rfl trivial ?_
        refine ix_sp rfl ⟨rfl, ⟨ix_lt rfl, ix_eq rfl, ix_lt rfl⟩, ix_le rfl, Nat.le_refl _, Nat.le_refl _, tp_X12_refuse h7 (fun v8 I8 J8 T8 h8 => ?_)⟩
        change ix_W _ _ _ (45, [some (.inr (.inr (.inl (some (204))))), some (.inl (a0)), some (.inl (a1)), some (.inl (a2)), some (.inl (a3)), none], [.inl (v8)], 0, 0, ix_mem 276 I8 J8 T8)
        exact ix_sp rfl ⟨Nat.le_refl _, Nat.le_refl _, trivial, hQ _ _ _ _ h8⟩
      · have h7 := h5.2 c6
        refine ix_go 3 (x' := (if a1 ≤ (9999 : Int32) then 20 else 40, [some (.inr (.inr (.inl (some (204))))), some (.inl (a0)), some (.inl (a1)), some (.inl (a2)), some (.inl (a3)), none], [], 0, 0, ix_mem 276 I J T)) rfl trivial ?_
        refine ix_br (fun c9 => ?_) (fun c9 => ?_)
        · have h10 := h7.1 c9
          refine ix_go 1 (x' := (21, [some (.inr (.inr (.inl (some (204))))), some (.inl (a0)), some (.inl (a1)), some (.inl (a2)), some (.inl (a3)), none], [.inl (a2)], 0, 0, ix_mem 276 I J T)) rfl trivial ?_
          refine ix_sp rfl ⟨rfl, trivial, ix_le rfl, Nat.le_refl _, Nat.le_refl _, tp_X12_isDay h10 (fun v11 I11 J11 T11 h11 => ?_)⟩
          change ix_W _ _ _ (24, [some (.inr (.inr (.inl (some (204))))), some (.inl (a0)), some (.inl (a1)), some (.inl (a2)), some (.inl (a3)), none], [.inl (v11)], 0, 0, ix_mem 276 I11 J11 T11)
          refine ix_go 1 (x' := (if v11 = 0 then 40 else 27, [some (.inr (.inr (.inl (some (204))))), some (.inl (a0)), some (.inl (a1)), some (.inl (a2)), some (.inl (a3)), none], [], 0, 0, ix_mem 276 I11 J11 T11)) rfl trivial ?_
          refine ix_br (fun c12 => ?_) (fun c12 => ?_)
          · have h13 := h11.1 c12
            refine ix_go 2 (x' := (42, [some (.inr (.inr (.inl (some (204))))), some (.inl (a0)), some (.inl (a1)), some (.inl (a2)), some (.inl (a3)), none], [.inl ((1 : Int32)), .inr (.inr (.inl (some (204))))], 0, 0, ix_mem 276 I11 J11 T11)) rfl trivial ?_
            refine ix_sp rfl ⟨rfl, ⟨ix_lt rfl, ix_eq rfl, ix_lt rfl⟩, ix_le rfl, Nat.le_refl _, Nat.le_refl _, tp_X12_refuse h13 (fun v14 I14 J14 T14 h14 => ?_)⟩
            change ix_W _ _ _ (45, [some (.inr (.inr (.inl (some (204))))), some (.inl (a0)), some (.inl (a1)), some (.inl (a2)), some (.inl (a3)), none], [.inl (v14)], 0, 0, ix_mem 276 I14 J14 T14)
            exact ix_sp rfl ⟨Nat.le_refl _, Nat.le_refl _, trivial, hQ _ _ _ _ h14⟩
          · have h13 := h11.2 c12
            refine ix_go 2 (x' := (if a3 < 0 then 40 else 32, [some (.inr (.inr (.inl (some (204))))), some (.inl (a0)), some (.inl (a1)), some (.inl (a2)), some (.inl (a3)), none], [], 0, 0, ix_mem 276 I11 J11 T11)) rfl trivial ?_
            refine ix_br (fun c15 => ?_) (fun c15 => ?_)
            · have h16 := h13.1 c15
              refine ix_go 2 (x' := (42, [some (.inr (.inr (.inl (some (204))))), some (.inl (a0)), some (.inl (a1)), some (.inl (a2)), some (.inl (a3)), none], [.inl ((1 : Int32)), .inr (.inr (.inl (some (204))))], 0, 0, ix_mem 276 I11 J11 T11)) rfl trivial ?_
              refine ix_sp rfl ⟨rfl, ⟨ix_lt rfl, ix_eq rfl, ix_lt rfl⟩, ix_le rfl, Nat.le_refl _, Nat.le_refl _, tp_X12_refuse h16 (fun v17 I17 J17 T17 h17 => ?_)⟩
              change ix_W _ _ _ (45, [some (.inr (.inr (.inl (some (204))))), some (.inl (a0)), some (.inl (a1)), some (.inl (a2)), some (.inl (a3)), none], [.inl (v17)], 0, 0, ix_mem 276 I17 J17 T17)
              exact ix_sp rfl ⟨Nat.le_refl _, Nat.le_refl _, trivial, hQ _ _ _ _ h17⟩
            · have h16 := h13.2 c15
              refine ix_go 3 (x' := (if a3 ≤ (1000000 : Int32) then 46 else 40, [some (.inr (.inr (.inl (some (204))))), some (.inl (a0)), some (.inl (a1)), some (.inl (a2)), some (.inl (a3)), none], [], 0, 0, ix_mem 276 I11 J11 T11)) rfl trivial ?_
              refine ix_br (fun c18 => ?_) (fun c18 => ?_)
              · have h19 := h16.1 c18
                obtain ⟨p20, h21⟩ := h19
                refine ix_go 6 (x' := (if I11 267 (a0).toNatClampNeg = (12 : Int32) then 57 else 63, [some (.inr (.inr (.inl (some (204))))), some (.inl (a0)), some (.inl (a1)), some (.inl (a2)), some (.inl (a3)), none], [], 0, 0, ix_mem 276 I11 J11 T11)) rfl ⟨rfl, rfl, rfl, rfl, p20⟩ ?_
                refine ix_br (fun c22 => ?_) (fun c22 => ?_)
                · have h23 := h21.1 c22
                  refine ix_go 2 (x' := (59, [some (.inr (.inr (.inl (some (204))))), some (.inl (a0)), some (.inl (a1)), some (.inl (a2)), some (.inl (a3)), none], [.inl ((4 : Int32)), .inr (.inr (.inl (some (204))))], 0, 0, ix_mem 276 I11 J11 T11)) rfl trivial ?_
                  refine ix_sp rfl ⟨rfl, ⟨ix_lt rfl, ix_eq rfl, ix_lt rfl⟩, ix_le rfl, Nat.le_refl _, Nat.le_refl _, tp_X12_refuse h23 (fun v24 I24 J24 T24 h24 => ?_)⟩
                  change ix_W _ _ _ (62, [some (.inr (.inr (.inl (some (204))))), some (.inl (a0)), some (.inl (a1)), some (.inl (a2)), some (.inl (a3)), none], [.inl (v24)], 0, 0, ix_mem 276 I24 J24 T24)
                  exact ix_sp rfl ⟨Nat.le_refl _, Nat.le_refl _, trivial, hQ _ _ _ _ h24⟩
                · have h23 := h21.2 c22
                  obtain ⟨p25, h26⟩ := h23
                  refine ix_go 7 (x' := (73, [some (.inr (.inr (.inl (some (204))))), some (.inl (a0)), some (.inl (a1)), some (.inl (a2)), some (.inl (a3)), none], [.inl (I11 267 (a0).toNatClampNeg), .inl (((12 : Int32)) * (a0))], 0, 0, ix_mem 276 I11 J11 T11)) rfl ⟨rfl, rfl, rfl, rfl, p25⟩ ?_
                  obtain ⟨p27, h28⟩ := h26
                  refine ix_go 7 (x' := (84, [some (.inr (.inr (.inl (some (204))))), some (.inl (a0)), some (.inl (a1)), some (.inl (a2)), some (.inl (a3)), some (.inl ((((12 : Int32)) * (a0)) + (I11 267 (a0).toNatClampNeg)))], [], 0, 0, ix_mem 276 (ix_u2 I11 268 ((((12 : Int32)) * (a0)) + (I11 267 (a0).toNatClampNeg)).toNatClampNeg (a1)) J11 T11)) rfl ⟨rfl, rfl, rfl, rfl, p27⟩ ?_
                  obtain ⟨p29, h30⟩ := h28
                  refine ix_go 7 (x' := (96, [some (.inr (.inr (.inl (some (204))))), some (.inl (a0)), some (.inl (a1)), some (.inl (a2)), some (.inl (a3)), some (.inl ((((12 : Int32)) * (a0)) + (I11 267 (a0).toNatClampNeg)))], [.inr (.inr (.inl (some (270))))], 0, 0, ix_mem 276 (ix_u2 (ix_u2 I11 268 ((((12 : Int32)) * (a0)) + (I11 267 (a0).toNatClampNeg)).toNatClampNeg (a1)) 269 ((((12 : Int32)) * (a0)) + (I11 267 (a0).toNatClampNeg)).toNatClampNeg (a2)) J11 T11)) rfl ⟨rfl, rfl, rfl, rfl, p29, rfl, rfl⟩ ?_
                  obtain ⟨p31, h32⟩ := h30
                  refine ix_go 7 (x' := (107, [some (.inr (.inr (.inl (some (204))))), some (.inl (a0)), some (.inl (a1)), some (.inl (a2)), some (.inl (a3)), some (.inl ((((12 : Int32)) * (a0)) + (I11 267 (a0).toNatClampNeg)))], [.inl (a0), .inr (.inr (.inl (some (267)))), .inl (a0), .inr (.inr (.inl (some (267))))], 0, 0, ix_mem 276 (ix_u2 (ix_u2 (ix_u2 I11 268 ((((12 : Int32)) * (a0)) + (I11 267 (a0).toNatClampNeg)).toNatClampNeg (a1)) 269 ((((12 : Int32)) * (a0)) + (I11 267 (a0).toNatClampNeg)).toNatClampNeg (a2)) 270 ((((12 : Int32)) * (a0)) + (I11 267 (a0).toNatClampNeg)).toNatClampNeg (a3)) J11 T11)) rfl ⟨rfl, rfl, p31, rfl, rfl⟩ ?_
                  obtain ⟨p33, h34⟩ := h32
                  obtain ⟨p35, h36⟩ := h34
                  refine ix_go 7 (x' := (116, [some (.inr (.inr (.inl (some (204))))), some (.inl (a0)), some (.inl (a1)), some (.inl (a2)), some (.inl (a3)), some (.inl ((((12 : Int32)) * (a0)) + (I11 267 (a0).toNatClampNeg)))], [.inr (.inr (.inl (some (267)))), .inr (.inr (.inl (some (204))))], 0, 0, ix_mem 276 (ix_u2 (ix_u2 (ix_u2 (ix_u2 I11 268 ((((12 : Int32)) * (a0)) + (I11 267 (a0).toNatClampNeg)).toNatClampNeg (a1)) 269 ((((12 : Int32)) * (a0)) + (I11 267 (a0).toNatClampNeg)).toNatClampNeg (a2)) 270 ((((12 : Int32)) * (a0)) + (I11 267 (a0).toNatClampNeg)).toNatClampNeg (a3)) 267 (a0).toNatClampNeg ((I11 267 (a0).toNatClampNeg) + ((1 : Int32)))) J11 T11)) rfl ⟨rfl, rfl, p33, rfl, rfl, p35, rfl, rfl⟩ ?_
                  obtain ⟨p37, h38⟩ := h36
                  refine ix_go 4 (x' := (120, [some (.inr (.inr (.inl (some (204))))), some (.inl (a0)), some (.inl (a1)), some (.inl (a2)), some (.inl (a3)), some (.inl ((((12 : Int32)) * (a0)) + (I11 267 (a0).toNatClampNeg)))], [.inl (((ix_u2 (ix_u2 (ix_u2 (ix_u2 I11 268 ((((12 : Int32)) * (a0)) + (I11 267 (a0).toNatClampNeg)).toNatClampNeg (a1)) 269 ((((12 : Int32)) * (a0)) + (I11 267 (a0).toNatClampNeg)).toNatClampNeg (a2)) 270 ((((12 : Int32)) * (a0)) + (I11 267 (a0).toNatClampNeg)).toNatClampNeg (a3)) 267 (a0).toNatClampNeg ((I11 267 (a0).toNatClampNeg) + ((1 : Int32)))) 267 (a0).toNatClampNeg) - ((1 : Int32))), .inr (.inr (.inl (some (204))))], 0, 0, ix_mem 276 (ix_u2 (ix_u2 (ix_u2 (ix_u2 I11 268 ((((12 : Int32)) * (a0)) + (I11 267 (a0).toNatClampNeg)).toNatClampNeg (a1)) 269 ((((12 : Int32)) * (a0)) + (I11 267 (a0).toNatClampNeg)).toNatClampNeg (a2)) 270 ((((12 : Int32)) * (a0)) + (I11 267 (a0).toNatClampNeg)).toNatClampNeg (a3)) 267 (a0).toNatClampNeg ((I11 267 (a0).toNatClampNeg) + ((1 : Int32)))) J11 T11)) rfl ⟨rfl, rfl, p37⟩ ?_
                  refine ix_sp rfl ⟨rfl, ⟨ix_lt rfl, ix_eq rfl, ix_lt rfl⟩, ix_le rfl, Nat.le_refl _, Nat.le_refl _, tp_X12_gives h38 (fun v39 I39 J39 T39 h39 => ?_)⟩
                  change ix_W _ _ _ (123, [some (.inr (.inr (.inl (some (204))))), some (.inl (a0)), some (.inl (a1)), some (.inl (a2)), some (.inl (a3)), some (.inl ((((12 : Int32)) * (a0)) + (I11 267 (a0).toNatClampNeg)))], [.inl (v39)], 0, 0, ix_mem 276 I39 J39 T39)
                  exact ix_sp rfl ⟨Nat.le_refl _, Nat.le_refl _, trivial, hQ _ _ _ _ h39⟩
              · have h19 := h16.2 c18
                refine ix_go 2 (x' := (42, [some (.inr (.inr (.inl (some (204))))), some (.inl (a0)), some (.inl (a1)), some (.inl (a2)), some (.inl (a3)), none], [.inl ((1 : Int32)), .inr (.inr (.inl (some (204))))], 0, 0, ix_mem 276 I11 J11 T11)) rfl trivial ?_
                refine ix_sp rfl ⟨rfl, ⟨ix_lt rfl, ix_eq rfl, ix_lt rfl⟩, ix_le rfl, Nat.le_refl _, Nat.le_refl _, tp_X12_refuse h19 (fun v40 I40 J40 T40 h40 => ?_)⟩
                change ix_W _ _ _ (45, [some (.inr (.inr (.inl (some (204))))), some (.inl (a0)), some (.inl (a1)), some (.inl (a2)), some (.inl (a3)), none], [.inl (v40)], 0, 0, ix_mem 276 I40 J40 T40)
                exact ix_sp rfl ⟨Nat.le_refl _, Nat.le_refl _, trivial, hQ _ _ _ _ h40⟩
        · have h10 := h7.2 c9
          refine ix_go 2 (x' := (42, [some (.inr (.inr (.inl (some (204))))), some (.inl (a0)), some (.inl (a1)), some (.inl (a2)), some (.inl (a3)), none], [.inl ((1 : Int32)), .inr (.inr (.inl (some (204))))], 0, 0, ix_mem 276 I J T)) rfl trivial ?_
          refine ix_sp rfl ⟨rfl, ⟨ix_lt rfl, ix_eq rfl, ix_lt rfl⟩, ix_le rfl, Nat.le_refl _, Nat.le_refl _, tp_X12_refuse h10 (fun v41 I41 J41 T41 h41 => ?_)⟩
          change ix_W _ _ _ (45, [some (.inr (.inr (.inl (some (204))))), some (.inl (a0)), some (.inl (a1)), some (.inl (a2)), some (.inl (a3)), none], [.inl (v41)], 0, 0, ix_mem 276 I41 J41 T41)
          exact ix_sp rfl ⟨Nat.le_refl _, Nat.le_refl _, trivial, hQ _ _ _ _ h41⟩
    · have h5 := h2.2 c4
      refine ix_go 2 (x' := (42, [some (.inr (.inr (.inl (some (204))))), some (.inl (a0)), some (.inl (a1)), some (.inl (a2)), some (.inl (a3)), none], [.inl ((1 : Int32)), .inr (.inr (.inl (some (204))))], 0, 0, ix_mem 276 I J T)) rfl trivial ?_
      refine ix_sp rfl ⟨rfl, ⟨ix_lt rfl, ix_eq rfl, ix_lt rfl⟩, ix_le rfl, Nat.le_refl _, Nat.le_refl _, tp_X12_refuse h5 (fun v42 I42 J42 T42 h42 => ?_)⟩
      change ix_W _ _ _ (45, [some (.inr (.inr (.inl (some (204))))), some (.inl (a0)), some (.inl (a1)), some (.inl (a2)), some (.inl (a3)), none], [.inl (v42)], 0, 0, ix_mem 276 I42 J42 T42)
      exact ix_sp rfl ⟨Nat.le_refl _, Nat.le_refl _, trivial, hQ _ _ _ _ h42⟩
def wp_X12_close (I : Nat → Nat → Int32) (J : Nat → Nat → Int64) (T : Option Nat) (P : Int32 → (Nat → Nat → Int32) → (Nat → Nat → Int64) → Option Nat → Prop) : Prop := wp_X12_is ((0 : Int32)) (ix_u2 (ix_u2 I 267 ((0 : Int32)).toNatClampNeg ((0 : Int32))) 267 ((1 : Int32)).toNatClampNeg ((0 : Int32))) J T (fun v1 I1 J1 T1 => ix_01 (v1) = true ∧ P (v1) I1 J1 T1)
set_option maxRecDepth 20000 in
theorem tp_X12_close {d : Nat} {I : Nat → Nat → Int32} {J : Nat → Nat → Int64} {T : Option Nat} {P : Int32 → (Nat → Nat → Int32) → (Nat → Nat → Int64) → Option Nat → Prop} {Q : ix_Q} (h : wp_X12_close I J T P) (hQ : ∀ v I J T, P v I J T → Q (some (.inl v)) (ix_mem 276 I J T)) : ix_C (d + 2) 330 [.inr (.inr (.inl (some (204))))] (ix_mem 276 I J T) Q := by
  unfold wp_X12_close at h
  refine ix_enter (ls := [some (.inr (.inr (.inl (some (204)))))]) rfl rfl rfl (Nat.le_of_ble_eq_true rfl) ?_
  refine ix_go 7 (x' := (11, [some (.inr (.inr (.inl (some (204)))))], [.inr (.inr (.inl (some (267))))], 0, 0, ix_mem 276 (ix_u2 I 267 ((0 : Int32)).toNatClampNeg ((0 : Int32))) J T)) rfl ⟨rfl, rfl, rfl, rfl, rfl, rfl, rfl⟩ ?_
  refine ix_go 5 (x' := (16, [some (.inr (.inr (.inl (some (204)))))], [.inl ((0 : Int32)), .inr (.inr (.inl (some (204))))], 0, 0, ix_mem 276 (ix_u2 (ix_u2 I 267 ((0 : Int32)).toNatClampNeg ((0 : Int32))) 267 ((1 : Int32)).toNatClampNeg ((0 : Int32))) J T)) rfl ⟨rfl, rfl, rfl⟩ ?_
  refine ix_sp rfl ⟨rfl, ⟨ix_lt rfl, ix_eq rfl, ix_lt rfl⟩, ix_le rfl, Nat.le_refl _, Nat.le_refl _, tp_X12_is h (fun v1 I1 J1 T1 h1 => ?_)⟩
  change ix_W _ _ _ (19, [some (.inr (.inr (.inl (some (204)))))], [.inl (v1)], 0, 0, ix_mem 276 I1 J1 T1)
  exact ix_sp rfl ⟨Nat.le_refl _, Nat.le_refl _, ix_01_ok h1.1, hQ _ _ _ _ h1.2⟩
def wp_X12_cost (a0 : Int32) (a1 : Int32) (I : Nat → Nat → Int32) (J : Nat → Nat → Int64) (T : Option Nat) (P : Int32 → (Nat → Nat → Int32) → (Nat → Nat → Int64) → Option Nat → Prop) : Prop := ix_inb (a0) 24 = true ∧ ix_inb (((12 : Int32)) + (a1)) 24 = true ∧ ((I 268 (a0).toNatClampNeg = I 268 (((12 : Int32)) + (a1)).toNatClampNeg → ix_inb (a0) 24 = true ∧ ix_inb (((12 : Int32)) + (a1)) 24 = true ∧ wp_J9_abs_0f7a4 ((I 269 (a0).toNatClampNeg) - (I 269 (((12 : Int32)) + (a1)).toNatClampNeg)) I J T (fun v11 I11 J11 T11 => wp_J9_min_7cf53 ((10 : Int32)) (v11) I11 J11 T11 (fun v12 I12 J12 T12 => ix_inb (a0) 24 = true ∧ ix_inb (((12 : Int32)) + (a1)) 24 = true ∧ wp_J9_abs_0f7a4 ((I12 270 (a0).toNatClampNeg) - (I12 270 (((12 : Int32)) + (a1)).toNatClampNeg)) I12 J12 T12 (fun v17 I17 J17 T17 => wp_J9_min_7cf53 ((20 : Int32)) ((v17) / ((100 : Int32))) I17 J17 T17 (fun v18 I18 J18 T18 => P ((((0 : Int32)) + (v12)) + (v18)) I18 J18 T18))))) ∧ (¬ (I 268 (a0).toNatClampNeg = I 268 (((12 : Int32)) + (a1)).toNatClampNeg) → ix_inb (a0) 24 = true ∧ ix_inb (((12 : Int32)) + (a1)) 24 = true ∧ wp_J9_abs_0f7a4 ((I 269 (a0).toNatClampNeg) - (I 269 (((12 : Int32)) + (a1)).toNatClampNeg)) I J T (fun v23 I23 J23 T23 => wp_J9_min_7cf53 ((10 : Int32)) (v23) I23 J23 T23 (fun v24 I24 J24 T24 => ix_inb (a0) 24 = true ∧ ix_inb (((12 : Int32)) + (a1)) 24 = true ∧ wp_J9_abs_0f7a4 ((I24 270 (a0).toNatClampNeg) - (I24 270 (((12 : Int32)) + (a1)).toNatClampNeg)) I24 J24 T24 (fun v29 I29 J29 T29 => wp_J9_min_7cf53 ((20 : Int32)) ((v29) / ((100 : Int32))) I29 J29 T29 (fun v30 I30 J30 T30 => P ((((20 : Int32)) + (v24)) + (v30)) I30 J30 T30))))))
set_option maxRecDepth 20000 in
theorem tp_X12_cost {d : Nat} {a0 : Int32} {a1 : Int32} {I : Nat → Nat → Int32} {J : Nat → Nat → Int64} {T : Option Nat} {P : Int32 → (Nat → Nat → Int32) → (Nat → Nat → Int64) → Option Nat → Prop} {Q : ix_Q} (h : wp_X12_cost a0 a1 I J T P) (hQ : ∀ v I J T, P v I J T → Q (some (.inl v)) (ix_mem 276 I J T)) : ix_C (d + 2) 331 [.inr (.inr (.inl (some (204)))), .inl (a0), .inl (a1)] (ix_mem 276 I J T) Q := by
  unfold wp_X12_cost at h
  refine ix_enter (ls := [some (.inr (.inr (.inl (some (204))))), some (.inl (a0)), some (.inl (a1)), none, none]) rfl rfl rfl (Nat.le_of_ble_eq_true rfl) ?_
  refine ix_go 7 (x' := (10, [some (.inr (.inr (.inl (some (204))))), some (.inl (a0)), some (.inl (a1)), some (.inl (((12 : Int32)) + (a1))), none], [.inl (a0), .inr (.inr (.inl (some (268))))], 0, 0, ix_mem 276 I J T)) rfl ⟨rfl, rfl⟩ ?_
  obtain ⟨p1, h2⟩ := h
  obtain ⟨p3, h4⟩ := h2
  refine ix_go 6 (x' := (if I 268 (a0).toNatClampNeg = I 268 (((12 : Int32)) + (a1)).toNatClampNeg then 20 else 24, [some (.inr (.inr (.inl (some (204))))), some (.inl (a0)), some (.inl (a1)), some (.inl (((12 : Int32)) + (a1))), none], [], 0, 0, ix_mem 276 I J T)) rfl ⟨rfl, rfl, p1, rfl, rfl, rfl, rfl, p3⟩ ?_
  refine ix_br (fun c5 => ?_) (fun c5 => ?_)
  · have h6 := h4.1 c5
    refine ix_go 7 (x' := (36, [some (.inr (.inr (.inl (some (204))))), some (.inl (a0)), some (.inl (a1)), some (.inl (((12 : Int32)) + (a1))), some (.inl ((0 : Int32)))], [.inr (.inr (.inl (some (269)))), .inl ((10 : Int32)), .inl ((0 : Int32))], 0, 0, ix_mem 276 I J T)) rfl ⟨rfl, rfl⟩ ?_
    obtain ⟨p7, h8⟩ := h6
    obtain ⟨p9, h10⟩ := h8
    refine ix_go 7 (x' := (45, [some (.inr (.inr (.inl (some (204))))), some (.inl (a0)), some (.inl (a1)), some (.inl (((12 : Int32)) + (a1))), some (.inl ((0 : Int32)))], [.inl ((I 269 (a0).toNatClampNeg) - (I 269 (((12 : Int32)) + (a1)).toNatClampNeg)), .inl ((10 : Int32)), .inl ((0 : Int32))], 0, 0, ix_mem 276 I J T)) rfl ⟨rfl, rfl, p7, rfl, rfl, rfl, rfl, p9⟩ ?_
    refine ix_sp rfl ⟨rfl, trivial, ix_le rfl, Nat.le_refl _, Nat.le_refl _, tp_J9_abs_0f7a4 h10 (fun v11 I11 J11 T11 h11 => ?_)⟩
    change ix_W _ _ _ (48, [some (.inr (.inr (.inl (some (204))))), some (.inl (a0)), some (.inl (a1)), some (.inl (((12 : Int32)) + (a1))), some (.inl ((0 : Int32)))], [.inl (v11), .inl ((10 : Int32)), .inl ((0 : Int32))], 0, 0, ix_mem 276 I11 J11 T11)
    refine ix_sp rfl ⟨rfl, trivial, ix_le rfl, Nat.le_refl _, Nat.le_refl _, tp_J9_min_7cf53 h11 (fun v12 I12 J12 T12 h12 => ?_)⟩
    change ix_W _ _ _ (51, [some (.inr (.inr (.inl (some (204))))), some (.inl (a0)), some (.inl (a1)), some (.inl (((12 : Int32)) + (a1))), some (.inl ((0 : Int32)))], [.inl (v12), .inl ((0 : Int32))], 0, 0, ix_mem 276 I12 J12 T12)
    refine ix_go 7 (x' := (63, [some (.inr (.inr (.inl (some (204))))), some (.inl (a0)), some (.inl (a1)), some (.inl (((12 : Int32)) + (a1))), some (.inl (((0 : Int32)) + (v12)))], [.inl (a0), .inr (.inr (.inl (some (270)))), .inl ((20 : Int32)), .inl (((0 : Int32)) + (v12))], 0, 0, ix_mem 276 I12 J12 T12)) rfl ⟨rfl, rfl⟩ ?_
    obtain ⟨p13, h14⟩ := h12
    obtain ⟨p15, h16⟩ := h14
    refine ix_go 6 (x' := (71, [some (.inr (.inr (.inl (some (204))))), some (.inl (a0)), some (.inl (a1)), some (.inl (((12 : Int32)) + (a1))), some (.inl (((0 : Int32)) + (v12)))], [.inl ((I12 270 (a0).toNatClampNeg) - (I12 270 (((12 : Int32)) + (a1)).toNatClampNeg)), .inl ((20 : Int32)), .inl (((0 : Int32)) + (v12))], 0, 0, ix_mem 276 I12 J12 T12)) rfl ⟨rfl, rfl, p13, rfl, rfl, rfl, rfl, p15⟩ ?_
    refine ix_sp rfl ⟨rfl, trivial, ix_le rfl, Nat.le_refl _, Nat.le_refl _, tp_J9_abs_0f7a4 h16 (fun v17 I17 J17 T17 h17 => ?_)⟩
    change ix_W _ _ _ (74, [some (.inr (.inr (.inl (some (204))))), some (.inl (a0)), some (.inl (a1)), some (.inl (((12 : Int32)) + (a1))), some (.inl (((0 : Int32)) + (v12)))], [.inl (v17), .inl ((20 : Int32)), .inl (((0 : Int32)) + (v12))], 0, 0, ix_mem 276 I17 J17 T17)
    refine ix_go 2 (x' := (77, [some (.inr (.inr (.inl (some (204))))), some (.inl (a0)), some (.inl (a1)), some (.inl (((12 : Int32)) + (a1))), some (.inl (((0 : Int32)) + (v12)))], [.inl ((v17) / ((100 : Int32))), .inl ((20 : Int32)), .inl (((0 : Int32)) + (v12))], 0, 0, ix_mem 276 I17 J17 T17)) rfl rfl ?_
    refine ix_sp rfl ⟨rfl, trivial, ix_le rfl, Nat.le_refl _, Nat.le_refl _, tp_J9_min_7cf53 h17 (fun v18 I18 J18 T18 h18 => ?_)⟩
    change ix_W _ _ _ (80, [some (.inr (.inr (.inl (some (204))))), some (.inl (a0)), some (.inl (a1)), some (.inl (((12 : Int32)) + (a1))), some (.inl (((0 : Int32)) + (v12)))], [.inl (v18), .inl (((0 : Int32)) + (v12))], 0, 0, ix_mem 276 I18 J18 T18)
    refine ix_go 1 (x' := (81, [some (.inr (.inr (.inl (some (204))))), some (.inl (a0)), some (.inl (a1)), some (.inl (((12 : Int32)) + (a1))), some (.inl (((0 : Int32)) + (v12)))], [.inl ((((0 : Int32)) + (v12)) + (v18))], 0, 0, ix_mem 276 I18 J18 T18)) rfl trivial ?_
    exact ix_sp rfl ⟨Nat.le_refl _, Nat.le_refl _, trivial, hQ _ _ _ _ h18⟩
  · have h6 := h4.2 c5
    refine ix_go 7 (x' := (37, [some (.inr (.inr (.inl (some (204))))), some (.inl (a0)), some (.inl (a1)), some (.inl (((12 : Int32)) + (a1))), some (.inl ((20 : Int32)))], [.inl (a0), .inr (.inr (.inl (some (269)))), .inl ((10 : Int32)), .inl ((20 : Int32))], 0, 0, ix_mem 276 I J T)) rfl ⟨rfl, rfl⟩ ?_
    obtain ⟨p19, h20⟩ := h6
    obtain ⟨p21, h22⟩ := h20
    refine ix_go 6 (x' := (45, [some (.inr (.inr (.inl (some (204))))), some (.inl (a0)), some (.inl (a1)), some (.inl (((12 : Int32)) + (a1))), some (.inl ((20 : Int32)))], [.inl ((I 269 (a0).toNatClampNeg) - (I 269 (((12 : Int32)) + (a1)).toNatClampNeg)), .inl ((10 : Int32)), .inl ((20 : Int32))], 0, 0, ix_mem 276 I J T)) rfl ⟨rfl, rfl, p19, rfl, rfl, rfl, rfl, p21⟩ ?_
    refine ix_sp rfl ⟨rfl, trivial, ix_le rfl, Nat.le_refl _, Nat.le_refl _, tp_J9_abs_0f7a4 h22 (fun v23 I23 J23 T23 h23 => ?_)⟩
    change ix_W _ _ _ (48, [some (.inr (.inr (.inl (some (204))))), some (.inl (a0)), some (.inl (a1)), some (.inl (((12 : Int32)) + (a1))), some (.inl ((20 : Int32)))], [.inl (v23), .inl ((10 : Int32)), .inl ((20 : Int32))], 0, 0, ix_mem 276 I23 J23 T23)
    refine ix_sp rfl ⟨rfl, trivial, ix_le rfl, Nat.le_refl _, Nat.le_refl _, tp_J9_min_7cf53 h23 (fun v24 I24 J24 T24 h24 => ?_)⟩
    change ix_W _ _ _ (51, [some (.inr (.inr (.inl (some (204))))), some (.inl (a0)), some (.inl (a1)), some (.inl (((12 : Int32)) + (a1))), some (.inl ((20 : Int32)))], [.inl (v24), .inl ((20 : Int32))], 0, 0, ix_mem 276 I24 J24 T24)
    refine ix_go 7 (x' := (63, [some (.inr (.inr (.inl (some (204))))), some (.inl (a0)), some (.inl (a1)), some (.inl (((12 : Int32)) + (a1))), some (.inl (((20 : Int32)) + (v24)))], [.inl (a0), .inr (.inr (.inl (some (270)))), .inl ((20 : Int32)), .inl (((20 : Int32)) + (v24))], 0, 0, ix_mem 276 I24 J24 T24)) rfl ⟨rfl, rfl⟩ ?_
    obtain ⟨p25, h26⟩ := h24
    obtain ⟨p27, h28⟩ := h26
    refine ix_go 6 (x' := (71, [some (.inr (.inr (.inl (some (204))))), some (.inl (a0)), some (.inl (a1)), some (.inl (((12 : Int32)) + (a1))), some (.inl (((20 : Int32)) + (v24)))], [.inl ((I24 270 (a0).toNatClampNeg) - (I24 270 (((12 : Int32)) + (a1)).toNatClampNeg)), .inl ((20 : Int32)), .inl (((20 : Int32)) + (v24))], 0, 0, ix_mem 276 I24 J24 T24)) rfl ⟨rfl, rfl, p25, rfl, rfl, rfl, rfl, p27⟩ ?_
    refine ix_sp rfl ⟨rfl, trivial, ix_le rfl, Nat.le_refl _, Nat.le_refl _, tp_J9_abs_0f7a4 h28 (fun v29 I29 J29 T29 h29 => ?_)⟩
    change ix_W _ _ _ (74, [some (.inr (.inr (.inl (some (204))))), some (.inl (a0)), some (.inl (a1)), some (.inl (((12 : Int32)) + (a1))), some (.inl (((20 : Int32)) + (v24)))], [.inl (v29), .inl ((20 : Int32)), .inl (((20 : Int32)) + (v24))], 0, 0, ix_mem 276 I29 J29 T29)
    refine ix_go 2 (x' := (77, [some (.inr (.inr (.inl (some (204))))), some (.inl (a0)), some (.inl (a1)), some (.inl (((12 : Int32)) + (a1))), some (.inl (((20 : Int32)) + (v24)))], [.inl ((v29) / ((100 : Int32))), .inl ((20 : Int32)), .inl (((20 : Int32)) + (v24))], 0, 0, ix_mem 276 I29 J29 T29)) rfl rfl ?_
    refine ix_sp rfl ⟨rfl, trivial, ix_le rfl, Nat.le_refl _, Nat.le_refl _, tp_J9_min_7cf53 h29 (fun v30 I30 J30 T30 h30 => ?_)⟩
    change ix_W _ _ _ (80, [some (.inr (.inr (.inl (some (204))))), some (.inl (a0)), some (.inl (a1)), some (.inl (((12 : Int32)) + (a1))), some (.inl (((20 : Int32)) + (v24)))], [.inl (v30), .inl (((20 : Int32)) + (v24))], 0, 0, ix_mem 276 I30 J30 T30)
    refine ix_go 1 (x' := (81, [some (.inr (.inr (.inl (some (204))))), some (.inl (a0)), some (.inl (a1)), some (.inl (((12 : Int32)) + (a1))), some (.inl (((20 : Int32)) + (v24)))], [.inl ((((20 : Int32)) + (v24)) + (v30))], 0, 0, ix_mem 276 I30 J30 T30)) rfl trivial ?_
    exact ix_sp rfl ⟨Nat.le_refl _, Nat.le_refl _, trivial, hQ _ _ _ _ h30⟩
def wb_X12_pairing_43_16_22 (x1 : Int32) (x2 : Int32) (x3 : Int32) (x4 : Int32) (x5 : Int32) (I : Nat → Nat → Int32) (J : Nat → Nat → Int64) (T : Option Nat) (V43 : Int32 → Int32 → Int32 → Int32 → Int32 → (Nat → Nat → Int32) → (Nat → Nat → Int64) → Option Nat → Prop) (V16 : Int32 → Int32 → (Nat → Nat → Int32) → (Nat → Nat → Int64) → Option Nat → Prop) (V22 : Int32 → Int32 → Int32 → (Nat → Nat → Int32) → (Nat → Nat → Int64) → Option Nat → Prop) (P : Int32 → (Nat → Nat → Int32) → (Nat → Nat → Int64) → Option Nat → Prop) : Prop := ((x5 < I 267 ((1 : Int32)).toNatClampNeg → ((((x3) >>> ((x5) &&& 31)) &&& ((1 : Int32)) = 0 → V43 (x1) (x2) (x3) ((x4) + ((25 : Int32))) (x5 + (1 : Int32)) I J T) ∧ (¬ (((x3) >>> ((x5) &&& 31)) &&& ((1 : Int32)) = 0) → V43 (x1) (x2) (x3) ((x4) + ((0 : Int32))) (x5 + (1 : Int32)) I J T))) ∧ (¬ (x5 < I 267 ((1 : Int32)).toNatClampNeg) → ix_inb ((((4096 : Int32)) * (x2)) + (x3)) 53248 = true ∧ V22 (x1) (x2) (x3 + (1 : Int32)) (ix_u2 I 271 ((((4096 : Int32)) * (x2)) + (x3)).toNatClampNeg (x4)) J T))
def wl_X12_pairing_43_16_22 (x1 : Int32) (x2 : Int32) (x3 : Int32) (x4 : Int32) (x5 : Int32) (I : Nat → Nat → Int32) (J : Nat → Nat → Int64) (T : Option Nat) (V16 : Int32 → Int32 → (Nat → Nat → Int32) → (Nat → Nat → Int64) → Option Nat → Prop) (V22 : Int32 → Int32 → Int32 → (Nat → Nat → Int32) → (Nat → Nat → Int64) → Option Nat → Prop) (P : Int32 → (Nat → Nat → Int32) → (Nat → Nat → Int64) → Option Nat → Prop) : Prop := ∀ V : Int32 → Int32 → Int32 → Int32 → Int32 → (Nat → Nat → Int32) → (Nat → Nat → Int64) → Option Nat → Prop, (∀ (x1 : Int32) (x2 : Int32) (x3 : Int32) (x4 : Int32) (x5 : Int32) (I : Nat → Nat → Int32) (J : Nat → Nat → Int64) (T : Option Nat), wb_X12_pairing_43_16_22 x1 x2 x3 x4 x5 I J T V V16 V22 P → V x1 x2 x3 x4 x5 I J T) → V x1 x2 x3 x4 x5 I J T
set_option maxRecDepth 20000 in
theorem tl_X12_pairing_43_16_22 {d : Nat} {x1 : Int32} {x2 : Int32} {x3 : Int32} {x4 : Int32} {x5 : Int32} {I : Nat → Nat → Int32} {J : Nat → Nat → Int64} {T : Option Nat} {V16 : Int32 → Int32 → (Nat → Nat → Int32) → (Nat → Nat → Int64) → Option Nat → Prop} {V22 : Int32 → Int32 → Int32 → (Nat → Nat → Int32) → (Nat → Nat → Int64) → Option Nat → Prop} {P : Int32 → (Nat → Nat → Int32) → (Nat → Nat → Int64) → Option Nat → Prop} {Q : ix_Q} (h : wl_X12_pairing_43_16_22 x1 x2 x3 x4 x5 I J T V16 V22 P) (hV16 : ∀ (x1 : Int32) (x2 : Int32) I J T, V16 x1 x2 I J T → ix_W (ix_C d) (12, ix_lk ix_l332, (some .int), 0, 0, Nat.blt 0 0, none) Q (16, [some (.inr (.inr (.inl (some (204))))), some (.inl (x1)), some (.inl (x2)), none, none, none], [], 0, 0, ix_mem 276 I J T)) (hV22 : ∀ (x1 : Int32) (x2 : Int32) (x3 : Int32) I J T, V22 x1 x2 x3 I J T → ix_W (ix_C d) (12, ix_lk ix_l332, (some .int), 0, 0, Nat.blt 0 0, none) Q (22, [some (.inr (.inr (.inl (some (204))))), some (.inl (x1)), some (.inl (x2)), some (.inl (x3)), none, none], [], 0, 0, ix_mem 276 I J T)) (hQ : ∀ v I J T, P v I J T → Q (some (.inl v)) (ix_mem 276 I J T)) : ix_W (ix_C d) (12, ix_lk ix_l332, (some .int), 0, 0, Nat.blt 0 0, none) Q (43, [some (.inr (.inr (.inl (some (204))))), some (.inl (x1)), some (.inl (x2)), some (.inl (x3)), some (.inl (x4)), some (.inl (x5))], [], 0, 0, ix_mem 276 I J T) := by
  refine h (fun x1 x2 x3 x4 x5 I J T => ix_W (ix_C d) (12, ix_lk ix_l332, (some .int), 0, 0, Nat.blt 0 0, none) Q (43, [some (.inr (.inr (.inl (some (204))))), some (.inl (x1)), some (.inl (x2)), some (.inl (x3)), some (.inl (x4)), some (.inl (x5))], [], 0, 0, ix_mem 276 I J T)) ?_
  intro x1 x2 x3 x4 x5 I J T hb
  unfold wb_X12_pairing_43_16_22 at hb
  refine ix_go 6 (x' := (if x5 < I 267 ((1 : Int32)).toNatClampNeg then 54 else 80, [some (.inr (.inr (.inl (some (204))))), some (.inl (x1)), some (.inl (x2)), some (.inl (x3)), some (.inl (x4)), some (.inl (x5))], [], 0, 0, ix_mem 276 I J T)) rfl ⟨rfl, rfl, rfl, rfl, rfl⟩ ?_
  refine ix_br (fun c7 => ?_) (fun c7 => ?_)
  · have h8 := hb.1 c7
    refine ix_go 7 (x' := (if ((x3) >>> ((x5) &&& 31)) &&& ((1 : Int32)) = 0 then 65 else 70, [some (.inr (.inr (.inl (some (204))))), some (.inl (x1)), some (.inl (x2)), some (.inl (x3)), some (.inl (x4)), some (.inl (x5))], [.inl (x4)], 0, 0, ix_mem 276 I J T)) rfl trivial ?_
    refine ix_br (fun c9 => ?_) (fun c9 => ?_)
    · have h10 := h8.1 c9
      refine ix_go 6 (x' := (43, [some (.inr (.inr (.inl (some (204))))), some (.inl (x1)), some (.inl (x2)), some (.inl (x3)), some (.inl ((x4) + ((25 : Int32)))), some (.inl (x5 + (1 : Int32)))], [], 0, 0, ix_mem 276 I J T)) rfl trivial ?_
      refine ix_subW ([some (.inr (.inr (.inl (some (204))))), some (.inl (x1)), some (.inl (x2)), some (.inl (x3)), some (.inl ((x4) + ((25 : Int32)))), some (.inl (x5 + (1 : Int32)))]) (ix_subS (ix_subS (ix_subS (ix_subS (ix_subS (ix_subS (ix_sub0))))))) ?_
      exact h10
    · have h10 := h8.2 c9
      refine ix_go 5 (x' := (43, [some (.inr (.inr (.inl (some (204))))), some (.inl (x1)), some (.inl (x2)), some (.inl (x3)), some (.inl ((x4) + ((0 : Int32)))), some (.inl (x5 + (1 : Int32)))], [], 0, 0, ix_mem 276 I J T)) rfl trivial ?_
      refine ix_subW ([some (.inr (.inr (.inl (some (204))))), some (.inl (x1)), some (.inl (x2)), some (.inl (x3)), some (.inl ((x4) + ((0 : Int32)))), some (.inl (x5 + (1 : Int32)))]) (ix_subS (ix_subS (ix_subS (ix_subS (ix_subS (ix_subS (ix_sub0))))))) ?_
      exact h10
  · have h8 := hb.2 c7
    refine ix_go 7 (x' := (175, [some (.inr (.inr (.inl (some (204))))), some (.inl (x1)), some (.inl (x2)), some (.inl (x3)), some (.inl (x4)), some (.inl (x5))], [.inl (x3), .inl (((4096 : Int32)) * (x2)), .inr (.inr (.inl (some (271))))], 0, 0, ix_mem 276 I J T)) rfl ⟨rfl, rfl⟩ ?_
    obtain ⟨p11, h12⟩ := h8
    refine ix_go 5 (x' := (22, [some (.inr (.inr (.inl (some (204))))), some (.inl (x1)), some (.inl (x2)), some (.inl (x3 + (1 : Int32))), some (.inl (x4)), some (.inl (x5))], [], 0, 0, ix_mem 276 (ix_u2 I 271 ((((4096 : Int32)) * (x2)) + (x3)).toNatClampNeg (x4)) J T)) rfl ⟨rfl, rfl, p11⟩ ?_
    refine ix_subW ([some (.inr (.inr (.inl (some (204))))), some (.inl (x1)), some (.inl (x2)), some (.inl (x3 + (1 : Int32))), none, none]) (ix_subS (ix_subS (ix_subS (ix_subS (ix_subN (ix_subN (ix_sub0))))))) ?_
    exact hV22 _ _ _ _ _ _ h12
def wb_X12_pairing_105_16_22 (x1 : Int32) (x2 : Int32) (x3 : Int32) (x4 : Int32) (x5 : Int32) (I : Nat → Nat → Int32) (J : Nat → Nat → Int64) (T : Option Nat) (V105 : Int32 → Int32 → Int32 → Int32 → Int32 → (Nat → Nat → Int32) → (Nat → Nat → Int64) → Option Nat → Prop) (V16 : Int32 → Int32 → (Nat → Nat → Int32) → (Nat → Nat → Int64) → Option Nat → Prop) (V22 : Int32 → Int32 → Int32 → (Nat → Nat → Int32) → (Nat → Nat → Int64) → Option Nat → Prop) (P : Int32 → (Nat → Nat → Int32) → (Nat → Nat → Int64) → Option Nat → Prop) : Prop := ((x5 < I 267 ((1 : Int32)).toNatClampNeg → ((((x3) >>> ((x5) &&& 31)) &&& ((1 : Int32)) = 0 → wp_X12_cost (x2) (x5) I J T (fun v19 I19 J19 T19 => ix_inb ((((4096 : Int32)) * ((x2) + ((1 : Int32)))) + ((x3) ||| (((1 : Int32)) <<< ((x5) &&& 31)))) 53248 = true ∧ wp_J9_min_7cf53 (x4) ((v19) + (I19 271 ((((4096 : Int32)) * ((x2) + ((1 : Int32)))) + ((x3) ||| (((1 : Int32)) <<< ((x5) &&& 31)))).toNatClampNeg)) I19 J19 T19 (fun v22 I22 J22 T22 => V105 (x1) (x2) (x3) (v22) (x5 + (1 : Int32)) I22 J22 T22))) ∧ (¬ (((x3) >>> ((x5) &&& 31)) &&& ((1 : Int32)) = 0) → V105 (x1) (x2) (x3) (x4) (x5 + (1 : Int32)) I J T))) ∧ (¬ (x5 < I 267 ((1 : Int32)).toNatClampNeg) → ix_inb ((((4096 : Int32)) * (x2)) + (x3)) 53248 = true ∧ V22 (x1) (x2) (x3 + (1 : Int32)) (ix_u2 I 271 ((((4096 : Int32)) * (x2)) + (x3)).toNatClampNeg (x4)) J T))
def wl_X12_pairing_105_16_22 (x1 : Int32) (x2 : Int32) (x3 : Int32) (x4 : Int32) (x5 : Int32) (I : Nat → Nat → Int32) (J : Nat → Nat → Int64) (T : Option Nat) (V16 : Int32 → Int32 → (Nat → Nat → Int32) → (Nat → Nat → Int64) → Option Nat → Prop) (V22 : Int32 → Int32 → Int32 → (Nat → Nat → Int32) → (Nat → Nat → Int64) → Option Nat → Prop) (P : Int32 → (Nat → Nat → Int32) → (Nat → Nat → Int64) → Option Nat → Prop) : Prop := ∀ V : Int32 → Int32 → Int32 → Int32 → Int32 → (Nat → Nat → Int32) → (Nat → Nat → Int64) → Option Nat → Prop, (∀ (x1 : Int32) (x2 : Int32) (x3 : Int32) (x4 : Int32) (x5 : Int32) (I : Nat → Nat → Int32) (J : Nat → Nat → Int64) (T : Option Nat), wb_X12_pairing_105_16_22 x1 x2 x3 x4 x5 I J T V V16 V22 P → V x1 x2 x3 x4 x5 I J T) → V x1 x2 x3 x4 x5 I J T
set_option maxRecDepth 20000 in
theorem tl_X12_pairing_105_16_22 {d : Nat} {x1 : Int32} {x2 : Int32} {x3 : Int32} {x4 : Int32} {x5 : Int32} {I : Nat → Nat → Int32} {J : Nat → Nat → Int64} {T : Option Nat} {V16 : Int32 → Int32 → (Nat → Nat → Int32) → (Nat → Nat → Int64) → Option Nat → Prop} {V22 : Int32 → Int32 → Int32 → (Nat → Nat → Int32) → (Nat → Nat → Int64) → Option Nat → Prop} {P : Int32 → (Nat → Nat → Int32) → (Nat → Nat → Int64) → Option Nat → Prop} {Q : ix_Q} (h : wl_X12_pairing_105_16_22 x1 x2 x3 x4 x5 I J T V16 V22 P) (hV16 : ∀ (x1 : Int32) (x2 : Int32) I J T, V16 x1 x2 I J T → ix_W (ix_C (d + 2)) (12, ix_lk ix_l332, (some .int), 0, 0, Nat.blt 0 0, none) Q (16, [some (.inr (.inr (.inl (some (204))))), some (.inl (x1)), some (.inl (x2)), none, none, none], [], 0, 0, ix_mem 276 I J T)) (hV22 : ∀ (x1 : Int32) (x2 : Int32) (x3 : Int32) I J T, V22 x1 x2 x3 I J T → ix_W (ix_C (d + 2)) (12, ix_lk ix_l332, (some .int), 0, 0, Nat.blt 0 0, none) Q (22, [some (.inr (.inr (.inl (some (204))))), some (.inl (x1)), some (.inl (x2)), some (.inl (x3)), none, none], [], 0, 0, ix_mem 276 I J T)) (hQ : ∀ v I J T, P v I J T → Q (some (.inl v)) (ix_mem 276 I J T)) : ix_W (ix_C (d + 2)) (12, ix_lk ix_l332, (some .int), 0, 0, Nat.blt 0 0, none) Q (105, [some (.inr (.inr (.inl (some (204))))), some (.inl (x1)), some (.inl (x2)), some (.inl (x3)), some (.inl (x4)), some (.inl (x5))], [], 0, 0, ix_mem 276 I J T) := by
  refine h (fun x1 x2 x3 x4 x5 I J T => ix_W (ix_C (d + 2)) (12, ix_lk ix_l332, (some .int), 0, 0, Nat.blt 0 0, none) Q (105, [some (.inr (.inr (.inl (some (204))))), some (.inl (x1)), some (.inl (x2)), some (.inl (x3)), some (.inl (x4)), some (.inl (x5))], [], 0, 0, ix_mem 276 I J T)) ?_
  intro x1 x2 x3 x4 x5 I J T hb
  unfold wb_X12_pairing_105_16_22 at hb
  refine ix_go 6 (x' := (if x5 < I 267 ((1 : Int32)).toNatClampNeg then 116 else 165, [some (.inr (.inr (.inl (some (204))))), some (.inl (x1)), some (.inl (x2)), some (.inl (x3)), some (.inl (x4)), some (.inl (x5))], [], 0, 0, ix_mem 276 I J T)) rfl ⟨rfl, rfl, rfl, rfl, rfl⟩ ?_
  refine ix_br (fun c15 => ?_) (fun c15 => ?_)
  · have h16 := hb.1 c15
    refine ix_go 6 (x' := (if ((x3) >>> ((x5) &&& 31)) &&& ((1 : Int32)) = 0 then 125 else 159, [some (.inr (.inr (.inl (some (204))))), some (.inl (x1)), some (.inl (x2)), some (.inl (x3)), some (.inl (x4)), some (.inl (x5))], [], 0, 0, ix_mem 276 I J T)) rfl trivial ?_
    refine ix_br (fun c17 => ?_) (fun c17 => ?_)
    · have h18 := h16.1 c17
      refine ix_go 4 (x' := (131, [some (.inr (.inr (.inl (some (204))))), some (.inl (x1)), some (.inl (x2)), some (.inl (x3)), some (.inl (x4)), some (.inl (x5))], [.inl (x5), .inl (x2), .inr (.inr (.inl (some (204)))), .inl (x4)], 0, 0, ix_mem 276 I J T)) rfl trivial ?_
      refine ix_sp rfl ⟨rfl, ⟨ix_lt rfl, ix_eq rfl, ix_lt rfl⟩, ix_le rfl, Nat.le_refl _, Nat.le_refl _, tp_X12_cost h18 (fun v19 I19 J19 T19 h19 => ?_)⟩
      change ix_W _ _ _ (134, [some (.inr (.inr (.inl (some (204))))), some (.inl (x1)), some (.inl (x2)), some (.inl (x3)), some (.inl (x4)), some (.inl (x5))], [.inl (v19), .inl (x4)], 0, 0, ix_mem 276 I19 J19 T19)
      refine ix_go 7 (x' := (145, [some (.inr (.inr (.inl (some (204))))), some (.inl (x1)), some (.inl (x2)), some (.inl (x3)), some (.inl (x4)), some (.inl (x5))], [.inl (((4096 : Int32)) * ((x2) + ((1 : Int32)))), .inr (.inr (.inl (some (271)))), .inl (v19), .inl (x4)], 0, 0, ix_mem 276 I19 J19 T19)) rfl ⟨rfl, rfl⟩ ?_
      obtain ⟨p20, h21⟩ := h19
      refine ix_go 7 (x' := (153, [some (.inr (.inr (.inl (some (204))))), some (.inl (x1)), some (.inl (x2)), some (.inl (x3)), some (.inl (x4)), some (.inl (x5))], [.inl (I19 271 ((((4096 : Int32)) * ((x2) + ((1 : Int32)))) + ((x3) ||| (((1 : Int32)) <<< ((x5) &&& 31)))).toNatClampNeg), .inl (v19), .inl (x4)], 0, 0, ix_mem 276 I19 J19 T19)) rfl ⟨rfl, rfl, p20⟩ ?_
      refine ix_go 1 (x' := (154, [some (.inr (.inr (.inl (some (204))))), some (.inl (x1)), some (.inl (x2)), some (.inl (x3)), some (.inl (x4)), some (.inl (x5))], [.inl ((v19) + (I19 271 ((((4096 : Int32)) * ((x2) + ((1 : Int32)))) + ((x3) ||| (((1 : Int32)) <<< ((x5) &&& 31)))).toNatClampNeg)), .inl (x4)], 0, 0, ix_mem 276 I19 J19 T19)) rfl trivial ?_
      refine ix_sp rfl ⟨rfl, trivial, ix_le rfl, Nat.le_refl _, Nat.le_refl _, tp_J9_min_7cf53 h21 (fun v22 I22 J22 T22 h22 => ?_)⟩
      change ix_W _ _ _ (157, [some (.inr (.inr (.inl (some (204))))), some (.inl (x1)), some (.inl (x2)), some (.inl (x3)), some (.inl (x4)), some (.inl (x5))], [.inl (v22)], 0, 0, ix_mem 276 I22 J22 T22)
      refine ix_go 3 (x' := (105, [some (.inr (.inr (.inl (some (204))))), some (.inl (x1)), some (.inl (x2)), some (.inl (x3)), some (.inl (v22)), some (.inl (x5 + (1 : Int32)))], [], 0, 0, ix_mem 276 I22 J22 T22)) rfl trivial ?_
      refine ix_subW ([some (.inr (.inr (.inl (some (204))))), some (.inl (x1)), some (.inl (x2)), some (.inl (x3)), some (.inl (v22)), some (.inl (x5 + (1 : Int32)))]) (ix_subS (ix_subS (ix_subS (ix_subS (ix_subS (ix_subS (ix_sub0))))))) ?_
      exact h22
    · have h18 := h16.2 c17
      refine ix_go 2 (x' := (105, [some (.inr (.inr (.inl (some (204))))), some (.inl (x1)), some (.inl (x2)), some (.inl (x3)), some (.inl (x4)), some (.inl (x5 + (1 : Int32)))], [], 0, 0, ix_mem 276 I J T)) rfl trivial ?_
      refine ix_subW ([some (.inr (.inr (.inl (some (204))))), some (.inl (x1)), some (.inl (x2)), some (.inl (x3)), some (.inl (x4)), some (.inl (x5 + (1 : Int32)))]) (ix_subS (ix_subS (ix_subS (ix_subS (ix_subS (ix_subS (ix_sub0))))))) ?_
      exact h18
  · have h16 := hb.2 c15
    refine ix_go 7 (x' := (176, [some (.inr (.inr (.inl (some (204))))), some (.inl (x1)), some (.inl (x2)), some (.inl (x3)), some (.inl (x4)), some (.inl (x5))], [.inl ((((4096 : Int32)) * (x2)) + (x3)), .inr (.inr (.inl (some (271))))], 0, 0, ix_mem 276 I J T)) rfl ⟨rfl, rfl⟩ ?_
    obtain ⟨p23, h24⟩ := h16
    refine ix_go 4 (x' := (22, [some (.inr (.inr (.inl (some (204))))), some (.inl (x1)), some (.inl (x2)), some (.inl (x3 + (1 : Int32))), some (.inl (x4)), some (.inl (x5))], [], 0, 0, ix_mem 276 (ix_u2 I 271 ((((4096 : Int32)) * (x2)) + (x3)).toNatClampNeg (x4)) J T)) rfl ⟨rfl, rfl, p23⟩ ?_
    refine ix_subW ([some (.inr (.inr (.inl (some (204))))), some (.inl (x1)), some (.inl (x2)), some (.inl (x3 + (1 : Int32))), none, none]) (ix_subS (ix_subS (ix_subS (ix_subS (ix_subN (ix_subN (ix_sub0))))))) ?_
    exact hV22 _ _ _ _ _ _ h24
def wb_X12_pairing_22_16 (x1 : Int32) (x2 : Int32) (x3 : Int32) (I : Nat → Nat → Int32) (J : Nat → Nat → Int64) (T : Option Nat) (V22 : Int32 → Int32 → Int32 → (Nat → Nat → Int32) → (Nat → Nat → Int64) → Option Nat → Prop) (V16 : Int32 → Int32 → (Nat → Nat → Int32) → (Nat → Nat → Int64) → Option Nat → Prop) (P : Int32 → (Nat → Nat → Int32) → (Nat → Nat → Int64) → Option Nat → Prop) : Prop := ((x3 < x1 → ((x2 = I 267 ((0 : Int32)).toNatClampNeg → wl_X12_pairing_43_16_22 (x1) (x2) (x3) ((0 : Int32)) ((0 : Int32)) I J T V16 V22 P) ∧ (¬ (x2 = I 267 ((0 : Int32)).toNatClampNeg) → ix_inb ((((4096 : Int32)) * ((x2) + ((1 : Int32)))) + (x3)) 53248 = true ∧ wl_X12_pairing_105_16_22 (x1) (x2) (x3) (((25 : Int32)) + (I 271 ((((4096 : Int32)) * ((x2) + ((1 : Int32)))) + (x3)).toNatClampNeg)) ((0 : Int32)) I J T V16 V22 P))) ∧ (¬ (x3 < x1) → V16 (x1) (x2 + (-1 : Int32)) I J T))
def wl_X12_pairing_22_16 (x1 : Int32) (x2 : Int32) (x3 : Int32) (I : Nat → Nat → Int32) (J : Nat → Nat → Int64) (T : Option Nat) (V16 : Int32 → Int32 → (Nat → Nat → Int32) → (Nat → Nat → Int64) → Option Nat → Prop) (P : Int32 → (Nat → Nat → Int32) → (Nat → Nat → Int64) → Option Nat → Prop) : Prop := ∀ V : Int32 → Int32 → Int32 → (Nat → Nat → Int32) → (Nat → Nat → Int64) → Option Nat → Prop, (∀ (x1 : Int32) (x2 : Int32) (x3 : Int32) (I : Nat → Nat → Int32) (J : Nat → Nat → Int64) (T : Option Nat), wb_X12_pairing_22_16 x1 x2 x3 I J T V V16 P → V x1 x2 x3 I J T) → V x1 x2 x3 I J T
set_option maxRecDepth 20000 in
theorem tl_X12_pairing_22_16 {d : Nat} {x1 : Int32} {x2 : Int32} {x3 : Int32} {I : Nat → Nat → Int32} {J : Nat → Nat → Int64} {T : Option Nat} {V16 : Int32 → Int32 → (Nat → Nat → Int32) → (Nat → Nat → Int64) → Option Nat → Prop} {P : Int32 → (Nat → Nat → Int32) → (Nat → Nat → Int64) → Option Nat → Prop} {Q : ix_Q} (h : wl_X12_pairing_22_16 x1 x2 x3 I J T V16 P) (hV16 : ∀ (x1 : Int32) (x2 : Int32) I J T, V16 x1 x2 I J T → ix_W (ix_C (d + 2)) (12, ix_lk ix_l332, (some .int), 0, 0, Nat.blt 0 0, none) Q (16, [some (.inr (.inr (.inl (some (204))))), some (.inl (x1)), some (.inl (x2)), none, none, none], [], 0, 0, ix_mem 276 I J T)) (hQ : ∀ v I J T, P v I J T → Q (some (.inl v)) (ix_mem 276 I J T)) : ix_W (ix_C (d + 2)) (12, ix_lk ix_l332, (some .int), 0, 0, Nat.blt 0 0, none) Q (22, [some (.inr (.inr (.inl (some (204))))), some (.inl (x1)), some (.inl (x2)), some (.inl (x3)), none, none], [], 0, 0, ix_mem 276 I J T) := by
  refine h (fun x1 x2 x3 I J T => ix_W (ix_C (d + 2)) (12, ix_lk ix_l332, (some .int), 0, 0, Nat.blt 0 0, none) Q (22, [some (.inr (.inr (.inl (some (204))))), some (.inl (x1)), some (.inl (x2)), some (.inl (x3)), none, none], [], 0, 0, ix_mem 276 I J T)) ?_
  intro x1 x2 x3 I J T hb
  unfold wb_X12_pairing_22_16 at hb
  refine ix_go 3 (x' := (if x3 < x1 then 27 else 185, [some (.inr (.inr (.inl (some (204))))), some (.inl (x1)), some (.inl (x2)), some (.inl (x3)), none, none], [], 0, 0, ix_mem 276 I J T)) rfl trivial ?_
  refine ix_br (fun c3 => ?_) (fun c3 => ?_)
  · have h4 := hb.1 c3
    refine ix_go 7 (x' := (37, [some (.inr (.inr (.inl (some (204))))), some (.inl (x1)), some (.inl (x2)), some (.inl (x3)), some (.inl ((0 : Int32))), none], [.inl (I 267 ((0 : Int32)).toNatClampNeg), .inl (x2)], 0, 0, ix_mem 276 I J T)) rfl ⟨rfl, rfl, rfl, rfl, rfl⟩ ?_
    refine ix_go 1 (x' := (if x2 = I 267 ((0 : Int32)).toNatClampNeg then 40 else 83, [some (.inr (.inr (.inl (some (204))))), some (.inl (x1)), some (.inl (x2)), some (.inl (x3)), some (.inl ((0 : Int32))), none], [], 0, 0, ix_mem 276 I J T)) rfl trivial ?_
    refine ix_br (fun c5 => ?_) (fun c5 => ?_)
    · have h6 := h4.1 c5
      refine ix_go 2 (x' := (43, [some (.inr (.inr (.inl (some (204))))), some (.inl (x1)), some (.inl (x2)), some (.inl (x3)), some (.inl ((0 : Int32))), some (.inl ((0 : Int32)))], [], 0, 0, ix_mem 276 I J T)) rfl trivial ?_
      refine ix_subW ([some (.inr (.inr (.inl (some (204))))), some (.inl (x1)), some (.inl (x2)), some (.inl (x3)), some (.inl ((0 : Int32))), some (.inl ((0 : Int32)))]) (ix_subS (ix_subS (ix_subS (ix_subS (ix_subS (ix_subS (ix_sub0))))))) ?_
      exact tl_X12_pairing_43_16_22 h6 hV16 (fun _ _ _ I J T hv => hv) hQ
    · have h6 := h4.2 c5
      refine ix_go 7 (x' := (95, [some (.inr (.inr (.inl (some (204))))), some (.inl (x1)), some (.inl (x2)), some (.inl (x3)), some (.inl ((0 : Int32))), none], [.inl ((x2) + ((1 : Int32))), .inl ((4096 : Int32)), .inr (.inr (.inl (some (271)))), .inl ((25 : Int32))], 0, 0, ix_mem 276 I J T)) rfl ⟨rfl, rfl⟩ ?_
      obtain ⟨p13, h14⟩ := h6
      refine ix_go 7 (x' := (103, [some (.inr (.inr (.inl (some (204))))), some (.inl (x1)), some (.inl (x2)), some (.inl (x3)), some (.inl (((25 : Int32)) + (I 271 ((((4096 : Int32)) * ((x2) + ((1 : Int32)))) + (x3)).toNatClampNeg))), none], [.inl ((0 : Int32))], 0, 0, ix_mem 276 I J T)) rfl ⟨rfl, rfl, p13⟩ ?_
      refine ix_go 1 (x' := (105, [some (.inr (.inr (.inl (some (204))))), some (.inl (x1)), some (.inl (x2)), some (.inl (x3)), some (.inl (((25 : Int32)) + (I 271 ((((4096 : Int32)) * ((x2) + ((1 : Int32)))) + (x3)).toNatClampNeg))), some (.inl ((0 : Int32)))], [], 0, 0, ix_mem 276 I J T)) rfl trivial ?_
      refine ix_subW ([some (.inr (.inr (.inl (some (204))))), some (.inl (x1)), some (.inl (x2)), some (.inl (x3)), some (.inl (((25 : Int32)) + (I 271 ((((4096 : Int32)) * ((x2) + ((1 : Int32)))) + (x3)).toNatClampNeg))), some (.inl ((0 : Int32)))]) (ix_subS (ix_subS (ix_subS (ix_subS (ix_subS (ix_subS (ix_sub0))))))) ?_
      exact tl_X12_pairing_105_16_22 h14 hV16 (fun _ _ _ I J T hv => hv) hQ
  · have h4 := hb.2 c3
    refine ix_go 2 (x' := (16, [some (.inr (.inr (.inl (some (204))))), some (.inl (x1)), some (.inl (x2 + (-1 : Int32))), some (.inl (x3)), none, none], [], 0, 0, ix_mem 276 I J T)) rfl trivial ?_
    refine ix_subW ([some (.inr (.inr (.inl (some (204))))), some (.inl (x1)), some (.inl (x2 + (-1 : Int32))), none, none, none]) (ix_subS (ix_subS (ix_subS (ix_subN (ix_subS (ix_subS (ix_sub0))))))) ?_
    exact hV16 _ _ _ _ _ h4
def wb_X12_pairing_16 (x1 : Int32) (x2 : Int32) (I : Nat → Nat → Int32) (J : Nat → Nat → Int64) (T : Option Nat) (V16 : Int32 → Int32 → (Nat → Nat → Int32) → (Nat → Nat → Int64) → Option Nat → Prop) (P : Int32 → (Nat → Nat → Int32) → (Nat → Nat → Int64) → Option Nat → Prop) : Prop := ((x2 < 0 → P (I 271 ((0 : Int32)).toNatClampNeg) I J T) ∧ (¬ (x2 < 0) → wl_X12_pairing_22_16 (x1) (x2) ((0 : Int32)) I J T V16 P))
def wl_X12_pairing_16 (x1 : Int32) (x2 : Int32) (I : Nat → Nat → Int32) (J : Nat → Nat → Int64) (T : Option Nat) (P : Int32 → (Nat → Nat → Int32) → (Nat → Nat → Int64) → Option Nat → Prop) : Prop := ∀ V : Int32 → Int32 → (Nat → Nat → Int32) → (Nat → Nat → Int64) → Option Nat → Prop, (∀ (x1 : Int32) (x2 : Int32) (I : Nat → Nat → Int32) (J : Nat → Nat → Int64) (T : Option Nat), wb_X12_pairing_16 x1 x2 I J T V P → V x1 x2 I J T) → V x1 x2 I J T
set_option maxRecDepth 20000 in
theorem tl_X12_pairing_16 {d : Nat} {x1 : Int32} {x2 : Int32} {I : Nat → Nat → Int32} {J : Nat → Nat → Int64} {T : Option Nat} {P : Int32 → (Nat → Nat → Int32) → (Nat → Nat → Int64) → Option Nat → Prop} {Q : ix_Q} (h : wl_X12_pairing_16 x1 x2 I J T P) (hQ : ∀ v I J T, P v I J T → Q (some (.inl v)) (ix_mem 276 I J T)) : ix_W (ix_C (d + 2)) (12, ix_lk ix_l332, (some .int), 0, 0, Nat.blt 0 0, none) Q (16, [some (.inr (.inr (.inl (some (204))))), some (.inl (x1)), some (.inl (x2)), none, none, none], [], 0, 0, ix_mem 276 I J T) := by
  refine h (fun x1 x2 I J T => ix_W (ix_C (d + 2)) (12, ix_lk ix_l332, (some .int), 0, 0, Nat.blt 0 0, none) Q (16, [some (.inr (.inr (.inl (some (204))))), some (.inl (x1)), some (.inl (x2)), none, none, none], [], 0, 0, ix_mem 276 I J T)) ?_
  intro x1 x2 I J T hb
  unfold wb_X12_pairing_16 at hb
  refine ix_go 2 (x' := (if x2 < 0 then 191 else 20, [some (.inr (.inr (.inl (some (204))))), some (.inl (x1)), some (.inl (x2)), none, none, none], [], 0, 0, ix_mem 276 I J T)) rfl trivial ?_
  refine ix_br (fun c1 => ?_) (fun c1 => ?_)
  · have h2 := hb.1 c1
    refine ix_go 4 (x' := (197, [some (.inr (.inr (.inl (some (204))))), some (.inl (x1)), some (.inl (x2)), none, none, none], [.inl (I 271 ((0 : Int32)).toNatClampNeg)], 0, 0, ix_mem 276 I J T)) rfl ⟨rfl, rfl, rfl, rfl, rfl⟩ ?_
    exact ix_sp rfl ⟨Nat.le_refl _, Nat.le_refl _, trivial, hQ _ _ _ _ h2⟩
  · have h2 := hb.2 c1
    refine ix_go 2 (x' := (22, [some (.inr (.inr (.inl (some (204))))), some (.inl (x1)), some (.inl (x2)), some (.inl ((0 : Int32))), none, none], [], 0, 0, ix_mem 276 I J T)) rfl trivial ?_
    refine ix_subW ([some (.inr (.inr (.inl (some (204))))), some (.inl (x1)), some (.inl (x2)), some (.inl ((0 : Int32))), none, none]) (ix_subS (ix_subS (ix_subS (ix_subS (ix_subS (ix_subS (ix_sub0))))))) ?_
    exact tl_X12_pairing_22_16 h2 (fun _ _ I J T hv => hv) hQ
def wp_X12_pairing (I : Nat → Nat → Int32) (J : Nat → Nat → Int64) (T : Option Nat) (P : Int32 → (Nat → Nat → Int32) → (Nat → Nat → Int64) → Option Nat → Prop) : Prop := wl_X12_pairing_16 (((1 : Int32)) <<< ((I 267 ((1 : Int32)).toNatClampNeg) &&& 31)) (I 267 ((0 : Int32)).toNatClampNeg) I J T P
set_option maxRecDepth 20000 in
theorem tp_X12_pairing {d : Nat} {I : Nat → Nat → Int32} {J : Nat → Nat → Int64} {T : Option Nat} {P : Int32 → (Nat → Nat → Int32) → (Nat → Nat → Int64) → Option Nat → Prop} {Q : ix_Q} (h : wp_X12_pairing I J T P) (hQ : ∀ v I J T, P v I J T → Q (some (.inl v)) (ix_mem 276 I J T)) : ix_C (d + 3) 332 [.inr (.inr (.inl (some (204))))] (ix_mem 276 I J T) Q := by
  unfold wp_X12_pairing at h
  refine ix_enter (ls := [some (.inr (.inr (.inl (some (204))))), none, none, none, none, none]) rfl rfl rfl (Nat.le_of_ble_eq_true rfl) ?_
  refine ix_go 7 (x' := (9, [some (.inr (.inr (.inl (some (204))))), some (.inl (((1 : Int32)) <<< ((I 267 ((1 : Int32)).toNatClampNeg) &&& 31))), none, none, none, none], [], 0, 0, ix_mem 276 I J T)) rfl ⟨rfl, rfl, rfl, rfl, rfl⟩ ?_
  refine ix_go 5 (x' := (16, [some (.inr (.inr (.inl (some (204))))), some (.inl (((1 : Int32)) <<< ((I 267 ((1 : Int32)).toNatClampNeg) &&& 31))), some (.inl (I 267 ((0 : Int32)).toNatClampNeg)), none, none, none], [], 0, 0, ix_mem 276 I J T)) rfl ⟨rfl, rfl, rfl, rfl, rfl⟩ ?_
  refine ix_subW ([some (.inr (.inr (.inl (some (204))))), some (.inl (((1 : Int32)) <<< ((I 267 ((1 : Int32)).toNatClampNeg) &&& 31))), some (.inl (I 267 ((0 : Int32)).toNatClampNeg)), none, none, none]) (ix_subS (ix_subS (ix_subS (ix_subS (ix_subS (ix_subS (ix_sub0))))))) ?_
  exact tl_X12_pairing_16 h hQ
def wb_X12_pairs_31_12 (x2 : Int32) (x3 : Int32) (I : Nat → Nat → Int32) (J : Nat → Nat → Int64) (T : Option Nat) (V31 : Int32 → Int32 → (Nat → Nat → Int32) → (Nat → Nat → Int64) → Option Nat → Prop) (V12 : Int32 → (Nat → Nat → Int32) → (Nat → Nat → Int64) → Option Nat → Prop) (P : (Nat → Nat → Int32) → (Nat → Nat → Int64) → Option Nat → Prop) : Prop := ((x3 < I 267 ((1 : Int32)).toNatClampNeg → ix_inb (x2) 12 = true ∧ ((I 272 (x2).toNatClampNeg = (-1 : Int32) → ((((I 204 103) >>> ((x3) &&& 31)) &&& ((1 : Int32)) = 0 → wp_X12_cost (x2) (x3) I J T (fun v14 I14 J14 T14 => ix_inb ((((4096 : Int32)) * ((x2) + ((1 : Int32)))) + ((I14 204 103) ||| (((1 : Int32)) <<< ((x3) &&& 31)))) 53248 = true ∧ ix_inb ((((4096 : Int32)) * (x2)) + (I14 204 103)) 53248 = true ∧ (((v14) + (I14 271 ((((4096 : Int32)) * ((x2) + ((1 : Int32)))) + ((I14 204 103) ||| (((1 : Int32)) <<< ((x3) &&& 31)))).toNatClampNeg) = I14 271 ((((4096 : Int32)) * (x2)) + (I14 204 103)).toNatClampNeg → ix_inb (x2) 12 = true ∧ V31 (x2) (x3 + (1 : Int32)) (ix_u2 I14 272 (x2).toNatClampNeg (x3)) J14 T14) ∧ (¬ ((v14) + (I14 271 ((((4096 : Int32)) * ((x2) + ((1 : Int32)))) + ((I14 204 103) ||| (((1 : Int32)) <<< ((x3) &&& 31)))).toNatClampNeg) = I14 271 ((((4096 : Int32)) * (x2)) + (I14 204 103)).toNatClampNeg) → V31 (x2) (x3 + (1 : Int32)) I14 J14 T14)))) ∧ (¬ (((I 204 103) >>> ((x3) &&& 31)) &&& ((1 : Int32)) = 0) → V31 (x2) (x3 + (1 : Int32)) I J T))) ∧ (¬ (I 272 (x2).toNatClampNeg = (-1 : Int32)) → ix_inb (x2) 12 = true ∧ ((I 272 (x2).toNatClampNeg = (-1 : Int32) → V12 (x2 + (1 : Int32)) I J T) ∧ (¬ (I 272 (x2).toNatClampNeg = (-1 : Int32)) → ix_inb (x2) 12 = true ∧ V12 (x2 + (1 : Int32)) (ix_u2 I 204 103 ((I 204 103) ||| (((1 : Int32)) <<< ((I 272 (x2).toNatClampNeg) &&& 31)))) J T))))) ∧ (¬ (x3 < I 267 ((1 : Int32)).toNatClampNeg) → ix_inb (x2) 12 = true ∧ ((I 272 (x2).toNatClampNeg = (-1 : Int32) → V12 (x2 + (1 : Int32)) I J T) ∧ (¬ (I 272 (x2).toNatClampNeg = (-1 : Int32)) → ix_inb (x2) 12 = true ∧ V12 (x2 + (1 : Int32)) (ix_u2 I 204 103 ((I 204 103) ||| (((1 : Int32)) <<< ((I 272 (x2).toNatClampNeg) &&& 31)))) J T))))
def wl_X12_pairs_31_12 (x2 : Int32) (x3 : Int32) (I : Nat → Nat → Int32) (J : Nat → Nat → Int64) (T : Option Nat) (V12 : Int32 → (Nat → Nat → Int32) → (Nat → Nat → Int64) → Option Nat → Prop) (P : (Nat → Nat → Int32) → (Nat → Nat → Int64) → Option Nat → Prop) : Prop := ∀ V : Int32 → Int32 → (Nat → Nat → Int32) → (Nat → Nat → Int64) → Option Nat → Prop, (∀ (x2 : Int32) (x3 : Int32) (I : Nat → Nat → Int32) (J : Nat → Nat → Int64) (T : Option Nat), wb_X12_pairs_31_12 x2 x3 I J T V V12 P → V x2 x3 I J T) → V x2 x3 I J T
set_option maxRecDepth 20000 in
theorem tl_X12_pairs_31_12 {d : Nat} {x2 : Int32} {x3 : Int32} {I : Nat → Nat → Int32} {J : Nat → Nat → Int64} {T : Option Nat} {V12 : Int32 → (Nat → Nat → Int32) → (Nat → Nat → Int64) → Option Nat → Prop} {P : (Nat → Nat → Int32) → (Nat → Nat → Int64) → Option Nat → Prop} {Q : ix_Q} (h : wl_X12_pairs_31_12 x2 x3 I J T V12 P) (hV12 : ∀ (x2 : Int32) I J T, V12 x2 I J T → ix_W (ix_C (d + 2)) (12, ix_lk ix_l333, none, 0, 0, Nat.blt 0 0, none) Q (12, [some (.inr (.inr (.inl (some (204))))), none, some (.inl (x2)), none], [], 0, 0, ix_mem 276 I J T)) (hQ : ∀ I J T, P I J T → Q none (ix_mem 276 I J T)) : ix_W (ix_C (d + 2)) (12, ix_lk ix_l333, none, 0, 0, Nat.blt 0 0, none) Q (31, [some (.inr (.inr (.inl (some (204))))), none, some (.inl (x2)), some (.inl (x3))], [], 0, 0, ix_mem 276 I J T) := by
  refine h (fun x2 x3 I J T => ix_W (ix_C (d + 2)) (12, ix_lk ix_l333, none, 0, 0, Nat.blt 0 0, none) Q (31, [some (.inr (.inr (.inl (some (204))))), none, some (.inl (x2)), some (.inl (x3))], [], 0, 0, ix_mem 276 I J T)) ?_
  intro x2 x3 I J T hb
  unfold wb_X12_pairs_31_12 at hb
  refine ix_go 6 (x' := (if x3 < I 267 ((1 : Int32)).toNatClampNeg then 41 else 121, [some (.inr (.inr (.inl (some (204))))), none, some (.inl (x2)), some (.inl (x3))], [], 0, 0, ix_mem 276 I J T)) rfl ⟨rfl, rfl, rfl, rfl, rfl⟩ ?_
  refine ix_br (fun c6 => ?_) (fun c6 => ?_)
  · have h7 := hb.1 c6
    obtain ⟨p8, h9⟩ := h7
    refine ix_go 6 (x' := (if I 272 (x2).toNatClampNeg = (-1 : Int32) then 51 else 121, [some (.inr (.inr (.inl (some (204))))), none, some (.inl (x2)), some (.inl (x3))], [], 0, 0, ix_mem 276 I J T)) rfl ⟨rfl, rfl, rfl, rfl, p8⟩ ?_
    refine ix_br (fun c10 => ?_) (fun c10 => ?_)
    · have h11 := h9.1 c10
      refine ix_go 7 (x' := (if ((I 204 103) >>> ((x3) &&& 31)) &&& ((1 : Int32)) = 0 then 62 else 115, [some (.inr (.inr (.inl (some (204))))), none, some (.inl (x2)), some (.inl (x3))], [], 0, 0, ix_mem 276 I J T)) rfl ⟨rfl, rfl⟩ ?_
      refine ix_br (fun c12 => ?_) (fun c12 => ?_)
      · have h13 := h11.1 c12
        refine ix_go 3 (x' := (65, [some (.inr (.inr (.inl (some (204))))), none, some (.inl (x2)), some (.inl (x3))], [.inl (x3), .inl (x2), .inr (.inr (.inl (some (204))))], 0, 0, ix_mem 276 I J T)) rfl trivial ?_
        refine ix_sp rfl ⟨rfl, ⟨ix_lt rfl, ix_eq rfl, ix_lt rfl⟩, ix_le rfl, Nat.le_refl _, Nat.le_refl _, tp_X12_cost h13 (fun v14 I14 J14 T14 h14 => ?_)⟩
        change ix_W _ _ _ (68, [some (.inr (.inr (.inl (some (204))))), none, some (.inl (x2)), some (.inl (x3))], [.inl (v14)], 0, 0, ix_mem 276 I14 J14 T14)
        refine ix_go 7 (x' := (79, [some (.inr (.inr (.inl (some (204))))), none, some (.inl (x2)), some (.inl (x3))], [.inl (((4096 : Int32)) * ((x2) + ((1 : Int32)))), .inr (.inr (.inl (some (271)))), .inl (v14)], 0, 0, ix_mem 276 I14 J14 T14)) rfl ⟨rfl, rfl⟩ ?_
        refine ix_go 7 (x' := (88, [some (.inr (.inr (.inl (some (204))))), none, some (.inl (x2)), some (.inl (x3))], [.inl ((((4096 : Int32)) * ((x2) + ((1 : Int32)))) + ((I14 204 103) ||| (((1 : Int32)) <<< ((x3) &&& 31)))), .inr (.inr (.inl (some (271)))), .inl (v14)], 0, 0, ix_mem 276 I14 J14 T14)) rfl ⟨rfl, rfl⟩ ?_
        obtain ⟨p15, h16⟩ := h14
        refine ix_go 7 (x' := (99, [some (.inr (.inr (.inl (some (204))))), none, some (.inl (x2)), some (.inl (x3))], [.inl (((4096 : Int32)) * (x2)), .inr (.inr (.inl (some (271)))), .inl ((v14) + (I14 271 ((((4096 : Int32)) * ((x2) + ((1 : Int32)))) + ((I14 204 103) ||| (((1 : Int32)) <<< ((x3) &&& 31)))).toNatClampNeg))], 0, 0, ix_mem 276 I14 J14 T14)) rfl ⟨rfl, rfl, p15, rfl, rfl⟩ ?_
        obtain ⟨p17, h18⟩ := h16
        refine ix_go 5 (x' := (if (v14) + (I14 271 ((((4096 : Int32)) * ((x2) + ((1 : Int32)))) + ((I14 204 103) ||| (((1 : Int32)) <<< ((x3) &&& 31)))).toNatClampNeg) = I14 271 ((((4096 : Int32)) * (x2)) + (I14 204 103)).toNatClampNeg then 108 else 115, [some (.inr (.inr (.inl (some (204))))), none, some (.inl (x2)), some (.inl (x3))], [], 0, 0, ix_mem 276 I14 J14 T14)) rfl ⟨rfl, rfl, rfl, rfl, p17⟩ ?_
        refine ix_br (fun c19 => ?_) (fun c19 => ?_)
        · have h20 := h18.1 c19
          obtain ⟨p21, h22⟩ := h20
          refine ix_go 7 (x' := (31, [some (.inr (.inr (.inl (some (204))))), none, some (.inl (x2)), some (.inl (x3 + (1 : Int32)))], [], 0, 0, ix_mem 276 (ix_u2 I14 272 (x2).toNatClampNeg (x3)) J14 T14)) rfl ⟨rfl, rfl, rfl, rfl, p21⟩ ?_
          refine ix_subW ([some (.inr (.inr (.inl (some (204))))), none, some (.inl (x2)), some (.inl (x3 + (1 : Int32)))]) (ix_subS (ix_subS (ix_subS (ix_subS (ix_sub0))))) ?_
          exact h22
        · have h20 := h18.2 c19
          refine ix_go 2 (x' := (31, [some (.inr (.inr (.inl (some (204))))), none, some (.inl (x2)), some (.inl (x3 + (1 : Int32)))], [], 0, 0, ix_mem 276 I14 J14 T14)) rfl trivial ?_
          refine ix_subW ([some (.inr (.inr (.inl (some (204))))), none, some (.inl (x2)), some (.inl (x3 + (1 : Int32)))]) (ix_subS (ix_subS (ix_subS (ix_subS (ix_sub0))))) ?_
          exact h20
      · have h13 := h11.2 c12
        refine ix_go 2 (x' := (31, [some (.inr (.inr (.inl (some (204))))), none, some (.inl (x2)), some (.inl (x3 + (1 : Int32)))], [], 0, 0, ix_mem 276 I J T)) rfl trivial ?_
        refine ix_subW ([some (.inr (.inr (.inl (some (204))))), none, some (.inl (x2)), some (.inl (x3 + (1 : Int32)))]) (ix_subS (ix_subS (ix_subS (ix_subS (ix_sub0))))) ?_
        exact h13
    · have h11 := h9.2 c10
      obtain ⟨p23, h24⟩ := h11
      refine ix_go 6 (x' := (if I 272 (x2).toNatClampNeg = (-1 : Int32) then 148 else 131, [some (.inr (.inr (.inl (some (204))))), none, some (.inl (x2)), some (.inl (x3))], [], 0, 0, ix_mem 276 I J T)) rfl ⟨rfl, rfl, rfl, rfl, p23⟩ ?_
      refine ix_br (fun c25 => ?_) (fun c25 => ?_)
      · have h26 := h24.1 c25
        refine ix_go 2 (x' := (12, [some (.inr (.inr (.inl (some (204))))), none, some (.inl (x2 + (1 : Int32))), some (.inl (x3))], [], 0, 0, ix_mem 276 I J T)) rfl trivial ?_
        refine ix_subW ([some (.inr (.inr (.inl (some (204))))), none, some (.inl (x2 + (1 : Int32))), none]) (ix_subS (ix_subS (ix_subS (ix_subN (ix_sub0))))) ?_
        exact hV12 _ _ _ _ h26
      · have h26 := h24.2 c25
        refine ix_go 7 (x' := (142, [some (.inr (.inr (.inl (some (204))))), none, some (.inl (x2)), some (.inl (x3))], [.inl (x2), .inr (.inr (.inl (some (272)))), .inl ((1 : Int32)), .inl (I 204 103), .inr (.inr (.inl (some (204))))], 0, 0, ix_mem 276 I J T)) rfl ⟨rfl, rfl, rfl, rfl⟩ ?_
        obtain ⟨p27, h28⟩ := h26
        refine ix_go 6 (x' := (12, [some (.inr (.inr (.inl (some (204))))), none, some (.inl (x2 + (1 : Int32))), some (.inl (x3))], [], 0, 0, ix_mem 276 (ix_u2 I 204 103 ((I 204 103) ||| (((1 : Int32)) <<< ((I 272 (x2).toNatClampNeg) &&& 31)))) J T)) rfl ⟨rfl, rfl, p27, rfl, rfl⟩ ?_
        refine ix_subW ([some (.inr (.inr (.inl (some (204))))), none, some (.inl (x2 + (1 : Int32))), none]) (ix_subS (ix_subS (ix_subS (ix_subN (ix_sub0))))) ?_
        exact hV12 _ _ _ _ h28
  · have h7 := hb.2 c6
    obtain ⟨p29, h30⟩ := h7
    refine ix_go 6 (x' := (if I 272 (x2).toNatClampNeg = (-1 : Int32) then 148 else 131, [some (.inr (.inr (.inl (some (204))))), none, some (.inl (x2)), some (.inl (x3))], [], 0, 0, ix_mem 276 I J T)) rfl ⟨rfl, rfl, rfl, rfl, p29⟩ ?_
    refine ix_br (fun c31 => ?_) (fun c31 => ?_)
    · have h32 := h30.1 c31
      refine ix_go 2 (x' := (12, [some (.inr (.inr (.inl (some (204))))), none, some (.inl (x2 + (1 : Int32))), some (.inl (x3))], [], 0, 0, ix_mem 276 I J T)) rfl trivial ?_
      refine ix_subW ([some (.inr (.inr (.inl (some (204))))), none, some (.inl (x2 + (1 : Int32))), none]) (ix_subS (ix_subS (ix_subS (ix_subN (ix_sub0))))) ?_
      exact hV12 _ _ _ _ h32
    · have h32 := h30.2 c31
      refine ix_go 7 (x' := (142, [some (.inr (.inr (.inl (some (204))))), none, some (.inl (x2)), some (.inl (x3))], [.inl (x2), .inr (.inr (.inl (some (272)))), .inl ((1 : Int32)), .inl (I 204 103), .inr (.inr (.inl (some (204))))], 0, 0, ix_mem 276 I J T)) rfl ⟨rfl, rfl, rfl, rfl⟩ ?_
      obtain ⟨p33, h34⟩ := h32
      refine ix_go 6 (x' := (12, [some (.inr (.inr (.inl (some (204))))), none, some (.inl (x2 + (1 : Int32))), some (.inl (x3))], [], 0, 0, ix_mem 276 (ix_u2 I 204 103 ((I 204 103) ||| (((1 : Int32)) <<< ((I 272 (x2).toNatClampNeg) &&& 31)))) J T)) rfl ⟨rfl, rfl, p33, rfl, rfl⟩ ?_
      refine ix_subW ([some (.inr (.inr (.inl (some (204))))), none, some (.inl (x2 + (1 : Int32))), none]) (ix_subS (ix_subS (ix_subS (ix_subN (ix_sub0))))) ?_
      exact hV12 _ _ _ _ h34
def wb_X12_pairs_12 (x2 : Int32) (I : Nat → Nat → Int32) (J : Nat → Nat → Int64) (T : Option Nat) (V12 : Int32 → (Nat → Nat → Int32) → (Nat → Nat → Int64) → Option Nat → Prop) (P : (Nat → Nat → Int32) → (Nat → Nat → Int64) → Option Nat → Prop) : Prop := ((x2 < I 267 ((0 : Int32)).toNatClampNeg → ix_inb (x2) 12 = true ∧ wl_X12_pairs_31_12 (x2) ((0 : Int32)) (ix_u2 I 272 (x2).toNatClampNeg ((-1 : Int32))) J T V12 P) ∧ (¬ (x2 < I 267 ((0 : Int32)).toNatClampNeg) → P I J T))
def wl_X12_pairs_12 (x2 : Int32) (I : Nat → Nat → Int32) (J : Nat → Nat → Int64) (T : Option Nat) (P : (Nat → Nat → Int32) → (Nat → Nat → Int64) → Option Nat → Prop) : Prop := ∀ V : Int32 → (Nat → Nat → Int32) → (Nat → Nat → Int64) → Option Nat → Prop, (∀ (x2 : Int32) (I : Nat → Nat → Int32) (J : Nat → Nat → Int64) (T : Option Nat), wb_X12_pairs_12 x2 I J T V P → V x2 I J T) → V x2 I J T
set_option maxRecDepth 20000 in
theorem tl_X12_pairs_12 {d : Nat} {x2 : Int32} {I : Nat → Nat → Int32} {J : Nat → Nat → Int64} {T : Option Nat} {P : (Nat → Nat → Int32) → (Nat → Nat → Int64) → Option Nat → Prop} {Q : ix_Q} (h : wl_X12_pairs_12 x2 I J T P) (hQ : ∀ I J T, P I J T → Q none (ix_mem 276 I J T)) : ix_W (ix_C (d + 2)) (12, ix_lk ix_l333, none, 0, 0, Nat.blt 0 0, none) Q (12, [some (.inr (.inr (.inl (some (204))))), none, some (.inl (x2)), none], [], 0, 0, ix_mem 276 I J T) := by
  refine h (fun x2 I J T => ix_W (ix_C (d + 2)) (12, ix_lk ix_l333, none, 0, 0, Nat.blt 0 0, none) Q (12, [some (.inr (.inr (.inl (some (204))))), none, some (.inl (x2)), none], [], 0, 0, ix_mem 276 I J T)) ?_
  intro x2 I J T hb
  unfold wb_X12_pairs_12 at hb
  refine ix_go 6 (x' := (if x2 < I 267 ((0 : Int32)).toNatClampNeg then 22 else 154, [some (.inr (.inr (.inl (some (204))))), none, some (.inl (x2)), none], [], 0, 0, ix_mem 276 I J T)) rfl ⟨rfl, rfl, rfl, rfl, rfl⟩ ?_
  refine ix_br (fun c2 => ?_) (fun c2 => ?_)
  · have h3 := hb.1 c2
    obtain ⟨p4, h5⟩ := h3
    refine ix_go 7 (x' := (31, [some (.inr (.inr (.inl (some (204))))), none, some (.inl (x2)), some (.inl ((0 : Int32)))], [], 0, 0, ix_mem 276 (ix_u2 I 272 (x2).toNatClampNeg ((-1 : Int32))) J T)) rfl ⟨rfl, rfl, rfl, rfl, p4⟩ ?_
    refine ix_subW ([some (.inr (.inr (.inl (some (204))))), none, some (.inl (x2)), some (.inl ((0 : Int32)))]) (ix_subS (ix_subS (ix_subS (ix_subS (ix_sub0))))) ?_
    exact tl_X12_pairs_31_12 h5 (fun _ I J T hv => hv) hQ
  · have h3 := hb.2 c2
    exact ix_sp rfl ⟨Nat.le_refl _, Nat.le_refl _, rfl, hQ _ _ _ h3⟩
def wp_X12_pairs (I : Nat → Nat → Int32) (J : Nat → Nat → Int64) (T : Option Nat) (P : (Nat → Nat → Int32) → (Nat → Nat → Int64) → Option Nat → Prop) : Prop := wp_X12_pairing I J T (fun v1 I1 J1 T1 => wl_X12_pairs_12 ((0 : Int32)) (ix_u2 I1 204 103 ((0 : Int32))) J1 T1 P)
set_option maxRecDepth 20000 in
theorem tp_X12_pairs {d : Nat} {I : Nat → Nat → Int32} {J : Nat → Nat → Int64} {T : Option Nat} {P : (Nat → Nat → Int32) → (Nat → Nat → Int64) → Option Nat → Prop} {Q : ix_Q} (h : wp_X12_pairs I J T P) (hQ : ∀ I J T, P I J T → Q none (ix_mem 276 I J T)) : ix_C (d + 4) 333 [.inr (.inr (.inl (some (204))))] (ix_mem 276 I J T) Q := by
  unfold wp_X12_pairs at h
  refine ix_enter (ls := [some (.inr (.inr (.inl (some (204))))), none, none, none]) rfl rfl rfl (Nat.le_of_ble_eq_true rfl) ?_
  refine ix_go 1 (x' := (1, [some (.inr (.inr (.inl (some (204))))), none, none, none], [.inr (.inr (.inl (some (204))))], 0, 0, ix_mem 276 I J T)) rfl trivial ?_
  refine ix_sp rfl ⟨rfl, ⟨ix_lt rfl, ix_eq rfl, ix_lt rfl⟩, ix_le rfl, Nat.le_refl _, Nat.le_refl _, tp_X12_pairing h (fun v1 I1 J1 T1 h1 => ?_)⟩
  change ix_W _ _ _ (4, [some (.inr (.inr (.inl (some (204))))), none, none, none], [.inl (v1)], 0, 0, ix_mem 276 I1 J1 T1)
  refine ix_go 6 (x' := (12, [some (.inr (.inr (.inl (some (204))))), some (.inl (v1)), some (.inl ((0 : Int32))), none], [], 0, 0, ix_mem 276 (ix_u2 I1 204 103 ((0 : Int32))) J1 T1)) rfl ⟨rfl, rfl⟩ ?_
  refine ix_subW ([some (.inr (.inr (.inl (some (204))))), none, some (.inl ((0 : Int32))), none]) (ix_subS (ix_subN (ix_subS (ix_subS (ix_sub0))))) ?_
  exact tl_X12_pairs_12 h1 hQ
