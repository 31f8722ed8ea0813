/-! treaties: the class reads a sum, for the treaty at 77 -/
theorem yf_bad77 {b : Nat → Int32} {n c' k : Nat} {kk : Int32} {I2 : Nat → Nat → Int32} {J : Nat → Nat → Int64} {T : Option Nat} {V : Int32 → (Nat → Nat → Int32) → (Nat → Nat → Int64) → Option Nat → Prop} {P : (Nat → Nat → Int32) → (Nat → Nat → Int64) → Option Nat → Prop} (hV : ∀ x2 I J T, wb_X7_takeFormula_22 x2 I J T V P → V x2 I J T) (hk : ykp kk) (h : I2 44 10 = yft b n c' kk) (hP : P I2 J T) : V (nI k) I2 J T := by
  have nz : ¬ I2 44 10 = 0 := by rw [h]; exact (yft_q hk).2.1
  apply hV
  unfold wb_X7_takeFormula_22
  exact ⟨fun _ => ⟨fun z => absurd z nz, fun _ => hP⟩, fun _ => hP⟩
set_option maxHeartbeats 4000000 in
theorem yf_sm77 {b : Nat → Int32} {n L : Nat} {pre cd0 : List Int32} (hL : L ≤ n) (hn : n ≤ 600) (hL1 : yk b n L = 21 ∨ yk b n L = 22) (hp5 : ylast pre 5) (hpre : pre.length ≤ 4) {I0 : Nat → Nat → Int32} {J : Nat → Nat → Int64} {V : Int32 → (Nat → Nat → Int32) → (Nat → Nat → Int64) → Option Nat → Prop} {P : (Nat → Nat → Int32) → (Nat → Nat → Int64) → Option Nat → Prop} (hV : ∀ x2 I J T, wb_X7_takeFormula_22 x2 I J T V P → V x2 I J T) : ∀ m c f fs (at_ : Bool) o k pt I, L < c + m → fs.length ≤ 10 → yz f fs → cd0.length + o.length + yw (f :: fs) + pre.length ≤ c → k ≤ c → pt ≠ 4 → (pt = 0 → at_ = true ∧ yk b n c ≠ 8) → yA77 b n L I0 c (cd0 ++ yen_c o) (pre ++ yop f fs) fs.length pt (s01_ at_) I J → (∀ kk c' I2, ysm (yk b n) (yv b n) m c f fs at_ o = .inl (kk, c') → fr_off yDF77 I0 I2 → I2 44 10 = yft b n c' kk → I2 44 11 = nI (yps b n c') → P I2 J (some 77)) → (∀ o2 c' f2 o3 k2 I2, ysm (yk b n) (yv b n) m c f fs at_ o = .inr (o2, c') → o2 = o3 ++ yo f2.2.2 ++ yo f2.2.1 → yfw f2 → ¬ (yk b n c' = 42 ∨ yk b n c' = 47) → ¬ (yk b n c' = 43 ∨ yk b n c' = 45) → k2 ≤ c' → cd0.length + o2.length + pre.length ≤ c' → yA77 b n L I0 c' (cd0 ++ yen_c o3) (pre ++ yfo f2) 0 (ypt pt) 0 I2 J → V (nI k2) I2 J (some 77)) → V (nI k) I J (some 77) := by
  intro m
  induction m with
  | zero => intro c f fs at_ o k pt I h1 _ _ _ _ _ _ h; have := h.2.2.2.2.1; omega
  | succ m ih =>
    intro c f fs at_ o k pt I hm hl hz hB hk hp4 hp0 h hbad hok
    have hc := h.2.2.2.2.1
    have e7 := h.2.2.1
    have e9 := h.2.2.2.2.2.1
    have e10 := h.2.2.2.2.2.2.1
    have e17 := h.2.2.2.2.2.2.2.2.2.2.1
    have e18 := h.2.2.2.2.2.2.2.2.2.2.2.1
    have e16 := h.2.2.2.2.2.2.2.2.2.1
    have hol := yop_len f fs
    have wf := yz_w hz
    have cL : (cd0 ++ yen_c o).length = cd0.length + o.length := by rw [List.length_append, yen_len]
    have ywe : yw (f :: fs) = (if f.1 = 0 then 0 else 1) + yb_ f.2.1 + yb_ f.2.2 + yw fs := rfl
    have kk1 : nI k < nI (L + 1) := (yi_lt (by omega) (by omega)).mpr (by omega)
    have fail : ∀ kk c' I1 cd pd dp pt wa, ykp kk → yA77 b n L I0 c' cd pd dp pt wa I1 J → (∀ I2, fr_off yDF77 I0 I2 → I2 44 10 = yft b n c' kk → I2 44 11 = nI (yps b n c') → P I2 J (some 77)) → wp_X7_blame kk I1 J (some 77) (fun I48 J48 T48 => V (nI k + 1) I48 J48 T48) := by
      intro kk c' I1 cd pd dp pt wa hkk h1 hb
      rw [nI_1]
      exact yA_bl77 (by omega) h1 (fun I2 q1 q2 q3 => yf_bad77 hV hkk q2 (hb I2 q1 q2 q3))
    cases at_ with
    | true =>
      rw [ysm] at hbad hok
      -- an opening bracket at token c'
      have opn : ∀ (kd : Nat) (c' : Nat) (I1 : Nat → Nat → Int32), kd = 0 ∨ kd = 1 ∨ kd = 3 → c ≤ c' → c + (if kd = 0 then 0 else 1) ≤ c' → yA77 b n L I0 c' (cd0 ++ yen_c o) (pre ++ yop f fs) fs.length (ypt pt) 1 I1 J → (∀ k2 c2 I2, (if yk b n c' = 40 then (if fs.length = 10 then Sum.inl (6, c') else ysm (yk b n) (yv b n) m (c' + 1) (kd, 0, 0) (f :: fs) true o) else Sum.inl (2, c')) = .inl (k2, c2) → fr_off yDF77 I0 I2 → I2 44 10 = yft b n c2 k2 → I2 44 11 = nI (yps b n c2) → P I2 J (some 77)) → (∀ o2 c2 f2 o3 k2 I2, (if yk b n c' = 40 then (if fs.length = 10 then Sum.inl (6, c') else ysm (yk b n) (yv b n) m (c' + 1) (kd, 0, 0) (f :: fs) true o) else Sum.inl (2, c')) = .inr (o2, c2) → o2 = o3 ++ yo f2.2.2 ++ yo f2.2.1 → yfw f2 → ¬ (yk b n c2 = 42 ∨ yk b n c2 = 47) → ¬ (yk b n c2 = 43 ∨ yk b n c2 = 45) → k2 ≤ c2 → cd0.length + o2.length + pre.length ≤ c2 → yA77 b n L I0 c2 (cd0 ++ yen_c o3) (pre ++ yfo f2) 0 (ypt pt) 0 I2 J → V (nI k2) I2 J (some 77)) → wp_X7_openBracket (ymk kd) I1 J (some 77) (fun I39 J39 T39 => V (nI k + 1) I39 J39 T39) := by
        intro kd c' I1 hkd hcc hcc2 h1 hb hg
        have f9 := h1.2.2.2.2.2.1
        have f16 := h1.2.2.2.2.2.2.2.2.2.1
        unfold wp_X7_openBracket
        rw [f9, f16]
        refine ⟨fun y => ?_, fun y => ?_⟩
        · rw [if_pos y] at hb hg
          refine ⟨fun z => ?_, fun z => ?_⟩
          · have z : fs.length < 10 := (yi_lt (b := 10) (by omega) (by omega)).mp z
            rw [if_neg (by omega)] at hb hg
            rw [nI_1]
            refine yA_hd77 (yA_dp77 h1) (by rw [List.length_append]; omega) (fun I2 h2 => yA_st77 (by omega) h2 (yKL hL1 h1.2.2.2.2.1 y (by decide) (by decide)) (fun I3 h3 => ?_))
            have e1 : yw ((kd, 0, 0) :: f :: fs) ≤ yw (f :: fs) + (if kd = 0 then 0 else 1) := by
              show (if kd = 0 then 0 else 1) + yb_ 0 + yb_ 0 + yw (f :: fs) ≤ _
              rw [show yb_ 0 = 0 from rfl]; omega
            have e2 : pre ++ yop f fs ++ [ymk kd] = pre ++ yop (kd, 0, 0) (f :: fs) := by
              show _ = pre ++ (yop f fs ++ [ymk kd] ++ [])
              rw [List.append_nil, List.append_assoc]
            rw [e2] at h3
            have q := ypt_n pt
            rw [nI_1]
            refine ih (c' + 1) (kd, 0, 0) (f :: fs) true o (k + 1) (ypt pt) I3 (by omega) (by rw [List.length_cons]; omega) ⟨⟨show kd ≤ 4 by omega, Or.inl rfl, Or.inl rfl⟩, hz⟩ (by split at e1 <;> split at hcc2 <;> omega) (by omega) (ypt_4 hp4) (fun e => absurd e q.1) h3 hb (by rw [q.2]; exact hg)
          · have z : fs.length = 10 := by
              by_cases e : fs.length < 10
              · exact absurd ((yi_lt (b := 10) (by omega) (by omega)).mpr e) z
              · omega
            rw [if_pos z] at hb
            exact fail 6 c' I1 _ _ _ _ _ ykp6 h1 (fun I2 => hb 6 c' I2 rfl)
        · rw [if_neg y] at hb
          exact fail 2 c' I1 _ _ _ _ _ ykp2 h1 (fun I2 => hb 2 c' I2 rfl)
      have core : ∀ x1 : Int32, (x1 = 0 ∨ yk b n c ≠ 8) → wj_X7_takeAtom_j26_k44 x1 (ypt pt) I J (some 77) (fun I10 J10 T10 => V (nI k + 1) I10 J10 T10) := by
        intro x1 hx1
        have h1 : yA77 b n L I0 c (cd0 ++ yen_c o) (pre ++ yop f fs) fs.length (ypt pt) 1 (ix_u2 I 44 17 (ypt pt)) J := yA_pt77 h
        have g9 : (ix_u2 I 44 17 (ypt pt)) 44 9 = yk b n c := h1.2.2.2.2.2.1
        have g8 : (ix_u2 I 44 17 (ypt pt)) 44 8 = nI c := h1.2.2.2.1
        -- a number or a variable
        have atm : ∀ (s1 : Int32) (g : YG), yen_c [g] = [s1] → c + 1 ≤ L → (∀ k2 c2 I2, ysm (yk b n) (yv b n) m (c + 1) f fs false (o ++ [g]) = .inl (k2, c2) → fr_off yDF77 I0 I2 → I2 44 10 = yft b n c2 k2 → I2 44 11 = nI (yps b n c2) → P I2 J (some 77)) → (∀ o2 c2 f2 o3 k2 I2, ysm (yk b n) (yv b n) m (c + 1) f fs false (o ++ [g]) = .inr (o2, c2) → o2 = o3 ++ yo f2.2.2 ++ yo f2.2.1 → yfw f2 → ¬ (yk b n c2 = 42 ∨ yk b n c2 = 47) → ¬ (yk b n c2 = 43 ∨ yk b n c2 = 45) → k2 ≤ c2 → cd0.length + o2.length + pre.length ≤ c2 → yA77 b n L I0 c2 (cd0 ++ yen_c o3) (pre ++ yfo f2) 0 (ypt pt) 0 I2 J → V (nI k2) I2 J (some 77)) → wj_X7_takeAtom_j80_k77_t77 s1 (ix_u2 I 44 17 (ypt pt)) J (some 77) (fun I10 J10 T10 => V (nI k + 1) I10 J10 T10) := by
          intro s1 g eg hcL hb hg
          unfold wj_X7_takeAtom_j80_k77_t77
          refine yA_em77 h1 (by omega) (fun I2 h2 => yA_st77 (by omega) (yA_wa77 h2) hcL (fun I3 h3 => ?_))
          have e2 : cd0 ++ yen_c o ++ [s1] = cd0 ++ yen_c (o ++ [g]) := by rw [yen_app, eg, List.append_assoc]
          rw [e2] at h3
          have q := ypt_n pt
          rw [nI_1]
          exact ih (c + 1) f fs false (o ++ [g]) (k + 1) (ypt pt) I3 (by omega) hl hz (by rw [List.length_append, List.length_singleton]; omega) (by omega) (ypt_4 hp4) (fun e => absurd e q.1) h3 hb (by rw [q.2]; exact hg)
        have few : (yk b n c = 9 ∨ yk b n c = 10) → ∀ kd : Nat, (kd = 1 ∨ kd = 3) → 100 + yk b n c = ymk kd → (∀ k2 c2 I2, (if yk b n (c + 1) = 40 then (if fs.length = 10 then Sum.inl (6, c + 1) else ysm (yk b n) (yv b n) m (c + 2) (kd, 0, 0) (f :: fs) true o) else Sum.inl (2, c + 1)) = .inl (k2, c2) → fr_off yDF77 I0 I2 → I2 44 10 = yft b n c2 k2 → I2 44 11 = nI (yps b n c2) → P I2 J (some 77)) → (∀ o2 c2 f2 o3 k2 I2, (if yk b n (c + 1) = 40 then (if fs.length = 10 then Sum.inl (6, c + 1) else ysm (yk b n) (yv b n) m (c + 2) (kd, 0, 0) (f :: fs) true o) else Sum.inl (2, c + 1)) = .inr (o2, c2) → o2 = o3 ++ yo f2.2.2 ++ yo f2.2.1 → yfw f2 → ¬ (yk b n c2 = 42 ∨ yk b n c2 = 47) → ¬ (yk b n c2 = 43 ∨ yk b n c2 = 45) → k2 ≤ c2 → cd0.length + o2.length + pre.length ≤ c2 → yA77 b n L I0 c2 (cd0 ++ yen_c o3) (pre ++ yfo f2) 0 (ypt pt) 0 I2 J → V (nI k2) I2 J (some 77)) → wj_X7_takeAtom_j133 (ix_u2 I 44 17 (ypt pt)) J (some 77) (fun I10 J10 T10 => V (nI k + 1) I10 J10 T10) := by
          intro hK kd hkd em hb hg
          have hcL : c + 1 ≤ L := by rcases hK with g | g <;> exact yKL hL1 hc g (by decide) (by decide)
          unfold wj_X7_takeAtom_j133
          rw [g9, em]
          exact yA_st77 (by omega) h1 hcL (fun I3 h3 => opn kd (c + 1) I3 (by omega) (by omega) (by split <;> omega) h3 hb hg)
        unfold wj_X7_takeAtom_j26_k44
        rw [e9]
        by_cases h20 : yk b n c = 20
        · rw [if_pos h20] at hbad hok
          refine ⟨fun _ => ?_, fun z => absurd h20 z⟩
          unfold wj_X7_takeAtom_j48
          rw [g9, g8, nI_clamp (show c < 2 ^ 31 by omega), (h1.2.1 c (by omega)).2.2.1 h20]
          have go : (yk b n c = 20 → ix_inb (nI c) 601 = true ∧ wj_X7_takeAtom_j80_k77_t77 (yv b n c).toInt32 (ix_u2 I 44 17 (ypt pt)) J (some 77) (fun I10 J10 T10 => V (nI k + 1) I10 J10 T10)) ∧ (¬ yk b n c = 20 → wj_X7_takeAtom_j80_k77_t77 (-1 - yk b n c) (ix_u2 I 44 17 (ypt pt)) J (some 77) (fun I10 J10 T10 => V (nI k + 1) I10 J10 T10)) := ⟨fun _ => ⟨nI_in2 (by omega) (by decide), atm _ _ (ye_0 _) (yKL hL1 hc h20 (by decide) (by decide)) hbad hok⟩, fun z => absurd h20 z⟩
          exact ⟨Or.inr (Or.inr (Or.inl rfl)), ⟨fun z => absurd z (by decide), fun z => absurd z (by decide), fun _ => go, fun z => absurd z (by decide)⟩⟩
        · rw [if_neg h20] at hbad hok
          refine ⟨fun z => absurd z h20, fun _ => ?_⟩
          unfold wp_X7_isVariable
          by_cases hva : 11 ≤ yk b n c ∧ yk b n c ≤ 17
          · rw [if_pos hva] at hbad hok
            refine ⟨fun z => absurd hva.1 (Int32.not_le.mpr z), fun _ => ⟨fun _ => ⟨fun z => absurd z (by decide), fun _ => ?_⟩, fun z => absurd hva.2 z⟩⟩
            obtain ⟨j, hj, ej⟩ := y_var hva.1 hva.2
            have t : ∀ j : Fin 7, nI (11 + j.1) ≠ 21 ∧ nI (11 + j.1) ≠ 22 := by decide +kernel
            unfold wj_X7_takeAtom_j48
            rw [g9, g8]
            have go : (yk b n c = 20 → ix_inb (nI c) 601 = true ∧ wj_X7_takeAtom_j80_k77_t77 (J 48 (nI c).toNatClampNeg).toInt32 (ix_u2 I 44 17 (ypt pt)) J (some 77) (fun I10 J10 T10 => V (nI k + 1) I10 J10 T10)) ∧ (¬ yk b n c = 20 → wj_X7_takeAtom_j80_k77_t77 (-1 - yk b n c) (ix_u2 I 44 17 (ypt pt)) J (some 77) (fun I10 J10 T10 => V (nI k + 1) I10 J10 T10)) := ⟨fun z => absurd z h20, fun _ => atm _ _ (ye_1 hva.1 hva.2) (yKL hL1 hc ej (t ⟨j, hj⟩).1 (t ⟨j, hj⟩).2) hbad hok⟩
            exact ⟨Or.inr (Or.inr (Or.inl rfl)), ⟨fun z => absurd z (by decide), fun z => absurd z (by decide), fun _ => go, fun z => absurd z (by decide)⟩⟩
          · rw [if_neg hva] at hbad hok
            have tail : (yk b n c = 40 → wp_X7_openBracket (yk b n c) (ix_u2 I 44 17 (ypt pt)) J (some 77) (fun I39 J39 T39 => V (nI k + 1) I39 J39 T39)) ∧ (¬ yk b n c = 40 → ((yk b n c = 9 → wj_X7_takeAtom_j133 (ix_u2 I 44 17 (ypt pt)) J (some 77) (fun I10 J10 T10 => V (nI k + 1) I10 J10 T10)) ∧ (¬ yk b n c = 9 → ((yk b n c = 10 → wj_X7_takeAtom_j133 (ix_u2 I 44 17 (ypt pt)) J (some 77) (fun I10 J10 T10 => V (nI k + 1) I10 J10 T10)) ∧ (¬ yk b n c = 10 → ((x1 = 0 → wj_X7_takeAtom_j181 (ix_u2 I 44 17 (ypt pt)) J (some 77) (fun I10 J10 T10 => V (nI k + 1) I10 J10 T10)) ∧ (¬ x1 = 0 → ((yk b n c = 8 → wp_X7_hold (yk b n c) (ix_u2 I 44 17 (ypt pt)) J (some 77) (fun I51 J51 T51 => wp_X7_step I51 J51 T51 (fun I52 J52 T52 => V (nI k + 1) I52 J52 T52))) ∧ (¬ yk b n c = 8 → wj_X7_takeAtom_j181 (ix_u2 I 44 17 (ypt pt)) J (some 77) (fun I10 J10 T10 => V (nI k + 1) I10 J10 T10))))))))))  := by
              refine ⟨fun y => ?_, fun y40 => ⟨fun y => ?_, fun y9 => ⟨fun y => ?_, fun y10 => ?_⟩⟩⟩
              · rw [if_neg (by rw [y]; decide), if_neg (by rw [y]; decide)] at hbad hok
                have : yk b n c = ymk 0 := y
                rw [this]
                exact opn 0 c _ (Or.inl rfl) (Nat.le_refl _) (by simp) h1 hbad hok
              · rw [if_pos y] at hbad hok
                exact few (Or.inl y) 1 (Or.inl rfl) (by rw [y]; decide) hbad hok
              · rw [if_neg y9, if_pos y] at hbad hok
                exact few (Or.inr y) 3 (Or.inr rfl) (by rw [y]; decide) hbad hok
              · rw [if_neg y9, if_neg y10, if_neg y40] at hbad
                have bl : wj_X7_takeAtom_j181 (ix_u2 I 44 17 (ypt pt)) J (some 77) (fun I10 J10 T10 => V (nI k + 1) I10 J10 T10) := fail 2 c _ _ _ _ _ _ ykp2 h1 (fun I2 => hbad 2 c I2 rfl)
                exact ⟨fun _ => bl, fun z => ⟨fun y8 => absurd y8 (hx1.resolve_left z), fun _ => bl⟩⟩
            have tail2 : ((0 : Int32) = 0 → _) ∧ (¬ (0 : Int32) = 0 → wj_X7_takeAtom_j48 (ix_u2 I 44 17 (ypt pt)) J (some 77) (fun I10 J10 T10 => V (nI k + 1) I10 J10 T10)) := ⟨fun _ => tail, fun z => absurd rfl z⟩
            rw [← g9] at tail2
            refine ⟨fun _ => ?_, fun z => ⟨fun z2 => absurd ⟨Int32.not_lt.mp z, z2⟩ hva, fun _ => ?_⟩⟩
            · exact tail2
            · exact tail2
      apply hV
      unfold wb_X7_takeFormula_22
      rw [e7, e10, e17, e18]
      refine ⟨fun _ => ⟨fun _ => ⟨fun z => absurd z hp4, fun _ => ⟨fun z => absurd z (by decide), fun _ => ?_⟩⟩, fun z => absurd rfl z⟩, fun z => absurd kk1 z⟩
      unfold wp_X7_takeAtom wj_X7_takeAtom_j12
      rw [e17]
      by_cases p0 : pt = 0
      · have ep : ypt pt = 1 := by unfold ypt; rw [if_pos p0]
        have := core 1 (Or.inr (hp0 p0).2)
        rw [ep] at this
        exact ⟨fun _ => ⟨fun z => absurd z (by decide), fun _ => this⟩, fun z => absurd p0 z⟩
      · have ep : ypt pt = pt := by unfold ypt; rw [if_neg p0]
        have := core 0 (Or.inl rfl)
        rw [ep] at this
        exact ⟨fun z => absurd z p0, fun _ => ⟨fun _ => this, fun z => absurd rfl z⟩⟩
    | false =>
      have p0 : pt ≠ 0 := fun e => by have := (hp0 e).1; cases this
      have ep : ypt pt = pt := by unfold ypt; rw [if_neg p0]
      rw [ysm] at hbad hok
      rw [ep] at hok
      -- from a joint
      have top : ∀ (Q : Prop), Q → (Q → wp_X7_takeJoint I J (some 77) (fun I9 J9 T9 => V (nI k + 1) I9 J9 T9)) → V (nI k) I J (some 77) := by
        intro Q q0 q1
        apply hV
        unfold wb_X7_takeFormula_22
        rw [e7, e10, e17, e18]
        exact ⟨fun _ => ⟨fun _ => ⟨fun z => absurd z hp4, fun _ => ⟨fun _ => q1 q0, fun z => absurd rfl z⟩⟩, fun z => absurd rfl z⟩, fun z => absurd kk1 z⟩
      have jn : ∀ (bd : Int32) (xs : List Int32) (f2 : YF) (o2 : List YG), bd = ybn (yk b n c) → ¬ bd < 5 → c + 1 ≤ L → pre ++ yop f fs = (pre ++ yBs f fs ++ (if bd = 6 then yq1 f.2.1 else [])) ++ xs.reverse → ylast (pre ++ yBs f fs ++ (if bd = 6 then yq1 f.2.1 else [])) bd → (∀ x, x ∈ xs → ¬ ybn x < bd) → (pre ++ yBs f fs ++ (if bd = 6 then yq1 f.2.1 else [])).length + xs.length ≤ 47 → cd0.length + o.length + xs.length ≤ 600 → cd0 ++ yen_c o ++ yneg xs = cd0 ++ yen_c o2 → pre ++ yBs f fs ++ (if bd = 6 then yq1 f.2.1 else []) ++ [yk b n c] = pre ++ yop f2 fs → yz f2 fs → cd0.length + o2.length + yw (f2 :: fs) + pre.length ≤ c + 1 → (∀ kk c' I2, ysm (yk b n) (yv b n) m (c + 1) f2 fs true o2 = .inl (kk, c') → fr_off yDF77 I0 I2 → I2 44 10 = yft b n c' kk → I2 44 11 = nI (yps b n c') → P I2 J (some 77)) → (∀ o3 c' f3 o4 k2 I2, ysm (yk b n) (yv b n) m (c + 1) f2 fs true o2 = .inr (o3, c') → o3 = o4 ++ yo f3.2.2 ++ yo f3.2.1 → yfw f3 → ¬ (yk b n c' = 42 ∨ yk b n c' = 47) → ¬ (yk b n c' = 43 ∨ yk b n c' = 45) → k2 ≤ c' → cd0.length + o3.length + pre.length ≤ c' → yA77 b n L I0 c' (cd0 ++ yen_c o4) (pre ++ yfo f3) 0 pt 0 I2 J → V (nI k2) I2 J (some 77)) → V (nI k) I J (some 77) := by
        intro bd xs f2 o2 ebd h5 hcL epd hyl hxs hlen hcd ecd ep2 hz2 hB2 hb hg
        refine top True trivial (fun _ => ?_)
        unfold wp_X7_takeJoint
        rw [e9]
        refine yA_bn ?_
        rw [← ebd]
        refine ⟨fun z => absurd z h5, fun _ => ?_⟩
        unfold wp_X7_joinBy
        rw [epd] at h
        rw [e17]
        refine yA_uw77 hyl (by omega) h hxs (by omega) (by omega) (fun I2 h2 => ?_)
        have g9 := h2.2.2.2.2.2.1
        rw [g9]
        refine yA_hd77 h2 (by omega) (fun I3 h3 => yA_st77 (by omega) (yA_wa77 (yA_pt77 h3)) hcL (fun I4 h4 => ?_))
        rw [ecd, ep2] at h4
        rw [nI_1]
        exact ih (c + 1) f2 fs true o2 (k + 1) pt I4 (by omega) hl hz2 hB2 (by omega) hp4 (fun e => absurd e p0) h4 hb (by rw [ep]; exact hg)
      have opb := yop_b f fs
      have lB : (pre ++ yop f fs).length = pre.length + (yop f fs).length := List.length_append
      have lop : (yop f fs).length = (yBs f fs).length + (yb_ f.2.1 + yb_ f.2.2) := by
        rw [opb, List.length_append]; unfold yfo; rw [List.length_append, yq1_len, yq1_len]
      by_cases c1 : yk b n c = 42 ∨ yk b n c = 47
      · rw [if_pos c1] at hbad hok
        have eb : (6 : Int32) = ybn (yk b n c) := by rcases c1 with g | g <;> rw [g] <;> decide
        have nz : yb_ (yk b n c) = 1 := by rcases c1 with g | g <;> rw [g] <;> rfl
        have eK : yq1 (yk b n c) = [yk b n c] := by rcases c1 with g | g <;> rw [g] <;> rfl
        have hcL : c + 1 ≤ L := by rcases c1 with g | g <;> exact yKL hL1 hc g (by decide) (by decide)
        refine jn 6 (yq1 f.2.2) (f.1, f.2.1, yk b n c) (o ++ yo f.2.2) eb (by decide) hcL ?_ ?_ ?_ ?_ ?_ ?_ ?_ (yz_to hz rfl ⟨wf.1, wf.2.1, Or.inr c1⟩) ?_ hbad hok
        · rw [if_pos rfl, opb, yq1_rev]; unfold yfo; simp only [List.append_assoc]
        · rw [if_pos rfl]
          exact ylast_q (yBs_l hp5 (by decide)) (by rcases wf.2.1 with g | g | g <;> rw [g] <;> decide)
        · intro x hx
          have e := yq1_m hx
          rcases wf.2.2 with g | g | g
          · unfold yq1 at hx; rw [if_pos g] at hx; cases hx
          · rw [e, g]; decide
          · rw [e, g]; decide
        · rw [if_pos rfl, List.length_append, List.length_append, yq1_len, yq1_len]; omega
        · rw [yq1_len]; have := yb_le f.2.2; omega
        · rw [yneg_yo (by rcases wf.2.2 with g | g | g <;> rw [g] <;> decide), yen_app, List.append_assoc]
        · rw [if_pos rfl, yop_b, yBs_f (f := f) (g := (f.1, f.2.1, yk b n c)) rfl]
          unfold yfo
          rw [eK]
          simp only [List.append_assoc]
        · have e1 : yw ((f.1, f.2.1, yk b n c) :: fs) = (if f.1 = 0 then 0 else 1) + yb_ f.2.1 + 1 + yw fs := by
            show (if f.1 = 0 then 0 else 1) + yb_ f.2.1 + yb_ (yk b n c) + yw fs = _
            rw [nz]
          rw [List.length_append, yo_len]; omega
      · rw [if_neg c1] at hbad hok
        by_cases c3 : yk b n c = 43 ∨ yk b n c = 45
        · rw [if_pos c3] at hbad hok
          have eb : (5 : Int32) = ybn (yk b n c) := by rcases c3 with g | g <;> rw [g] <;> decide
          have nz : yb_ (yk b n c) = 1 := by rcases c3 with g | g <;> rw [g] <;> rfl
          have eK : yq1 (yk b n c) = [yk b n c] := by rcases c3 with g | g <;> rw [g] <;> rfl
          have hcL : c + 1 ≤ L := by rcases c3 with g | g <;> exact yKL hL1 hc g (by decide) (by decide)
          refine jn 5 (yq1 f.2.2 ++ yq1 f.2.1) (f.1, yk b n c, 0) (o ++ yo f.2.2 ++ yo f.2.1) eb (by decide) hcL ?_ ?_ ?_ ?_ ?_ ?_ ?_ (yz_to hz rfl ⟨wf.1, Or.inr c3, Or.inl rfl⟩) ?_ hbad hok
          · rw [if_neg (by decide), List.append_nil, opb, ← yfo_x]; simp only [List.append_assoc]
          · rw [if_neg (by decide), List.append_nil]
            exact yBs_l hp5 (by decide)
          · intro x hx; exact yel_b (yel_f wf hx) (by decide)
          · rw [if_neg (by decide), List.append_nil, List.length_append, List.length_append, yq1_len, yq1_len]; omega
          · rw [List.length_append, yq1_len, yq1_len]; have := yb_le f.2.2; have := yb_le f.2.1; omega
          · rw [yng_f wf, List.append_assoc o, yen_app o, List.append_assoc]
          · rw [if_neg (by decide), List.append_nil, yop_b, yBs_f (f := f) (g := (f.1, yk b n c, 0)) rfl]
            unfold yfo
            rw [eK]
            have : yq1 (0 : Int32) = [] := rfl
            rw [this]
            simp only [List.append_assoc, List.append_nil]
          · have e1 : yw ((f.1, yk b n c, 0) :: fs) = (if f.1 = 0 then 0 else 1) + 1 + yw fs := by
              show (if f.1 = 0 then 0 else 1) + yb_ (yk b n c) + yb_ 0 + yw fs = _
              rw [nz, show yb_ 0 = 0 from rfl]
            rw [List.length_append, List.length_append, yo_len, yo_len]; omega
        · rw [if_neg c3] at hbad hok
          cases fs with
          | nil =>
            rw [if_pos (show ([] : List YF).length = 0 from rfl)] at hok
            refine hok _ c f o k I rfl rfl wf c1 c3 hk ?_ h
            rw [List.length_append, List.length_append, yo_len, yo_len]
            have : yw ([] : List YF) = 0 := rfl
            omega
          | cons g gs =>
            rw [if_neg (by simp), List.headD_cons, List.tail_cons] at hbad hok
            have hlen : (g :: gs).length = gs.length + 1 := rfl
            refine top True trivial (fun _ => ?_)
            unfold wp_X7_takeJoint
            rw [e9]
            refine yA_bn ⟨fun _ => ?_, fun z => absurd (ybn_5 c1 c3) z⟩
            rw [e16]
            refine ⟨fun z => absurd ((yi_le (b := 0) (by omega) (by omega)).mp z) (by omega), fun _ => ?_⟩
            unfold wp_X7_takeInBracket
            have epd : pre ++ yop f (g :: gs) = (pre ++ yop g gs ++ [ymk f.1]) ++ (yq1 f.2.2 ++ yq1 f.2.1).reverse := by
              rw [← yfo_x]
              show pre ++ (yop g gs ++ [ymk f.1] ++ yfo f) = _
              simp only [List.append_assoc]
            have lx : (yq1 f.2.2 ++ yq1 f.2.1).length = yb_ f.2.2 + yb_ f.2.1 := by rw [List.length_append, yq1_len, yq1_len]
            have lg := yop_len g gs
            have lb : (pre ++ yop g gs ++ [ymk f.1]).length = pre.length + (yop g gs).length + 1 := by rw [List.length_append, List.length_append, List.length_singleton]
            have b1 := yb_le f.2.1
            have b2 := yb_le f.2.2
            rw [epd] at h
            refine yA_uw77 (ylast_1 ymk_b) (by omega) h (fun x hx => yel_b (yel_f wf hx) (by decide)) (by omega) (by omega) (fun I1 h1 => ?_)
            have ecd : cd0 ++ yen_c o ++ yneg (yq1 f.2.2 ++ yq1 f.2.1) = cd0 ++ yen_c (o ++ yo f.2.2 ++ yo f.2.1) := by rw [yng_f wf, List.append_assoc o, yen_app o, List.append_assoc]
            rw [ecd] at h1
            obtain ⟨p1, p2, p3⟩ := yA_pp77 h1
            have g9 := h1.2.2.2.2.2.1
            have g16 := h1.2.2.2.2.2.2.2.2.2.1
            have lp : (pre ++ yop g gs).length = pre.length + (yop g gs).length := List.length_append
            have l2 : (o ++ yo f.2.2 ++ yo f.2.1).length = o.length + yb_ f.2.2 + yb_ f.2.1 := by rw [List.length_append, List.length_append, yo_len, yo_len]
            rw [p1, nI_s1, nI_clamp (show (pre ++ yop g gs).length < 2 ^ 31 by omega), p2, g9, g16, hlen, nI_s1]
            have ii : ix_inb (nI (pre ++ yop g gs).length) 48 = true := nI_in2 (by omega) (by decide)
            refine ⟨fun z => absurd ((yi_le (b := 0) (by omega) (by omega)).mp z) (by omega), fun _ => ⟨ii, ?_⟩⟩
            obtain ⟨m1, m2⟩ := ymk_c wf.1
            by_cases c5 : f.1 = 1 ∨ f.1 = 3
            · rw [if_pos c5] at hbad hok
              obtain ⟨n1, n2, n3⟩ := m1 c5
              refine ⟨fun z => absurd z n1, fun _ => ⟨fun z => absurd z n2, fun _ => ⟨fun y => ?_, fun y => ?_⟩⟩⟩
              · rw [if_pos y] at hbad hok
                rw [n3]
                refine yA_hd77 p3 (by omega) (fun I3 h3 => yA_st77 (by omega) (yA_wa77 h3) (yKL hL1 hc y (by decide) (by decide)) (fun I4 h4 => ?_))
                have e2 : pre ++ yop g gs ++ [ymk (f.1 + 1)] = pre ++ yop (f.1 + 1, 0, 0) (g :: gs) := by
                  show _ = pre ++ (yop g gs ++ [ymk (f.1 + 1)] ++ [])
                  rw [List.append_nil, List.append_assoc]
                rw [e2] at h4
                rw [nI_1]
                have e1 : yw ((f.1 + 1, 0, 0) :: g :: gs) = 1 + yw (g :: gs) := by
                  show (if f.1 + 1 = 0 then 0 else 1) + yb_ 0 + yb_ 0 + yw (g :: gs) = _
                  rw [if_neg (by omega), show yb_ 0 = 0 from rfl]
                rw [if_neg (by omega)] at ywe
                exact ih (c + 1) (f.1 + 1, 0, 0) (g :: gs) true _ (k + 1) pt I4 (by omega) hl ⟨⟨show f.1 + 1 ≤ 4 by omega, Or.inl rfl, Or.inl rfl⟩, hz.2⟩ (by omega) (by omega) hp4 (fun e => absurd e p0) h4 hbad (by rw [ep]; exact hok)
              · rw [if_neg y] at hbad
                exact fail 2 c I1 _ _ _ _ _ ykp2 h1 (fun I2 => hbad 2 c I2 rfl)
            · rw [if_neg c5] at hbad hok
              obtain ⟨n1, n2, n3, n4⟩ := m2 c5
              refine ⟨fun _ => ⟨fun z => absurd z n2, fun _ => ⟨fun y => ?_, fun y => ?_⟩⟩, fun z => absurd n1 z⟩
              · rw [if_pos y] at hbad hok
                have hcL := yKL hL1 hc y (by decide) (by decide)
                have l3 : (ycl f.1).length = if f.1 = 0 then 0 else 1 := by
                  unfold ycl
                  split
                  · rfl
                  · split <;> rfl
                have fin : ∀ I4, yA77 b n L I0 (c + 1) (cd0 ++ yen_c (o ++ yo f.2.2 ++ yo f.2.1 ++ ycl f.1)) (pre ++ yop g gs) gs.length pt 0 I4 J → V (nI k + 1) I4 J (some 77) := by
                  intro I4 h4
                  rw [nI_1]
                  exact ih (c + 1) g gs false _ (k + 1) pt I4 (by omega) (by omega) hz.2 (by rw [List.length_append, l2, l3]; omega) (by omega) hp4 (fun e => absurd e p0) h4 hbad (by rw [ep]; exact hok)
                refine ⟨fun z => ?_, fun z => ⟨Or.inr (Or.inr (Or.inl rfl)), ?_⟩⟩
                · have k0 : f.1 = 0 := by
                    by_cases e : f.1 = 0
                    · exact e
                    · exact absurd z (n4 e).1
                  have e2 : ycl f.1 = [] := by unfold ycl; rw [if_pos k0]
                  rw [e2, List.append_nil] at fin
                  exact yA_st77 (by omega) (yA_dp77 p3) hcL fin
                · have k0 : f.1 ≠ 0 := fun e => z (n3 e)
                  have e2 := (n4 k0).2
                  rw [yen_app, ← e2, ← List.append_assoc] at fin
                  have go : wp_X9_emit_77 (-1 - ymk f.1) (ix_u2 (ix_u2 I1 44 15 (nI (pre ++ yop g gs).length)) 44 16 (nI gs.length)) J (some 77) (fun I20 J20 T20 => wp_X7_step I20 J20 T20 (fun I21 J21 T21 => V (nI k + 1) I21 J21 T21)) := yA_em77 (yA_dp77 p3) (by rw [List.length_append, yen_len, l2]; omega) (fun I3 h3 => yA_st77 (by omega) h3 hcL fin)
                  exact ⟨fun z => absurd z (by decide), fun z => absurd z (by decide), fun _ => go, fun z => absurd z (by decide)⟩
              · rw [if_neg y] at hbad
                exact fail 2 c I1 _ _ _ _ _ ykp2 h1 (fun I2 => hbad 2 c I2 rfl)
