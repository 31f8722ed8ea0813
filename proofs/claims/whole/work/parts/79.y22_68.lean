/-! treaties: the class reads clauses, for the treaty at 68 -/
def yBc68 (b : Nat → Int32) (n : Nat) (I0 : Nat → Nat → Int32) (J : Nat → Nat → Int64) (P : (Nat → Nat → Int32) → (Nat → Nat → Int64) → Option Nat → Prop) (r : Sum (Int32 × Nat) (YC × Nat)) : Prop := ∀ kk c' I2, r = .inl (kk, c') → fr_off yDG68 I0 I2 → I2 44 10 = yft b n c' kk → I2 44 11 = nI (yps b n c') → P I2 J (some 68)
def yGc68 (b : Nat → Int32) (n L : Nat) (q : List YC) (I0 : Nat → Nat → Int32) (J : Nat → Nat → Int64) (P : (Nat → Nat → Int32) → (Nat → Nat → Int64) → Option Nat → Prop) (r : Sum (Int32 × Nat) (YC × Nat)) : Prop := ∀ x c' cd2 I2, r = .inr (x, c') → yB68 b n L I0 c' cd2 I2 J → yE68 b n cd2 (q ++ [x]) I2 J → cd2.length ≤ c' → P I2 J (some 68)
theorem yE_068 {b : Nat → Int32} {n : Nat} {cd : List Int32} {q : List YC} {I I2 : Nat → Nat → Int32} {J : Nat → Nat → Int64} {D : List fr_R} (h : yE68 b n cd q I J) (o : fr_off D I I2) (d : ((!fr_in D 68 0) && fr_rw D 69 75) = true) : yE68 b n cd q I2 J := by
  have := yE_fr68 (cd2 := []) h o d
  rw [List.append_nil] at this
  exact this
set_option maxHeartbeats 4000000 in
theorem yf_c568 {b : Nat → Int32} {n L c c6 : Nat} {I0 I : Nat → Nat → Int32} {J : Nat → Nat → Int64} {cd : List Int32} {q : List YC} {th : Bool} {fr to : Int32} {ws : List (Bool × YO)} {P : (Nat → Nat → Int32) → (Nat → Nat → Int64) → Option Nat → Prop} (hL : L ≤ n) (hn : n ≤ 600) (hL1 : yk b n L = 21 ∨ yk b n L = 22) (hq : q.length < 12) (hB : yB68 b n L I0 c6 (cd ++ ytl ws) I J) (hlen : (cd ++ ytl ws).length ≤ c6) (hE : yE68 b n (cd ++ ytl ws) q I J) (hN : J 49 q.length = yn b n c) (hbad : yBc68 b n I0 J P (yc5 (yk b n) (yv b n) c th fr to ws c6)) (hok : yGc68 b n L q I0 J P (yc5 (yk b n) (yv b n) c th fr to ws c6)) : wj_X7_takeClause_j81 (s01_ th) fr to (nI cd.length) I J (some 68) P := by
  have e1 : I 68 1 = nI (cd ++ ytl ws).length := hB.2.2.2.2.2.2.2.1
  have lw : (cd ++ ytl ws).length = cd.length + (ytl ws).length := List.length_append
  unfold wj_X7_takeClause_j81
  unfold yc5 at hbad hok
  have dead : ∀ kk c' I2, ykp kk → yBc68 b n I0 J P (.inl (kk, c')) → fr_off yDG68 I0 I2 → I2 44 10 = yft b n c' kk → I2 44 11 = nI (yps b n c') → ∀ v23, wp_X7_need 59 I2 J (some 68) (fun I26 J26 T26 => ((I26 44 10 = 0 → ix_tn T26 ∧ ((T26 = some 59 → wp_X9_addClause_59 (s01_ th) fr to (nI cd.length) v23 I26 J26 (some 59) (fun I32 J32 T32 => P I32 J32 T32)) ∧ (T26 = some 68 → wp_X9_addClause_68 (s01_ th) fr to (nI cd.length) v23 I26 J26 (some 68) (fun I33 J33 T33 => P I33 J33 T33)) ∧ (T26 = some 77 → wp_X9_addClause_77 (s01_ th) fr to (nI cd.length) v23 I26 J26 (some 77) (fun I34 J34 T34 => P I34 J34 T34)) ∧ (T26 = some 86 → wp_X9_addClause_86 (s01_ th) fr to (nI cd.length) v23 I26 J26 (some 86) (fun I35 J35 T35 => P I35 J35 T35)))) ∧ (¬ I26 44 10 = 0 → P I26 J26 T26))) := by
    intro kk c' I2 hkk hb q1 q2 q3 v23
    have nz : ¬ I2 44 10 = 0 := by rw [q2]; exact (yft_q hkk).2.1
    exact yx_nd68 nz ⟨fun z => absurd z nz, fun _ => hb kk c' I2 rfl q1 q2 q3⟩
  have go : wp_X9_length_68 I J (some 68) (fun v23 I23 J23 T23 => wp_X7_need 5 I23 J23 T23 (fun I24 J24 T24 => wp_X7_takeFormula 3 I24 J24 T24 (fun I25 J25 T25 => wp_X7_need 59 I25 J25 T25 (fun I26 J26 T26 => ((I26 44 10 = 0 → ix_tn T26 ∧ ((T26 = some 59 → wp_X9_addClause_59 (s01_ th) fr to (nI cd.length) v23 I26 J26 (some 59) (fun I32 J32 T32 => P I32 J32 T32)) ∧ (T26 = some 68 → wp_X9_addClause_68 (s01_ th) fr to (nI cd.length) v23 I26 J26 (some 68) (fun I33 J33 T33 => P I33 J33 T33)) ∧ (T26 = some 77 → wp_X9_addClause_77 (s01_ th) fr to (nI cd.length) v23 I26 J26 (some 77) (fun I34 J34 T34 => P I34 J34 T34)) ∧ (T26 = some 86 → wp_X9_addClause_86 (s01_ th) fr to (nI cd.length) v23 I26 J26 (some 86) (fun I35 J35 T35 => P I35 J35 T35)))) ∧ (¬ I26 44 10 = 0 → P I26 J26 T26)))))) := by
    unfold wp_X9_length_68
    rw [e1]
    refine yB_nd68 (by omega) hL1 ⟨by decide, by decide⟩ hB (fun y hcL I2 o2 h2 => ?_) (fun y I2 q1 q2 q3 => ?_)
    · rw [if_pos y] at hbad hok
      have hE2 : yE68 b n (cd ++ ytl ws) q I2 J := yE_068 hE o2 rfl
      unfold wp_X7_takeFormula
      refine yf_f368 hL hn hL1 (yB_A68 h2) (by omega) (fun kk c' I3 es q1 q2 q3 => ?_) (fun sm c7 I3 es y7 q1 q2 q3 => ?_) (fun sm c7 I3 es y7 hl7 h3 => ?_)
      · rw [es] at hbad
        exact dead kk c' I3 (ysm_k _ _ _ _ _ _ _ _ es) hbad (fr_trans h2.1 (fr_mono (by decide) q1)) q2 q3 _
      · rw [es] at hbad
        simp only at hbad
        rw [if_neg y7] at hbad
        exact dead 2 c7 I3 ykp2 hbad (fr_trans h2.1 (fr_mono (by decide) q1)) q2 q3 _
      · rw [es] at hok
        simp only at hok
        rw [if_pos y7] at hok
        have o3 := h3.1
        have hB3 := yA_B68 h2.1 h3
        have hE3 : yE68 b n (cd ++ ytl ws ++ yen_c sm) q I3 J := yE_fr68 hE2 o3 rfl
        refine yB_nd68 (by omega) hL1 ⟨by decide, by decide⟩ hB3 (fun _ hcL I4 o4 h4 => ⟨fun _ => ⟨Or.inr (Or.inl rfl), ?_⟩, fun z => absurd h4.2.2.2.2.2.2.1 z⟩) (fun z => absurd y7 z)
        have hE4 := yE_068 hE3 o4 rfl
        have e0 : I4 68 0 = nI q.length := hE4.1
        have e14 : I4 68 1 = nI (cd ++ ytl ws ++ yen_c sm).length := h4.2.2.2.2.2.2.2.1
        have l3 : (cd ++ ytl ws ++ yen_c sm).length = cd.length + (ytl ws).length + sm.length := by rw [List.length_append, yen_len, lw]
        have ii : ix_inb (nI q.length) 12 = true := nI_in2 hq (by decide)
        have go : wp_X9_addClause_68 (s01_ th) fr to (nI cd.length) (nI (cd ++ ytl ws).length) I4 J (some 68) (fun I32 J32 T32 => P I32 J32 T32) := by
          unfold wp_X9_addClause_68
          rw [e0, e14, nI_clamp (show q.length < 2 ^ 31 by omega), nI_1]
          refine ⟨fun _ => ⟨by rw [s01_k]; rfl, ii, ii, ii, ii, ii, ii, ?_⟩, fun z => absurd ((yi_lt (b := 12) (by omega) (by omega)).mpr hq) z⟩
          have o5 : fr_off [(68, 69, 0, 1), (69, 75, 0, 2147483648)] I4 (ix_u2 (ix_u2 (ix_u2 (ix_u2 (ix_u2 (ix_u2 (ix_u2 I4 69 q.length (s01_ th)) 70 q.length fr) 71 q.length to) 72 q.length (nI cd.length)) 73 q.length (nI (cd ++ ytl ws).length)) 74 q.length (nI (cd ++ ytl ws ++ yen_c sm).length)) 68 0 (nI (q.length + 1))) := fr_put rfl (fr_putn rfl (by omega) (fr_putn rfl (by omega) (fr_putn rfl (by omega) (fr_putn rfl (by omega) (fr_putn rfl (by omega) (fr_putn rfl (by omega) fr_refl))))))
          obtain ⟨p1, p2, p3, p4, p5, p6, p7, p8, p9, p10⟩ := h4
          refine hok (c, th, fr, to, ws, sm) (c7 + 1) (cd ++ ytl ws ++ yen_c sm) _ rfl ⟨fr_trans p1 (fr_mono (by decide) o5), fun j hj => ?_, ?_, ?_, p5, ?_, ?_, ?_, ?_, ?_⟩ ⟨?_, fun i x hx => ?_⟩ (by omega)
          · obtain ⟨t1, t2, t3, t4⟩ := p2 j hj
            exact ⟨by rw [fr_rw1 o5 46 rfl]; exact t1, by rw [fr_rw1 o5 47 rfl]; exact t2, t3, t4⟩
          · rw [fr_at 44 7 o5 rfl]; exact p3
          · rw [fr_at 44 8 o5 rfl]; exact p4
          · rw [fr_at 44 9 o5 rfl]; exact p6
          · rw [fr_at 44 10 o5 rfl]; exact p7
          · rw [fr_at 68 1 o5 rfl]; exact p8
          · rw [fr_rw1 o5 75 rfl]; exact p9
          · rw [fr_at 44 11 o5 rfl]; exact p10
          · rw [show (q ++ [(c, th, fr, to, ws, sm)]).length = q.length + 1 by simp]; simp [u2_e]
          · by_cases hi : i < q.length
            · rw [List.getElem?_append_left hi] at hx
              obtain ⟨⟨g1, g2, g3, te, g4, g5, g6, g7, g8⟩, g9⟩ := hE4.2 i x hx
              have ne : i ≠ q.length := by omega
              refine ⟨⟨?_, ?_, ?_, te, ?_, ?_, ?_, g7, g8⟩, g9⟩
              · simp [u2_e, ne]; exact g1
              · simp [u2_e, ne]; exact g2
              · simp [u2_e, ne]; exact g3
              · simp [u2_e, ne]; exact g4
              · simp [u2_e, ne]; exact g5
              · simp [u2_e, ne]; exact g6
            · rw [List.getElem?_append_right (by omega)] at hx
              have : i = q.length := by
                have := (List.getElem?_eq_some_iff.mp hx).1
                rw [List.length_singleton] at this
                omega
              subst this
              rw [Nat.sub_self] at hx
              have hx := Option.some.inj hx
              rw [← hx]
              refine ⟨⟨by simp [u2_e], by simp [u2_e], by simp [u2_e], cd.length, by simp [u2_e], ?_, ?_, ?_, fun j y hy => ?_⟩, hN⟩
              · show _ = nI (cd.length + (ytl ws).length)
                rw [← lw]; simp [u2_e]
              · show _ = nI (cd.length + (ytl ws).length + sm.length)
                rw [← l3]; simp [u2_e]
              · show cd.length + (ytl ws).length + sm.length ≤ _
                omega
              · rw [List.append_assoc]; exact app_r hy
        exact ⟨fun z => absurd z (by decide), fun _ => go, fun z => absurd z (by decide), fun z => absurd z (by decide)⟩
    · rw [if_neg y] at hbad
      have nz : ¬ I2 44 10 = 0 := by rw [q2]; exact (yft_q ykp2).2.1
      refine yx_fm68 nz (fun I3 o3 => dead 2 c6 I3 ykp2 hbad (fr_trans q1 (fr_mono (by decide) o3)) ?_ ?_ _)
      · rw [fr_at 44 10 o3 rfl]; exact q2
      · rw [fr_at 44 11 o3 rfl]; exact q3
  exact ⟨Or.inr (Or.inl rfl), ⟨fun z => absurd z (by decide), fun _ => go, fun z => absurd z (by decide), fun z => absurd z (by decide)⟩⟩
/-- what a fault ahead of the formulas leads to -/
theorem yd_go68 {b : Nat → Int32} {n c' : Nat} {kk : Int32} {I0 I2 : Nat → Nat → Int32} {J : Nat → Nat → Int64} {P : (Nat → Nat → Int32) → (Nat → Nat → Int64) → Option Nat → Prop} (hkk : ykp kk) (hb : yBc68 b n I0 J P (.inl (kk, c'))) (q1 : fr_off yDG68 I0 I2) (q2 : I2 44 10 = yft b n c' kk) (q3 : I2 44 11 = nI (yps b n c')) : ¬ I2 44 10 = 0 ∧ ∀ I3, fr_off [(44, 45, 15, 19)] I2 I3 → P I3 J (some 68) := by
  refine ⟨by rw [q2]; exact (yft_q hkk).2.1, fun I3 o3 => hb kk c' I3 rfl (fr_trans q1 (fr_mono (by decide) o3)) ?_ ?_⟩
  · rw [fr_at 44 10 o3 rfl]; exact q2
  · rw [fr_at 44 11 o3 rfl]; exact q3
set_option maxHeartbeats 4000000 in
theorem yf_c468 {b : Nat → Int32} {n L c c5 : Nat} {I0 I : Nat → Nat → Int32} {J : Nat → Nat → Int64} {cd : List Int32} {q : List YC} {th : Bool} {fr to : Int32} {P : (Nat → Nat → Int32) → (Nat → Nat → Int64) → Option Nat → Prop} (hL : L ≤ n) (hn : n ≤ 600) (hL1 : yk b n L = 21 ∨ yk b n L = 22) (hv : ∀ c, yk b n c = 20 → ∃ m : Nat, m ≤ 9999999 ∧ yv b n c = lZ m) (hq : q.length < 12) (hB : yB68 b n L I0 c5 cd I J) (hlen : cd.length ≤ c5) (hE : yE68 b n cd q I J) (hN : J 49 q.length = yn b n c) (hbad : yBc68 b n I0 J P (yc4 (yk b n) (yv b n) c th fr to c5)) (hok : yGc68 b n L q I0 J P (yc4 (yk b n) (yv b n) c th fr to c5)) : wj_X7_takeClause_j58 (s01_ th) fr to I J (some 68) P := by
  have e1 : I 68 1 = nI cd.length := hB.2.2.2.2.2.2.2.1
  unfold wj_X7_takeClause_j58
  unfold yc4 at hbad hok
  have go : wp_X9_length_68 I J (some 68) (fun v16 I16 J16 T16 => wp_X7_take 4 I16 J16 T16 (fun v17 I17 J17 T17 => ((v17 = 0 → wj_X7_takeClause_j81 (s01_ th) fr to v16 I17 J17 T17 P) ∧ (¬ v17 = 0 → wp_X7_takeFormula 0 I17 J17 T17 (fun I75 J75 T75 => wj_X7_takeClause_j81 (s01_ th) fr to v16 I75 J75 T75 P))))) := by
    unfold wp_X9_length_68
    rw [e1]
    refine yB_tk68 (by omega) hL1 ⟨by decide, by decide⟩ hB (fun y hcL I2 o2 h2 => ⟨fun z => absurd z (by decide), fun _ => ?_⟩) (fun y => ⟨fun _ => ?_, fun z => absurd rfl z⟩)
    · rw [if_pos y] at hbad hok
      have hE2 : yE68 b n cd q I2 J := yE_068 hE o2 rfl
      unfold wp_X7_takeFormula
      intro V hV
      refine yf_te68 (I0 := I2) hL hn hL1 hv hV 700 (c5 + 1) true [] false false cd 0 _ (by omega) (by show cd.length + 0 ≤ _; omega) (by omega) (yB_A68 h2) (fun kk c' I3 es q1 q2 q3 => ?_) (fun w2 c' I3 es y5 q1 q2 q3 => ?_) (fun x nw c' I3 es y5 hl h3 => ?_)
      · rw [es] at hbad
        obtain ⟨d1, d2⟩ := yd_go68 (yte_k _ _ _ _ _ _ es) hbad (fr_trans h2.1 (fr_mono (by decide) q1)) q2 q3
        exact yx_8168 d1 d2
      · rw [es] at hbad
        simp only at hbad
        unfold yc5 at hbad
        rw [if_neg y5] at hbad
        obtain ⟨d1, d2⟩ := yd_go68 ykp2 hbad (fr_trans h2.1 (fr_mono (by decide) q1)) q2 q3
        exact yx_8168 d1 d2
      · rw [es] at hbad hok
        simp only at hbad hok
        exact yf_c568 (ws := (true, x) :: nw) hL hn hL1 hq (yA_B68 h2.1 h3) hl (yE_fr68 hE2 h3.1 rfl) hN hbad hok
    · rw [if_neg y] at hbad hok
      have n1 : cd ++ ytl [] = cd := List.append_nil cd
      exact yf_c568 (ws := []) hL hn hL1 hq (by rw [n1]; exact hB) (by rw [n1]; exact hlen) (by rw [n1]; exact hE) hN hbad hok
  exact ⟨Or.inr (Or.inl rfl), ⟨fun z => absurd z (by decide), fun _ => go, fun z => absurd z (by decide), fun z => absurd z (by decide)⟩⟩
theorem yf_lis68 {b : Nat → Int32} {n L c : Nat} {I0 I : Nat → Nat → Int32} {J : Nat → Nat → Int64} {cd : List Int32} {T : Option Nat} {P : Int32 → (Nat → Nat → Int32) → (Nat → Nat → Int64) → Option Nat → Prop} (hL : L ≤ 600) (hL1 : yk b n L = 21 ∨ yk b n L = 22) (hv : ∀ c, yk b n c = 20 → ∃ m : Nat, m ≤ 9999999 ∧ yv b n c = lZ m) (h : yB68 b n L I0 c cd I J) (hbad : ∀ kk c' y I2, yli (yk b n) (yv b n) 700 c 0 = .inl (kk, c') → fr_off yDG68 I0 I2 → I2 44 10 = yft b n c' kk → I2 44 11 = nI (yps b n c') → P y I2 J T) (hok : ∀ y c' I2, yli (yk b n) (yv b n) 700 c 0 = .inr (y, c') → fr_off [(44, 45, 8, 10)] I I2 → yB68 b n L I0 c' cd I2 J → P y I2 J T) : wp_X7_takeList I J T P := by
  unfold wp_X7_takeList
  intro V hV
  exact yf_li68 hL hL1 hv hV 700 c 0 I I (by omega) (by omega) fr_refl h hbad hok
theorem yli_p68 {k : Int32} (h : k = 2 ∨ k = 5) : ykp k := h.elim (fun e => Or.inl e) (fun e => Or.inr (Or.inr (Or.inr (Or.inl e))))
theorem yf_c368 {b : Nat → Int32} {n L c c4 : Nat} {I0 I : Nat → Nat → Int32} {J : Nat → Nat → Int64} {cd : List Int32} {q : List YC} {th : Bool} {fr : Int32} {P : (Nat → Nat → Int32) → (Nat → Nat → Int64) → Option Nat → Prop} (hL : L ≤ n) (hn : n ≤ 600) (hL1 : yk b n L = 21 ∨ yk b n L = 22) (hv : ∀ c, yk b n c = 20 → ∃ m : Nat, m ≤ 9999999 ∧ yv b n c = lZ m) (hq : q.length < 12) (hB : yB68 b n L I0 c4 cd I J) (hlen : cd.length ≤ c4) (hE : yE68 b n cd q I J) (hN : J 49 q.length = yn b n c) (hbad : yBc68 b n I0 J P (yc3 (yk b n) (yv b n) c th fr c4)) (hok : yGc68 b n L q I0 J P (yc3 (yk b n) (yv b n) c th fr c4)) : wj_X7_takeClause_j41 (s01_ th) fr I J (some 68) P := by
  unfold wj_X7_takeClause_j41
  unfold yc3 at hbad hok
  refine yB_tk68 (by omega) hL1 ⟨by decide, by decide⟩ hB (fun y hcL I2 o2 h2 => ⟨fun z => absurd z (by decide), fun _ => ?_⟩) (fun y => ⟨fun _ => ?_, fun z => absurd rfl z⟩)
  · rw [if_pos y] at hbad hok
    refine yf_lis68 (by omega) hL1 hv h2 (fun kk c' y2 I3 es q1 q2 q3 => ?_) (fun to c' I3 es o3 h3 => ?_)
    · rw [es] at hbad
      obtain ⟨d1, d2⟩ := yd_go68 (yli_p68 (yli_k _ _ _ _ _ es)) hbad q1 q2 q3
      exact yx_5868 d1 d2
    · rw [es] at hbad hok
      have hcc := (yli_nz hv _ _ _ _ _ ⟨0, by omega, rfl⟩ es).2
      exact yf_c468 hL hn hL1 hv hq h3 (by omega) (yE_068 (yE_068 hE o2 rfl) o3 rfl) hN hbad hok
  · rw [if_neg y] at hbad hok
    exact yf_c468 hL hn hL1 hv hq hB hlen hE hN hbad hok
theorem yf_c268 {b : Nat → Int32} {n L c c3 : Nat} {I0 I : Nat → Nat → Int32} {J : Nat → Nat → Int64} {cd : List Int32} {q : List YC} {th : Bool} {P : (Nat → Nat → Int32) → (Nat → Nat → Int64) → Option Nat → Prop} (hL : L ≤ n) (hn : n ≤ 600) (hL1 : yk b n L = 21 ∨ yk b n L = 22) (hv : ∀ c, yk b n c = 20 → ∃ m : Nat, m ≤ 9999999 ∧ yv b n c = lZ m) (hq : q.length < 12) (hB : yB68 b n L I0 c3 cd I J) (hlen : cd.length ≤ c3) (hE : yE68 b n cd q I J) (hN : J 49 q.length = yn b n c) (hbad : yBc68 b n I0 J P (yc2 (yk b n) (yv b n) c th c3)) (hok : yGc68 b n L q I0 J P (yc2 (yk b n) (yv b n) c th c3)) : wj_X7_takeClause_j25 (s01_ th) I J (some 68) P := by
  unfold wj_X7_takeClause_j25
  unfold yc2 at hbad hok
  refine yB_tk68 (by omega) hL1 ⟨by decide, by decide⟩ hB (fun y hcL I2 o2 h2 => ⟨fun z => absurd z (by decide), fun _ => ?_⟩) (fun y => ⟨fun _ => ?_, fun z => absurd rfl z⟩)
  · rw [if_pos y] at hbad hok
    refine yf_lis68 (by omega) hL1 hv h2 (fun kk c' y2 I3 es q1 q2 q3 => ?_) (fun fr c' I3 es o3 h3 => ?_)
    · rw [es] at hbad
      obtain ⟨d1, d2⟩ := yd_go68 (yli_p68 (yli_k _ _ _ _ _ es)) hbad q1 q2 q3
      exact yx_4168 d1 d2
    · rw [es] at hbad hok
      have hcc := (yli_nz hv _ _ _ _ _ ⟨0, by omega, rfl⟩ es).2
      exact yf_c368 hL hn hL1 hv hq h3 (by omega) (yE_068 (yE_068 hE o2 rfl) o3 rfl) hN hbad hok
  · rw [if_neg y] at hbad hok
    exact yf_c368 hL hn hL1 hv hq hB hlen hE hN hbad hok
theorem yf_nd68 {b : Nat → Int32} {n L c : Nat} {I0 I : Nat → Nat → Int32} {J : Nat → Nat → Int64} {cd : List Int32} {q : List YC} {T : Option Nat} {P : Int32 → (Nat → Nat → Int32) → (Nat → Nat → Int64) → Option Nat → Prop} (hL : L ≤ 600) (hq : q.length ≤ 12) (hB : yB68 b n L I0 c cd I J) (hE : yE68 b n cd q I J) (h18 : yk b n c = 18) (h1 : (q.map (fun x => x.1)).any (fun d => decide (yn b n d = yn b n c)) = true → P 1 I J T) (h0 : ¬ (q.map (fun x => x.1)).any (fun d => decide (yn b n d = yn b n c)) = true → P 0 I J T) : wp_X7_isNamed (nI q.length) I J T P := by
  unfold wp_X7_isNamed
  have hc := hB.2.2.2.2.1
  have e8 := hB.2.2.2.1
  have en : J 48 c = yn b n c := (hB.2.1 c (by omega)).2.2.2 h18
  intro V hV
  have key : ∀ m k, k + m = q.length → (∀ i x, i < k → q[i]? = some x → ¬ yn b n x.1 = yn b n c) → V (nI q.length) (nI k) I J T := by
    intro m
    induction m with
    | zero =>
      intro k hk no
      have hk : k = q.length := by omega
      subst hk
      apply hV
      unfold wb_X7_isNamed_2
      refine ⟨fun z => absurd ((yi_lt (by omega) (by omega)).mp z) (by omega), fun _ => h0 (fun e => ?_)⟩
      rw [List.any_eq_true] at e
      obtain ⟨d, d1, d2⟩ := e
      obtain ⟨x, x1, x2⟩ := List.mem_map.mp d1
      obtain ⟨i, hi, ei⟩ := List.mem_iff_getElem.mp x1
      refine no i x hi (by rw [List.getElem?_eq_getElem hi, ei]) ?_
      rw [x2]; simpa using d2
    | succ m ih =>
      intro k hk no
      obtain ⟨x, hxk⟩ : ∃ x, q[k]? = some x := ⟨q[k]'(by omega), List.getElem?_eq_getElem (by omega)⟩
      have ex := (hE.2 k x hxk).2
      apply hV
      unfold wb_X7_isNamed_2
      rw [e8, nI_clamp (show c < 2 ^ 31 by omega), nI_clamp (show k < 2 ^ 31 by omega), en, ex, lgc_eq, nI_1]
      refine ⟨fun _ => ⟨nI_in2 (by omega) (by decide), nI_in2 (by omega) (by decide), fun e => h1 ?_, fun e => ih (k + 1) (by omega) (fun i y hi hy => ?_)⟩, fun z => absurd ((yi_lt (by omega) (by omega)).mpr (by omega)) z⟩
      · rw [List.any_eq_true]
        exact ⟨x.1, List.mem_map.mpr ⟨x, List.mem_of_getElem? hxk, rfl⟩, decide_eq_true e⟩
      · by_cases ei : i = k
        · rw [ei, hxk] at hy
          rw [← Option.some.inj hy]; exact e
        · exact no i y (by omega) hy
  exact key q.length 0 (by omega) (fun i x hi => by omega)
set_option maxHeartbeats 4000000 in
theorem yf_c168 {b : Nat → Int32} {n L c : Nat} {I0 I : Nat → Nat → Int32} {J : Nat → Nat → Int64} {cd : List Int32} {q : List YC} {P : (Nat → Nat → Int32) → (Nat → Nat → Int64) → Option Nat → Prop} (hL : L ≤ n) (hn : n ≤ 600) (hL1 : yk b n L = 21 ∨ yk b n L = 22) (hv : ∀ c, yk b n c = 20 → ∃ m : Nat, m ≤ 9999999 ∧ yv b n c = lZ m) (hq : q.length ≤ 12) (hB : yB68 b n L I0 c cd I J) (hlen : cd.length ≤ c) (hE : yE68 b n cd q I J) (hbad : ∀ J2, fr_off [(49, 50, 0, 2147483648)] J J2 → yBc68 b n I0 J2 P (yc1 (yk b n) (yv b n) (yn b n) (q.map (fun x => x.1)) c)) (hok : ∀ J2, fr_off [(49, 50, 0, 2147483648)] J J2 → yGc68 b n L q I0 J2 P (yc1 (yk b n) (yv b n) (yn b n) (q.map (fun x => x.1)) c)) : wp_X7_takeClause I J (some 68) P := by
  have hc := hB.2.2.2.2.1
  have e8 := hB.2.2.2.1
  have e9 := hB.2.2.2.2.2.1
  have e0 : I 68 0 = nI q.length := hE.1
  -- the rest behind a fault at the name, its colon or its kind
  have dead : ∀ kk c' I2 J2, ykp kk → yBc68 b n I0 J2 P (.inl (kk, c')) → fr_off yDG68 I0 I2 → I2 44 10 = yft b n c' kk → I2 44 11 = nI (yps b n c') → wp_X7_need 58 I2 J2 (some 68) (fun I2 J2 T2 => wp_X7_take 1 I2 J2 T2 (fun v3 I3 J3 T3 => ((v3 = 0 → wp_X7_need 0 I3 J3 T3 (fun I6 J6 T6 => wj_X7_takeClause_j25 v3 I6 J6 T6 P)) ∧ (¬ v3 = 0 → wj_X7_takeClause_j25 v3 I3 J3 T3 P)))) := by
    intro kk c' I2 J2 hkk hb q1 q2 q3
    obtain ⟨d1, d2⟩ := yd_go68 hkk hb q1 q2 q3
    exact yx_nd68 d1 (yx_tk68 d1 ⟨fun _ => yx_nd68 d1 (yx_2568 d1 d2), fun z => absurd rfl z⟩)
  unfold wp_X7_takeClause wp_X7_takeName
  unfold yc1 at hbad hok
  refine ⟨Or.inr (Or.inl rfl), ⟨fun z => absurd z (by decide), fun _ => ?_, fun z => absurd z (by decide), fun z => absurd z (by decide)⟩⟩
  unfold wp_X9_count_68
  dsimp only
  rw [e0, e9, nI_clamp (show q.length < 2 ^ 31 by omega)]
  refine ⟨fun h18 => ⟨fun h12 => ?_, fun h12 => ?_⟩, fun h18 => ?_⟩
  · have h12 : q.length < 12 := (yi_lt (b := 12) (by omega) (by omega)).mp h12
    rw [if_pos h18, if_neg (by rw [List.length_map]; omega)] at hbad hok
    refine yf_nd68 (by omega) hq hB hE h18 (fun y => ⟨fun z => absurd z (by decide), fun _ => ?_⟩) (fun y => ⟨fun _ => ?_, fun z => absurd rfl z⟩)
    · rw [if_pos y] at hbad
      exact yB_bl68 (by omega) hB (fun I2 q1 q2 q3 => dead 4 c I2 J (Or.inr (Or.inr (Or.inl rfl))) (hbad J fr_refl) q1 q2 q3)
    · rw [if_neg y] at hbad hok
      rw [e8, nI_clamp (show c < 2 ^ 31 by omega), (hB.2.1 c (by omega)).2.2.2 h18]
      refine ⟨nI_in2 (by omega) (by decide), nI_in2 h12 (by decide), ?_⟩
      have oj : fr_off [(49, 50, 0, 2147483648)] J (ix_u2 J 49 q.length (yn b n c)) := fr_putn rfl (by omega) fr_refl
      have hB1 : yB68 b n L I0 c cd I (ix_u2 J 49 q.length (yn b n c)) := by
        obtain ⟨p1, p2, p3⟩ := hB
        refine ⟨p1, fun j hj => ?_, p3⟩
        obtain ⟨t1, t2, t3, t4⟩ := p2 j hj
        exact ⟨t1, t2, fun e => by rw [u2_c (by decide)]; exact t3 e, fun e => by rw [u2_c (by decide)]; exact t4 e⟩
      have hE1 : yE68 b n cd q I (ix_u2 J 49 q.length (yn b n c)) := by
        refine ⟨hE.1, fun i x hx => ?_⟩
        have := (List.getElem?_eq_some_iff.mp hx).1
        obtain ⟨g1, g2⟩ := hE.2 i x hx
        exact ⟨g1, by rw [u2_j (show i ≠ q.length by omega)]; exact g2⟩
      have hN : (ix_u2 J 49 q.length (yn b n c)) 49 q.length = yn b n c := by simp [u2_e]
      have hb1 := hbad _ oj
      have hg1 := hok _ oj
      refine yB_st68 (by omega) hB1 (yKL hL1 hc h18 (by decide) (by decide)) (fun I2 o2 h2 => ?_)
      refine yB_nd68 (by omega) hL1 ⟨by decide, by decide⟩ h2 (fun y58 hcL I3 o3 h3 => ?_) (fun y58 I3 q1 q2 q3 => ?_)
      · rw [if_pos y58] at hb1 hg1
        have hE3 := yE_068 (yE_068 hE1 o2 rfl) o3 rfl
        refine yB_tk68 (by omega) hL1 ⟨by decide, by decide⟩ h3 (fun y1 hcL I4 o4 h4 => ⟨fun z => absurd z (by decide), fun _ => ?_⟩) (fun y1 => ⟨fun _ => ?_, fun z => absurd rfl z⟩)
        · have y1 : yk b n (c + 2) = 1 := y1
          rw [if_neg (by rw [y1]; decide), if_pos y1] at hb1 hg1
          exact yf_c268 (th := true) hL hn hL1 hv h12 h4 (by omega) (yE_068 hE3 o4 rfl) hN hb1 hg1
        · have y1 : ¬ yk b n (c + 2) = 1 := y1
          refine yB_nd68 (by omega) hL1 ⟨by decide, by decide⟩ h3 (fun y0 hcL I4 o4 h4 => ?_) (fun y0 I4 q1 q2 q3 => ?_)
          · have y0 : yk b n (c + 2) = 0 := y0
            rw [if_pos y0] at hb1 hg1
            exact yf_c268 (th := false) hL hn hL1 hv h12 h4 (by omega) (yE_068 hE3 o4 rfl) hN hb1 hg1
          · have y0 : ¬ yk b n (c + 2) = 0 := y0
            rw [if_neg y0, if_neg y1] at hb1
            obtain ⟨d1, d2⟩ := yd_go68 ykp2 hb1 q1 q2 q3
            exact yx_2568 d1 d2
      · rw [if_neg y58] at hb1
        obtain ⟨d1, d2⟩ := yd_go68 ykp2 hb1 q1 q2 q3
        exact yx_tk68 d1 ⟨fun _ => yx_nd68 d1 (yx_2568 d1 d2), fun z => absurd rfl z⟩
  · have h12 : q.length = 12 := by
      by_cases e : q.length < 12
      · exact absurd ((yi_lt (b := 12) (by omega) (by omega)).mpr e) h12
      · omega
    rw [if_pos h18, if_pos (by rw [List.length_map]; exact h12)] at hbad
    exact yB_bl68 (by omega) hB (fun I2 q1 q2 q3 => dead 3 c I2 J (Or.inr (Or.inl rfl)) (hbad J fr_refl) q1 q2 q3)
  · rw [if_neg h18] at hbad
    exact yB_bl68 (by omega) hB (fun I2 q1 q2 q3 => dead 2 c I2 J ykp2 (hbad J fr_refl) q1 q2 q3)
set_option maxHeartbeats 4000000 in
theorem yf_un68 {b : Nat → Int32} {n L : Nat} {I0 : Nat → Nat → Int32} {J0 : Nat → Nat → Int64} {V : Int32 → (Nat → Nat → Int32) → (Nat → Nat → Int64) → Option Nat → Prop} {P : Int32 → (Nat → Nat → Int32) → (Nat → Nat → Int64) → Option Nat → Prop} (hL : L ≤ n) (hn : n ≤ 600) (hL1 : yk b n L = 21 ∨ yk b n L = 22) (hv : ∀ c, yk b n c = 20 → ∃ m : Nat, m ≤ 9999999 ∧ yv b n c = lZ m) (hV : ∀ x3 I J T, wb_X7_understands_r68_59 x3 I J T V P → V x3 I J T) : ∀ m c cd q I J, q.length + m = 13 → q.length ≤ 12 → cd.length ≤ c → yB68 b n L I0 c cd I J → yE68 b n cd q I J → fr_off [(49, 50, 0, 2147483648)] J0 J → (∀ kk c' I2 J2, ycs (yk b n) (yv b n) (yn b n) m c q = .inl (kk, c') → fr_off yDG68 I0 I2 → fr_off [(49, 50, 0, 2147483648)] J0 J2 → I2 44 10 = yft b n c' kk → I2 44 11 = nI (yps b n c') → P 0 I2 J2 (some 68)) → (∀ q2 cd2 c' I2 J2, ycs (yk b n) (yv b n) (yn b n) m c q = .inr q2 → q2.length ≤ 12 → cd2.length ≤ c' → yB68 b n L I0 c' cd2 I2 J2 → yE68 b n cd2 q2 I2 J2 → fr_off [(49, 50, 0, 2147483648)] J0 J2 → P 1 I2 J2 (some 68)) → V (nI q.length) I J (some 68) := by
  intro m
  induction m with
  | zero => intro c cd q I J h1 h2; omega
  | succ m ih =>
    intro c cd q I J hm hq hlen hB hE hJ hbad hok
    have e9 := hB.2.2.2.2.2.1
    have e10 := hB.2.2.2.2.2.2.1
    rw [ycs] at hbad hok
    apply hV
    unfold wb_X7_understands_r68_59
    rw [e9, nI_1]
    refine ⟨fun _ => ⟨fun _ => ⟨fun h21 => ⟨fun _ => ?_, fun z => absurd e10 z⟩, fun h21 => ?_⟩, fun z => absurd e10 z⟩, fun z => absurd ((yi_le (b := 12) (by omega) (by omega)).mpr hq) z⟩
    · rw [if_pos h21] at hok
      exact hok q cd c I J rfl hq hlen hB hE hJ
    · rw [if_neg h21] at hbad hok
      refine yf_c168 hL hn hL1 hv hq hB hlen hE (fun J2 r2 kk c' I2 es q1 q2 q3 => ?_) (fun J2 r2 x c' cd2 I2 es hB2 hE2 hl2 => ?_)
      · have hkk := yc1_k es
        rw [es] at hbad
        have nz : ¬ I2 44 10 = 0 := by rw [q2]; exact (yft_q hkk).2.1
        have fin := hbad kk c' I2 J2 rfl q1 (fr_trans hJ r2) q2 q3
        apply hV
        unfold wb_X7_understands_r68_59
        have f2 : (I2 44 10 = 0 → P 1 I2 J2 (some 68)) ∧ (¬ I2 44 10 = 0 → P 0 I2 J2 (some 68)) := ⟨fun z => absurd z nz, fun _ => fin⟩
        exact ⟨fun _ => ⟨fun z => absurd z nz, fun _ => f2⟩, fun _ => f2⟩
      · have hl := yc1_l es
        rw [List.length_map] at hl
        rw [es] at hbad hok
        have le : (q ++ [x]).length = q.length + 1 := by simp
        rw [← le]
        exact ih c' cd2 (q ++ [x]) I2 J2 (by omega) (by omega) hl2 hB2 hE2 (fr_trans hJ r2) hbad hok
