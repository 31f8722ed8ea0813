/-! treaties: the class reads a test or the sum of a clause, for the treaty at 77 -/
/-- the formula is over -/
theorem yf_ov77 {b : Nat → Int32} {n L c dp k : Nat} {I0 I : Nat → Nat → Int32} {J : Nat → Nat → Int64} {cd pd : List Int32} {wa : Int32} {T : Option Nat} {V : Int32 → (Nat → Nat → Int32) → (Nat → Nat → Int64) → Option Nat → Prop} {P : (Nat → Nat → Int32) → (Nat → Nat → Int64) → Option Nat → Prop} (hV : ∀ x2 I J T, wb_X7_takeFormula_22 x2 I J T V P → V x2 I J T) (h : yA77 b n L I0 c cd pd dp 4 wa I J) (hP : P I J T) : V (nI k) I J T := by
  have e17 := h.2.2.2.2.2.2.2.2.2.2.1
  apply hV
  unfold wb_X7_takeFormula_22
  rw [e17]
  exact ⟨fun _ => ⟨fun _ => ⟨fun _ => hP, fun z => absurd rfl z⟩, fun _ => hP⟩, fun _ => hP⟩
/-- a joint outside of brackets -/
theorem yf_jt77 {b : Nat → Int32} {n L c k : Nat} {I0 I : Nat → Nat → Int32} {J : Nat → Nat → Int64} {cd pd : List Int32} {pt : Int32} {V : Int32 → (Nat → Nat → Int32) → (Nat → Nat → Int64) → Option Nat → Prop} {P : (Nat → Nat → Int32) → (Nat → Nat → Int64) → Option Nat → Prop} (hL : L ≤ 600) (hV : ∀ x2 I J T, wb_X7_takeFormula_22 x2 I J T V P → V x2 I J T) (h : yA77 b n L I0 c cd pd 0 pt 0 I J) (hk : k ≤ c) (hp : pt ≠ 4) (hb : ybn (yk b n c) < 5) (h4 : pt = 1 → ybn (yk b n c) = 4 → wp_X7_joinBy 4 2 I J (some 77) (fun I10 J10 T10 => V (nI (k + 1)) I10 J10 T10)) (h0 : ¬ (pt = 1 ∧ ybn (yk b n c) = 4) → wj_X7_takeJoint_j61 (ybn (yk b n c)) I J (some 77) (fun I10 J10 T10 => V (nI (k + 1)) I10 J10 T10)) : V (nI k) I J (some 77) := by
  have hc := h.2.2.2.2.1
  have e7 := h.2.2.1
  have e9 := h.2.2.2.2.2.1
  have e10 := h.2.2.2.2.2.2.1
  have e17 := h.2.2.2.2.2.2.2.2.2.2.1
  have e18 := h.2.2.2.2.2.2.2.2.2.2.2.1
  have e16 := h.2.2.2.2.2.2.2.2.2.1
  apply hV
  unfold wb_X7_takeFormula_22
  rw [e7, e10, e17, e18, nI_1]
  refine ⟨fun _ => ⟨fun _ => ⟨fun z => absurd z hp, fun _ => ⟨fun _ => ?_, fun z => absurd rfl z⟩⟩, fun z => absurd rfl z⟩, fun z => absurd ((yi_lt (by omega) (by omega)).mpr (by omega)) z⟩
  unfold wp_X7_takeJoint
  rw [e9]
  refine yA_bn ⟨fun _ => ?_, fun z => absurd hb z⟩
  rw [e16, e17]
  refine ⟨fun _ => ⟨fun p1 => ⟨fun p4 => ?_, fun p4 => h0 (fun z => p4 z.2)⟩, fun p1 => h0 (fun z => p1 z.1)⟩, fun z => absurd (by decide) z⟩
  rw [p4]; exact h4 p1 p4
theorem yf_f377 {b : Nat → Int32} {n L c : Nat} {I0 I : Nat → Nat → Int32} {J : Nat → Nat → Int64} {cd : List Int32} {P : (Nat → Nat → Int32) → (Nat → Nat → Int64) → Option Nat → Prop} (hL : L ≤ n) (hn : n ≤ 600) (hL1 : yk b n L = 21 ∨ yk b n L = 22) (h : yA77 b n L I0 c cd [] 0 3 1 I J) (hB : cd.length ≤ c) (hbad : ∀ kk c' I2, ysm (yk b n) (yv b n) 700 c (0, 0, 0) [] true [] = .inl (kk, c') → fr_off yDF77 I0 I2 → I2 44 10 = yft b n c' kk → I2 44 11 = nI (yps b n c') → P I2 J (some 77)) (hbad2 : ∀ o2 c' I2, ysm (yk b n) (yv b n) 700 c (0, 0, 0) [] true [] = .inr (o2, c') → ¬ yk b n c' = 59 → fr_off yDF77 I0 I2 → I2 44 10 = yft b n c' 2 → I2 44 11 = nI (yps b n c') → P I2 J (some 77)) (hok : ∀ o2 c' I2, ysm (yk b n) (yv b n) 700 c (0, 0, 0) [] true [] = .inr (o2, c') → yk b n c' = 59 → cd.length + o2.length ≤ c' → yA77 b n L I0 c' (cd ++ yen_c o2) [] 0 4 0 I2 J → P I2 J (some 77)) : wl_X7_takeFormula_22 0 I J (some 77) P := by
  intro V hV
  have h2 : yA77 b n L I0 c (cd ++ yen_c []) ([] ++ yop (0, 0, 0) []) ([] : List YF).length 3 (s01_ true) I J := by
    have e1 : yen_c [] = [] := rfl
    have e2 : yop (0, 0, 0) [] = [] := rfl
    rw [e1, e2, List.append_nil, List.append_nil]; exact h
  refine yf_sm77 (pre := []) (cd0 := cd) hL hn hL1 (fun y hy => by cases hy) (by simp) hV 700 c (0, 0, 0) [] true [] 0 3 I (by omega) (by simp) ⟨⟨by decide, Or.inl rfl, Or.inl rfl⟩, rfl⟩ (by show cd.length + 0 + 0 + 0 ≤ c; omega) (by omega) (by decide) (fun e => absurd e (by decide)) h2 hbad (fun o2 c' f2 o3 k2 I2 es eo wf n1 n2 hk2 hB2 h3 => ?_)
  have hc' := h3.2.2.2.2.1
  have ep : ypt 3 = 3 := by decide
  rw [ep, List.nil_append] at h3
  have e9 := h3.2.2.2.2.2.1
  have e17 := h3.2.2.2.2.2.2.2.2.2.2.1
  refine yf_jt77 (by omega) hV h3 hk2 (by decide) (ybn_5 n1 n2) (fun e => absurd e (by decide)) (fun _ => ?_)
  unfold wj_X7_takeJoint_j61 wj_X7_takeJoint_j96 wj_X7_takeJoint_j112
  rw [e17, e9]
  have j112 : (yk b n c' = 59 → wj_X7_takeJoint_j129 I2 J (some 77) (fun I10 J10 T10 => V (nI (k2 + 1)) I10 J10 T10)) ∧ (¬ yk b n c' = 59 → wj_X7_takeJoint_j142 I2 J (some 77) (fun I10 J10 T10 => V (nI (k2 + 1)) I10 J10 T10)) := by
    refine ⟨fun y => ?_, fun y => ?_⟩
    · unfold wj_X7_takeJoint_j129
      have el : o2.length = o3.length + yb_ f2.2.2 + yb_ f2.2.1 := by rw [eo, List.length_append, List.length_append, yo_len, yo_len]
      have lx : (yq1 f2.2.2 ++ yq1 f2.2.1).length = yb_ f2.2.2 + yb_ f2.2.1 := by rw [List.length_append, yq1_len, yq1_len]
      have b1 := yb_le f2.2.1
      have b2 := yb_le f2.2.2
      have h4 : yA77 b n L I0 c' (cd ++ yen_c o3) ([] ++ (yq1 f2.2.2 ++ yq1 f2.2.1).reverse) 0 3 0 I2 J := by rw [List.nil_append, ← yfo_x]; exact h3
      refine yA_uw77 (base := []) (fun y hy => by cases hy) (by simp) h4 (fun x hx => yel_b (yel_f wf hx) (by decide)) (by rw [lx, List.length_nil]; omega) (by rw [List.length_append, yen_len, lx]; have : ([] : List Int32).length = 0 := rfl; omega) (fun I5 h5 => ?_)
      have e2 : cd ++ yen_c o3 ++ yneg (yq1 f2.2.2 ++ yq1 f2.2.1) = cd ++ yen_c o2 := by rw [yng_f wf, eo, List.append_assoc o3, yen_app o3, List.append_assoc]
      rw [e2] at h5
      have h6 := yA_pt77 (k := 4) h5
      exact yf_ov77 hV h6 (hok o2 c' _ es y (by have : ([] : List Int32).length = 0 := rfl; omega) h6)
    · unfold wj_X7_takeJoint_j142
      exact yA_bl77 (by omega) h3 (fun I5 q1 q2 q3 => yf_bad77 hV ykp2 q2 (hbad2 o2 c' I5 es y q1 q2 q3))
  exact ⟨fun z => absurd z (by decide), fun _ => ⟨fun z => absurd z (by decide), fun _ => ⟨fun _ => j112, fun z => absurd rfl z⟩⟩⟩
set_option maxHeartbeats 4000000 in
theorem yf_te77 {b : Nat → Int32} {n L : Nat} {I0 : Nat → Nat → Int32} {J : Nat → Nat → Int64} {V : Int32 → (Nat → Nat → Int32) → (Nat → Nat → Int64) → Option Nat → Prop} {P : (Nat → Nat → Int32) → (Nat → Nat → Int64) → Option Nat → Prop} (hL : L ≤ n) (hn : n ≤ 600) (hL1 : yk b n L = 21 ∨ yk b n L = 22) (hv : ∀ c, yk b n c = 20 → ∃ m : Nat, m ≤ 9999999 ∧ yv b n c = lZ m) (hV : ∀ x2 I J T, wb_X7_takeFormula_22 x2 I J T V P → V x2 I J T) : ∀ m c bg ws (pa po : Bool) cd k I, L < c + m → cd.length + (ypr pa po).length ≤ c → k ≤ c → yA77 b n L I0 c cd (ypr pa po) 0 0 1 I J → (∀ kk c' I2, yte (yk b n) (yv b n) m c bg ws = .inl (kk, c') → fr_off yDF77 I0 I2 → I2 44 10 = yft b n c' kk → I2 44 11 = nI (yps b n c') → P I2 J (some 77)) → (∀ w2 c' I2, yte (yk b n) (yv b n) m c bg ws = .inr (w2, c') → ¬ yk b n c' = 5 → fr_off yDF77 I0 I2 → I2 44 10 = yft b n c' 2 → I2 44 11 = nI (yps b n c') → P I2 J (some 77)) → (∀ x nw c' I2, yte (yk b n) (yv b n) m c bg ws = .inr (ws ++ (bg, x) :: nw, c') → yk b n c' = 5 → (cd ++ (yt1 x ++ ytg nw pa po)).length ≤ c' → yA77 b n L I0 c' (cd ++ (yt1 x ++ ytg nw pa po)) [] 0 4 0 I2 J → P I2 J (some 77)) → V (nI k) I J (some 77) := by
  intro m
  induction m with
  | zero => intro c bg ws pa po cd k I h1 _ _ h; have := h.2.2.2.2.1; omega
  | succ m ih =>
    intro c bg ws pa po cd k I hm hB hk h hbad hbad2 hok
    have hc := h.2.2.2.2.1
    obtain ⟨yl1, yl2⟩ := ypr_l pa po
    -- behind not
    have rest : ∀ (nt : Bool) (c1 k1 : Nat) (pt : Int32) (I1 : Nat → Nat → Int32), nt = decide (yk b n c = 8) → c1 = (if yk b n c = 8 then c + 1 else c) → k1 ≤ c1 → (pt = 0 ∨ pt = 1) → (pt = 0 → yk b n c1 ≠ 8) → cd.length + (ypn pa po nt).length ≤ c1 → yA77 b n L I0 c1 cd (ypn pa po nt) 0 pt 1 I1 J → V (nI k1) I1 J (some 77) := by
      intro nt c1 k1 pt I1 hnt hc1 hk1 hpt hpt8 hB1 h1
      obtain ⟨pl1, pl2⟩ := ypn_l pa po nt
      have ep : ypt pt = 1 := by rcases hpt with g | g <;> rw [g] <;> decide
      have hp4 : pt ≠ 4 := by rcases hpt with g | g <;> rw [g] <;> decide
      have e1 : yone (yk b n) (yv b n) c = match ysm (yk b n) (yv b n) 700 c1 (0, 0, 0) [] true [] with
        | .inl e => .inl e
        | .inr (l, c2) => if yk b n c2 = 60 ∨ yk b n c2 = 62 ∨ yk b n c2 = 61 then (match ysm (yk b n) (yv b n) 700 (c2 + 1) (0, 0, 0) [] true [] with
          | .inl e => .inl e
          | .inr (r, c3) => .inr ((decide (yk b n c = 8), l, yk b n c2, r), c3)) else .inl (2, c2) := by
        rw [hc1]; rfl
      rw [yte] at hbad hbad2 hok
      have h2 : yA77 b n L I0 c1 (cd ++ yen_c []) (ypn pa po nt ++ yop (0, 0, 0) []) ([] : List YF).length pt (s01_ true) I1 J := by
        have e1 : yen_c [] = [] := rfl
        have e2 : yop (0, 0, 0) [] = [] := rfl
        rw [e1, e2, List.append_nil, List.append_nil]; exact h1
      have nt1 : (if nt = true then 1 else 0) ≤ 1 := by split <;> omega
      refine yf_sm77 (pre := ypn pa po nt) (cd0 := cd) hL hn hL1 (ylast_m pl1 (by decide)) (by omega) hV 700 c1 (0, 0, 0) [] true [] k1 pt I1 (by rw [hc1]; split <;> omega) (by simp) ⟨⟨by decide, Or.inl rfl, Or.inl rfl⟩, rfl⟩ (by show cd.length + 0 + 0 + (ypn pa po nt).length ≤ c1; omega) hk1 hp4 (fun e => ⟨rfl, hpt8 e⟩) h2 (fun kk c' I2 es q1 q2 q3 => ?_) (fun l c2 f2 o3 k2 I2 es eo wf n1 n2 hk2 hB2 h3 => ?_)
      · rw [es] at e1
        rw [e1] at hbad
        exact hbad kk c' I2 rfl q1 q2 q3
      · rw [es] at e1
        simp only at e1
        rw [ep] at h3
        have hc2 := h3.2.2.2.2.1
        have e9 := h3.2.2.2.2.2.1
        have e17 := h3.2.2.2.2.2.2.2.2.2.2.1
        have el : l.length = o3.length + yb_ f2.2.2 + yb_ f2.2.1 := by rw [eo, List.length_append, List.length_append, yo_len, yo_len]
        have lx : (yq1 f2.2.2 ++ yq1 f2.2.1).length = yb_ f2.2.2 + yb_ f2.2.1 := by rw [List.length_append, yq1_len, yq1_len]
        have b1 := yb_le f2.2.1
        have b2 := yb_le f2.2.2
        refine yf_jt77 (by omega) hV h3 hk2 (by decide) (ybn_5 n1 n2) (fun _ e4 => ?_) (fun e4 => ?_)
        · have hcm := ybn_4.mp e4
          rw [if_pos hcm] at e1
          have c2L : c2 + 1 ≤ L := by rcases hcm with g | g | g <;> exact yKL hL1 hc2 g (by decide) (by decide)
          unfold wp_X7_joinBy
          have h4 : yA77 b n L I0 c2 (cd ++ yen_c o3) (ypn pa po nt ++ (yq1 f2.2.2 ++ yq1 f2.2.1).reverse) 0 1 0 I2 J := by rw [← yfo_x]; exact h3
          refine yA_uw77 pl1 (by omega) h4 (fun x hx => yel_b (yel_f wf hx) (by decide)) (by omega) (by rw [List.length_append, yen_len, lx]; omega) (fun I5 h5 => ?_)
          have e2 : cd ++ yen_c o3 ++ yneg (yq1 f2.2.2 ++ yq1 f2.2.1) = cd ++ yen_c l := by rw [yng_f wf, eo, List.append_assoc o3, yen_app o3, List.append_assoc]
          rw [e2] at h5
          have g9 := h5.2.2.2.2.2.1
          rw [g9]
          refine yA_hd77 h5 (by omega) (fun I6 h6 => yA_st77 (by omega) (yA_wa77 (yA_pt77 h6)) c2L (fun I7 h7 => ?_))
          have h8 : yA77 b n L I0 (c2 + 1) ((cd ++ yen_c l) ++ yen_c []) ((ypn pa po nt ++ [yk b n c2]) ++ yop (0, 0, 0) []) ([] : List YF).length 2 (s01_ true) I7 J := by
            have e1 : yen_c [] = [] := rfl
            have e2 : yop (0, 0, 0) [] = [] := rfl
            rw [e1, e2, List.append_nil, List.append_nil]; exact h7
          have lp : (ypn pa po nt ++ [yk b n c2]).length = (ypn pa po nt).length + 1 := by rw [List.length_append, List.length_singleton]
          have lc : (cd ++ yen_c l).length = cd.length + l.length := by rw [List.length_append, yen_len]
          refine yf_sm77 (pre := ypn pa po nt ++ [yk b n c2]) (cd0 := cd ++ yen_c l) hL hn hL1 (ylast_1 (ybn_5 n1 n2)) (by omega) hV 700 (c2 + 1) (0, 0, 0) [] true [] (k2 + 1) 2 I7 (by omega) (by simp) ⟨⟨by decide, Or.inl rfl, Or.inl rfl⟩, rfl⟩ (by show (cd ++ yen_c l).length + 0 + 0 + (ypn pa po nt ++ [yk b n c2]).length ≤ c2 + 1; omega) (by omega) (by decide) (fun e => absurd e (by decide)) h8 (fun kk c' I9 es9 q1 q2 q3 => ?_) (fun r c3 f3 o4 k3 I9 es9 eo3 wf3 m1 m2 hk3 hB3 h9 => ?_)
          · rw [es9] at e1
            rw [e1] at hbad
            exact hbad kk c' I9 rfl q1 q2 q3
          · rw [es9] at e1
            simp only at e1
            rw [e1] at hbad hbad2 hok
            simp only at hbad hbad2 hok
            have ep2 : ypt 2 = 2 := by decide
            rw [ep2] at h9
            have hc3 := h9.2.2.2.2.1
            have f9 := h9.2.2.2.2.2.1
            have f17 := h9.2.2.2.2.2.2.2.2.2.2.1
            have el3 : r.length = o4.length + yb_ f3.2.2 + yb_ f3.2.1 := by rw [eo3, List.length_append, List.length_append, yo_len, yo_len]
            have mono1 : c1 ≤ c2 := (ysm_ok hv _ _ _ _ _ _ _ _ es ⟨⟨by decide, Or.inl rfl, Or.inl rfl⟩, rfl⟩ (by simp) (fun x hx => by cases hx) rfl).2.2.1
            have mono2 : c2 + 1 ≤ c3 := (ysm_ok hv _ _ _ _ _ _ _ _ es9 ⟨⟨by decide, Or.inl rfl, Or.inl rfl⟩, rfl⟩ (by simp) (fun x hx => by cases hx) rfl).2.2.1
            have mono0 : c ≤ c1 := by rw [hc1]; split <;> omega
            have xl := yxs_l f3 (yk b n c2) nt pa
            have xe := yxs_e (cm := yk b n c2) (nt := nt) (pa := pa) (o3 := o4) wf3 l cd
            rw [← eo3] at xe
            have xr := yxs_r f3 (yk b n c2) nt pa po
            have pn := ypr_n pa po
            have d1 := yb_le f3.2.1
            have d2 := yb_le f3.2.2
            have ecd : yt1 (nt, l, yk b n c2, r) = yt1 (decide (yk b n c = 8), l, yk b n c2, r) := by rw [hnt]
            have l1 : (yt1 (nt, l, yk b n c2, r)).length = l.length + r.length + 1 + (if nt = true then 1 else 0) := by
              unfold yt1
              rw [List.length_append, List.length_append, yen_len, yen_len, List.length_cons]
              cases nt <;> simp <;> omega
            rw [xr] at h9
            have po1 : (if po = true then [(6 : Int32)] else []).length = if po = true then 1 else 0 := by cases po <;> rfl
            have pol : (if po = true then 1 else 0) ≤ 1 := by split <;> omega
            have pal : (if pa = true then 1 else 0) ≤ 1 := by split <;> omega
            refine yf_jt77 (by omega) hV h9 hk3 (by decide) (ybn_5 m1 m2) (fun e => absurd e (by decide)) (fun _ => ?_)
            -- and
            have jA : yk b n c3 = 7 → wj_X7_takeJoint_j87 (ybn (yk b n c3)) I9 J (some 77) (fun I10 J10 T10 => V (nI (k3 + 1)) I10 J10 T10) := by
              intro y
              rw [if_neg (by rw [y]; decide), if_pos y] at hbad hbad2 hok
              unfold wj_X7_takeJoint_j87 wp_X7_joinBy
              have eb : ybn (yk b n c3) = 2 := by rw [y]; decide
              rw [eb]
              refine yA_uw77 (base := if po = true then [6] else []) (by cases po; exact (fun y hy => by cases hy); exact ylast_1 (l := []) (by decide)) (by omega) h9 (fun x hx => yxs_m wf3 hcm (by decide) hx) (by omega) (by rw [List.length_append, lc, yen_len, xl]; omega) (fun I10 h10 => ?_)
              rw [xe] at h10
              have g9 := h10.2.2.2.2.2.1
              rw [g9, y]
              refine yA_hd77 h10 (by omega) (fun I11 h11 => yA_st77 (by omega) (yA_wa77 (yA_pt77 h11)) (yKL hL1 hc3 y (by decide) (by decide)) (fun I12 h12 => ?_))
              have epr : (if po = true then [(6 : Int32)] else []) ++ [7] = ypr true po := by cases po <;> rfl
              rw [epr] at h12
              have lcd : (cd ++ yt1 (nt, l, yk b n c2, r) ++ if pa = true then [(-8 : Int32)] else []).length = cd.length + (yt1 (nt, l, yk b n c2, r)).length + (if pa = true then 1 else 0) := by
                rw [List.length_append, List.length_append]; cases pa <;> rfl
              have pn2 : (ypr true po).length = (if po = true then 1 else 0) + 1 := by cases po <;> rfl
              refine ih (c3 + 1) false (ws ++ [(bg, (decide (yk b n c = 8), l, yk b n c2, r))]) true po _ (k3 + 1) I12 (by omega) (by rw [lcd, pn2, l1]; omega) (by omega) h12 hbad hbad2 (fun x nw c' I13 es13 k5 hlen h13 => ?_)
              have a1 : ws ++ [(bg, (decide (yk b n c = 8), l, yk b n c2, r))] ++ (false, x) :: nw = ws ++ (bg, (decide (yk b n c = 8), l, yk b n c2, r)) :: (false, x) :: nw := by rw [List.append_assoc]; rfl
              have a2 : cd ++ yt1 (nt, l, yk b n c2, r) ++ (if pa = true then [-8] else []) ++ (yt1 x ++ ytg nw true po) = cd ++ (yt1 (decide (yk b n c = 8), l, yk b n c2, r) ++ ytg ((false, x) :: nw) pa po) := by
                rw [← ecd]
                show _ = cd ++ (yt1 (nt, l, yk b n c2, r) ++ ((if pa = true then [-8] else []) ++ (yt1 x ++ ytg nw true po)))
                simp only [List.append_assoc]
              rw [a1] at es13
              rw [a2] at hlen h13
              exact hok _ _ c' I13 es13 k5 hlen h13
            have base0 : ylast ([] : List Int32) 1 := fun y hy => by cases hy
            have xs2e : (if po = true then [(6 : Int32)] else []) ++ (yxs f3 (yk b n c2) nt pa).reverse = [] ++ (yxs f3 (yk b n c2) nt pa ++ (if po = true then [6] else [])).reverse := by
              rw [List.reverse_append]; cases po <;> simp
            have xs2m : ∀ x, x ∈ yxs f3 (yk b n c2) nt pa ++ (if po = true then [6] else []) → ¬ ybn x < 1 := by
              intro x hx
              rcases List.mem_append.mp hx with g | g
              · exact yxs_m wf3 hcm (by decide) g
              · cases po
                · cases g
                · rw [List.mem_singleton.mp g]; decide
            have xs2l : (yxs f3 (yk b n c2) nt pa ++ (if po = true then [(6 : Int32)] else [])).length = (yxs f3 (yk b n c2) nt pa).length + (if po = true then 1 else 0) := by rw [List.length_append, po1]
            have xs2c : cd ++ yen_c l ++ yen_c o4 ++ yneg (yxs f3 (yk b n c2) nt pa ++ (if po = true then [6] else [])) = cd ++ yt1 (nt, l, yk b n c2, r) ++ (if pa = true then [-8] else []) ++ (if po = true then [-7] else []) := by
              rw [yneg_app, ← List.append_assoc, xe]
              cases po <;> rfl
            -- or
            have jO : yk b n c3 = 6 → wj_X7_takeJoint_j87 (ybn (yk b n c3)) I9 J (some 77) (fun I10 J10 T10 => V (nI (k3 + 1)) I10 J10 T10) := by
              intro y
              rw [if_pos y] at hbad hbad2 hok
              unfold wj_X7_takeJoint_j87 wp_X7_joinBy
              have eb : ybn (yk b n c3) = 1 := by rw [y]; decide
              rw [eb]
              rw [xs2e] at h9
              refine yA_uw77 (base := []) base0 (by simp) h9 xs2m (by rw [xs2l, List.length_nil]; omega) (by rw [List.length_append, lc, yen_len, xs2l, xl]; omega) (fun I10 h10 => ?_)
              rw [xs2c] at h10
              have g9 := h10.2.2.2.2.2.1
              rw [g9, y]
              refine yA_hd77 h10 (by simp) (fun I11 h11 => yA_st77 (by omega) (yA_wa77 (yA_pt77 h11)) (yKL hL1 hc3 y (by decide) (by decide)) (fun I12 h12 => ?_))
              have epr : ([] : List Int32) ++ [6] = ypr false true := rfl
              rw [epr] at h12
              have lcd : (cd ++ yt1 (nt, l, yk b n c2, r) ++ (if pa = true then [(-8 : Int32)] else []) ++ (if po = true then [(-7 : Int32)] else [])).length = cd.length + (yt1 (nt, l, yk b n c2, r)).length + (if pa = true then 1 else 0) + (if po = true then 1 else 0) := by
                rw [List.length_append, List.length_append, List.length_append]; cases pa <;> cases po <;> rfl
              have pn2 : (ypr false true).length = 1 := rfl
              refine ih (c3 + 1) true (ws ++ [(bg, (decide (yk b n c = 8), l, yk b n c2, r))]) false true _ (k3 + 1) I12 (by omega) (by rw [lcd, pn2, l1]; omega) (by omega) h12 hbad hbad2 (fun x nw c' I13 es13 k5 hlen h13 => ?_)
              have a1 : ws ++ [(bg, (decide (yk b n c = 8), l, yk b n c2, r))] ++ (true, x) :: nw = ws ++ (bg, (decide (yk b n c = 8), l, yk b n c2, r)) :: (true, x) :: nw := by rw [List.append_assoc]; rfl
              have a2 : cd ++ yt1 (nt, l, yk b n c2, r) ++ (if pa = true then [-8] else []) ++ (if po = true then [-7] else []) ++ (yt1 x ++ ytg nw false true) = cd ++ (yt1 (decide (yk b n c = 8), l, yk b n c2, r) ++ ytg ((true, x) :: nw) pa po) := by
                rw [← ecd]
                show _ = cd ++ (yt1 (nt, l, yk b n c2, r) ++ ((if pa = true then [-8] else []) ++ ((if po = true then [-7] else []) ++ (yt1 x ++ ytg nw false true))))
                simp only [List.append_assoc]
              rw [a1] at es13
              rw [a2] at hlen h13
              exact hok _ _ c' I13 es13 k5 hlen h13
            have no67 : ¬ yk b n c3 = 7 → ¬ yk b n c3 = 6 → wj_X7_takeJoint_j96 I9 J (some 77) (fun I10 J10 T10 => V (nI (k3 + 1)) I10 J10 T10) := by
              intro y7 y6
              rw [if_neg y6, if_neg y7] at hbad2 hok
              unfold wj_X7_takeJoint_j96 wj_X7_takeJoint_j112
              rw [f17, f9]
              refine ⟨fun _ => ⟨fun y => ?_, fun y => ⟨fun z => absurd z (by decide), fun _ => ?_⟩⟩, fun z => absurd rfl z⟩
              · unfold wj_X7_takeJoint_j129
                rw [xs2e] at h9
                refine yA_uw77 (base := []) base0 (by simp) h9 xs2m (by rw [xs2l, List.length_nil]; omega) (by rw [List.length_append, lc, yen_len, xs2l, xl]; omega) (fun I10 h10 => ?_)
                have e5 : cd ++ yt1 (nt, l, yk b n c2, r) ++ (if pa = true then [-8] else []) ++ (if po = true then [-7] else []) = cd ++ (yt1 (decide (yk b n c = 8), l, yk b n c2, r) ++ ytg [] pa po) := by
                  rw [← ecd]
                  show _ = cd ++ (yt1 (nt, l, yk b n c2, r) ++ ((if pa = true then [-8] else []) ++ (if po = true then [-7] else [])))
                  simp only [List.append_assoc]
                rw [xs2c, e5] at h10
                have h11 := yA_pt77 (k := 4) h10
                refine yf_ov77 hV h11 (hok _ [] c3 _ rfl y ?_ h11)
                rw [← e5]
                have lcd : (cd ++ yt1 (nt, l, yk b n c2, r) ++ (if pa = true then [(-8 : Int32)] else []) ++ (if po = true then [(-7 : Int32)] else [])).length = cd.length + (yt1 (nt, l, yk b n c2, r)).length + (if pa = true then 1 else 0) + (if po = true then 1 else 0) := by
                  rw [List.length_append, List.length_append, List.length_append]; cases pa <;> cases po <;> rfl
                rw [lcd, l1]; omega
              · unfold wj_X7_takeJoint_j142
                exact yA_bl77 (by omega) h9 (fun I10 q1 q2 q3 => yf_bad77 hV ykp2 q2 (hbad2 _ c3 I10 rfl y q1 q2 q3))
            unfold wj_X7_takeJoint_j61
            rw [f17, f9]
            exact ⟨fun _ => ⟨fun y => jA y, fun y7 => ⟨fun y => jO y, fun y6 => no67 y7 y6⟩⟩, fun z => absurd rfl z⟩
        · have no : ¬ (yk b n c2 = 60 ∨ yk b n c2 = 62 ∨ yk b n c2 = 61) := fun z => e4 ⟨rfl, ybn_4.mpr z⟩
          rw [if_neg no] at e1
          rw [e1] at hbad
          unfold wj_X7_takeJoint_j61 wj_X7_takeJoint_j96 wj_X7_takeJoint_j112
          rw [e17]
          have bl : wj_X7_takeJoint_j142 I2 J (some 77) (fun I10 J10 T10 => V (nI (k2 + 1)) I10 J10 T10) := by
            unfold wj_X7_takeJoint_j142
            exact yA_bl77 (by omega) h3 (fun I10 q1 q2 q3 => yf_bad77 hV ykp2 q2 (hbad 2 c2 I10 rfl q1 q2 q3))
          exact ⟨fun z => absurd z (by decide), fun _ => ⟨fun z => absurd z (by decide), fun _ => ⟨fun z => absurd z (by decide), fun _ => bl⟩⟩⟩
    by_cases h8 : yk b n c = 8
    · have e7 := h.2.2.1
      have e9 := h.2.2.2.2.2.1
      have e10 := h.2.2.2.2.2.2.1
      have e17 := h.2.2.2.2.2.2.2.2.2.2.1
      have e18 := h.2.2.2.2.2.2.2.2.2.2.2.1
      have hcL := yKL hL1 hc h8 (by decide) (by decide)
      apply hV
      unfold wb_X7_takeFormula_22
      rw [e7, e10, e17, e18]
      refine ⟨fun _ => ⟨fun _ => ⟨fun z => absurd z (by decide), fun _ => ⟨fun z => absurd z (by decide), fun _ => ?_⟩⟩, fun z => absurd rfl z⟩, fun z => absurd ((yi_lt (by omega) (by omega)).mpr (by omega)) z⟩
      unfold wp_X7_takeAtom wj_X7_takeAtom_j12
      rw [e17]
      refine ⟨fun _ => ⟨fun z => absurd z (by decide), fun _ => ?_⟩, fun z => absurd rfl z⟩
      unfold wj_X7_takeAtom_j26_k44 wp_X7_isVariable
      have h1 : yA77 b n L I0 c cd (ypr pa po) 0 1 1 (ix_u2 I 44 17 1) J := yA_pt77 h
      have g9 : (ix_u2 I 44 17 1) 44 9 = yk b n c := h1.2.2.2.2.2.1
      rw [e9]
      refine ⟨fun z => absurd (h8.symm.trans z) (by decide), fun _ => ⟨fun _ => ⟨fun _ => ?_, fun z => absurd rfl z⟩, fun z => absurd (by rw [h8]; decide) z⟩⟩
      rw [g9]
      refine ⟨fun z => absurd (h8.symm.trans z) (by decide), fun _ => ⟨fun z => absurd (h8.symm.trans z) (by decide), fun _ => ⟨fun z => absurd (h8.symm.trans z) (by decide), fun _ => ⟨fun z => absurd z (by decide), fun _ => ⟨fun _ => ?_, fun z => absurd h8 z⟩⟩⟩⟩⟩
      rw [h8]
      refine yA_hd77 h1 (by omega) (fun I2 h2 => yA_st77 (by omega) h2 hcL (fun I3 h3 => ?_))
      rw [nI_1]
      have en : ypr pa po ++ [8] = ypn pa po true := rfl
      rw [en] at h3
      exact rest true (c + 1) (k + 1) 1 I3 (by rw [decide_eq_true h8]) (by rw [if_pos h8]) (by omega) (Or.inr rfl) (fun e => absurd e (by decide)) (by rw [(ypn_l pa po true).2]; simp only [if_pos]; omega) h3
    · have en : ypn pa po false = ypr pa po := List.append_nil _
      exact rest false c k 0 I (by rw [decide_eq_false h8]) (by rw [if_neg h8]) hk (Or.inl rfl) (fun _ => h8) (by rw [en]; exact hB) (by rw [en]; exact h)
