/-! treaties: what mail is charged, on both sides -/
theorem rX_ {I : Nat → Nat → Int32} {i : Nat} (h : i < 44) : bI I 51 44 i = I (51 + i) := funext fun _ => bI_lt h
theorem rx_ {I : Nat → Nat → Int32} {i : Nat} (h : i < 36) : bI I 59 36 i = I (59 + i) := funext fun _ => bI_lt h
theorem rXx {I : Nat → Nat → Int32} {i j : Nat} (h : i < 44) (e : i = j + 8) : bI I 51 44 i = bI I 59 36 j := by
  rw [rX_ h, rx_ (by omega), e, show 51 + (j + 8) = 59 + j by omega]
def rC_ (I : Nat → Nat → Int32) (V : Nat → Int64) : Prop := ∃ n g : Nat, n ≤ 4 ∧ g ≤ 40 ∧ I 51 0 = nI n ∧ I 51 3 = nI g ∧ (∀ k, k < g → I 58 k = 0 ∨ I 58 k = 1) ∧ ∀ j, j < n → ∃ k : Nat, k ≤ 12 ∧ bI I 51 44 (8 + 9 * j) 0 = nI k ∧ ∀ q, q < k → rc_ok (bI I 51 44) V j q
def tw_ (I : Nat → Nat → Int32) (J : Nat → Nat → Int64) : Prop := RL_trty I J ∧ RL_resv I
theorem rC_of {I : Nat → Nat → Int32} {J : Nat → Nat → Int64} (h : tw_ I J) (V : Nat → Int64) : rC_ I V := by
  obtain ⟨n, S, O, hn, e1, e2, e3, hS, e4, hO, ht⟩ := h.1
  obtain ⟨g, hg, g1, g2, hr⟩ := h.2
  refine ⟨n, g, hn, hg, e1, g1, fun k hk => (hr k hk).2.2.2.1, fun j hj => ?_⟩
  obtain ⟨-, k, hk, k1, k2, hc⟩ := ht j hj
  refine ⟨k, hk, ?_, fun q hq => ?_⟩
  · rw [rXx (j := 9 * j) (by omega) (by omega)]; exact k1
  · obtain ⟨-, -, -, -, t, u, e, a, b, c, d, h1, h2, h3, h4, h5, e5, e6, e7, e8, e9, e10, e11, h6, h7, h8⟩ := hc q hq
    unfold rc_ok
    rw [rXx (i := 12 + 9 * j) (j := 9 * j + 4) (by omega) (by omega), rXx (i := 13 + 9 * j) (j := 9 * j + 5) (by omega) (by omega), rXx (i := 14 + 9 * j) (j := 9 * j + 6) (by omega) (by omega), rXx (i := 15 + 9 * j) (j := 9 * j + 7) (by omega) (by omega)]
    refine ⟨t, u, e, h1, h2, h3, e5, e6, e7, ?_, ?_⟩
    · rcases h8 with ⟨h, -⟩ | ⟨h, h9, h10⟩
      · exact Or.inl h
      · right
        rw [h10]
        exact ⟨_, hq_sv h (fun k ha hb => (h9 k ha hb).2.2)⟩
    · rw [h7]
      obtain ⟨-, -, -, d, -, h9⟩ := h6
      exact ⟨_, sv_ok h9 (by simp)⟩
theorem fn_cf {V : Nat → Int64} {a0 : Int32} {I : Nat → Nat → Int32} {J : Nat → Nat → Int64} {T : Option Nat} {P : Int32 → (Nat → Nat → Int32) → (Nat → Nat → Int64) → Option Nat → Prop} (h : rC_ I V) (hv : ∀ k, k < 7 → J 96 k = V k) (hP : ∀ J2, fr_off [(67, 68, 0, 2147483648), (76, 77, 0, 2147483648), (85, 86, 0, 2147483648), (94, 95, 0, 2147483648)] J J2 → P (fv_ (cr_ (bI I 51 44) V a0 (I 95 0) (I 95 1) (if a0 = 0 then I 95 1 else I 95 2) (I 95 3))) I J2 T) : wp_X8_clauseFor a0 I J T P := by
  obtain ⟨n, g, hn, hg, e1, e2, h58, hj⟩ := h
  have et : tj_ (bI I 51 44) (I 95 3) = (sc_f (I 53) (I 95 3 / 365) n).1 := by
    have : tj_ (bI I 51 44) (I 95 3) = (sc_f (I 53) (I 95 3 / 365) (I 51 0).toNatClampNeg).1 := rfl
    rw [this, e1, nI_clamp (show n < 2 ^ 31 by omega)]
  unfold wp_X8_clauseFor wp_X6_year
  refine lp_holdC hn e1 ?_
  unfold cr_ at hP
  rw [et] at hP
  rcases sc_f_ok (Y := I 53) (y := I 95 3 / 365) (n := n) with e | ⟨j, hjn, e⟩
  · rw [e] at hP ⊢
    rw [if_pos rfl] at hP
    exact ⟨fun _ => ⟨fun _ => hP J fr_refl, fun z => absurd rfl z⟩, fun z => absurd (by decide) z⟩
  · rw [e] at hP ⊢
    have nj : ¬ nI j = -1 := nI_nm1 (by omega)
    rw [if_neg nj, nI_clamp (show j < 2 ^ 31 by omega)] at hP
    obtain ⟨k, hk, k1, hr⟩ := hj j hjn
    unfold wp_X8_has wp_X6_to wp_X6_via
    rw [e1]
    refine ⟨fun z => absurd z (nI_nlt (a := j) (b := 0) (by omega) (by omega)), fun _ => ⟨fun _ => ⟨fun z => absurd z (by decide), fun _ => ⟨nI_in2 (by omega) (by decide), ?_⟩⟩, fun z => absurd (nI_lt (a := j) (b := n) hjn (by omega)) z⟩⟩
    have j0 : nI j = 0 ↔ j = 0 := nI_eq (a := j) (b := 0) (by omega) (by omega)
    have j1 : nI j = 1 ↔ j = 1 := nI_eq (a := j) (b := 1) (by omega) (by omega)
    have j2 : nI j = 2 ↔ j = 2 := nI_eq (a := j) (b := 2) (by omega) (by omega)
    have j3 : nI j = 3 ↔ j = 3 := nI_eq (a := j) (b := 3) (by omega) (by omega)
    refine ⟨fun z => ?_, fun z => ?_, fun z => ?_, fun z => ?_⟩
    · have z := j0.mp z
      subst z
      refine ⟨fun c => ?_, fun c => ?_⟩
      · rw [if_pos c] at hP
        exact lp_cf59 (V := V) (k := k) (g := g) hk hg k1 e2 h58 rfl rfl rfl hv hr (fun J2 o2 => hP J2 (fr_mono (by decide) o2))
      · rw [if_neg c] at hP
        exact lp_cf59 (V := V) (k := k) (g := g) hk hg k1 e2 h58 rfl rfl rfl hv hr (fun J2 o2 => hP J2 (fr_mono (by decide) o2))
    · have z := j1.mp z
      subst z
      refine ⟨fun c => ?_, fun c => ?_⟩
      · rw [if_pos c] at hP
        exact lp_cf68 (V := V) (k := k) (g := g) hk hg k1 e2 h58 rfl rfl rfl hv hr (fun J2 o2 => hP J2 (fr_mono (by decide) o2))
      · rw [if_neg c] at hP
        exact lp_cf68 (V := V) (k := k) (g := g) hk hg k1 e2 h58 rfl rfl rfl hv hr (fun J2 o2 => hP J2 (fr_mono (by decide) o2))
    · have z := j2.mp z
      subst z
      refine ⟨fun c => ?_, fun c => ?_⟩
      · rw [if_pos c] at hP
        exact lp_cf77 (V := V) (k := k) (g := g) hk hg k1 e2 h58 rfl rfl rfl hv hr (fun J2 o2 => hP J2 (fr_mono (by decide) o2))
      · rw [if_neg c] at hP
        exact lp_cf77 (V := V) (k := k) (g := g) hk hg k1 e2 h58 rfl rfl rfl hv hr (fun J2 o2 => hP J2 (fr_mono (by decide) o2))
    · have z := j3.mp z
      subst z
      refine ⟨fun c => ?_, fun c => ?_⟩
      · rw [if_pos c] at hP
        exact lp_cf86 (V := V) (k := k) (g := g) hk hg k1 e2 h58 rfl rfl rfl hv hr (fun J2 o2 => hP J2 (fr_mono (by decide) o2))
      · rw [if_neg c] at hP
        exact lp_cf86 (V := V) (k := k) (g := g) hk hg k1 e2 h58 rfl rfl rfl hv hr (fun J2 o2 => hP J2 (fr_mono (by decide) o2))
theorem fn_ch {V : Nat → Int64} {a0 : Int32} {I : Nat → Nat → Int32} {J : Nat → Nat → Int64} {T : Option Nat} {P : Int64 → (Nat → Nat → Int32) → (Nat → Nat → Int64) → Option Nat → Prop} (h : rC_ I V) (hv : ∀ k, k < 7 → J 96 k = V k) (hP : ∀ J2, fr_off [(67, 68, 0, 2147483648), (76, 77, 0, 2147483648), (85, 86, 0, 2147483648), (94, 95, 0, 2147483648)] J J2 → P (ow_ (bI I 51 44) V a0 (I 95 0) (I 95 1) (if a0 = 0 then I 95 1 else I 95 2) (I 95 3)) I J2 T) : wp_X8_charge a0 I J T P := by
  unfold wp_X8_charge
  refine fn_cf h hv (fun J2 o2 => ?_)
  obtain ⟨n, g, hn, hg, e1, e2, h58, hj⟩ := h
  have et : tj_ (bI I 51 44) (I 95 3) = (sc_f (I 53) (I 95 3 / 365) n).1 := by
    have : tj_ (bI I 51 44) (I 95 3) = (sc_f (I 53) (I 95 3 / 365) (I 51 0).toNatClampNeg).1 := rfl
    rw [this, e1, nI_clamp (show n < 2 ^ 31 by omega)]
  have hv2 : ∀ k, k < 7 → J2 96 k = V k := by rw [fr_rw1 o2 96 rfl]; exact hv
  unfold wp_X6_year
  refine lp_holdC hn e1 ?_
  unfold ow_ at hP
  generalize hx : (if a0 = 0 then I 95 1 else I 95 2) = x at hP ⊢
  cases hc : cr_ (bI I 51 44) V a0 (I 95 0) (I 95 1) x (I 95 3) with
  | none =>
    rw [hc] at hP
    exact ⟨fun _ => hP J2 o2, fun z => absurd rfl z⟩
  | some q =>
    rw [hc] at hP
    have hP : ∀ J2, fr_off [(67, 68, 0, 2147483648), (76, 77, 0, 2147483648), (85, 86, 0, 2147483648), (94, 95, 0, 2147483648)] J J2 → P (mx_ 0 (mn_ 1000000000000 (os_ (bI I 51 44) V (tj_ (bI I 51 44) (I 95 3)).toNatClampNeg q))) I J2 T := hP
    unfold cr_ at hc
    rw [et] at hc hP
    rcases sc_f_ok (Y := I 53) (y := I 95 3 / 365) (n := n) with e | ⟨j, hjn, e⟩
    · rw [e, if_pos rfl] at hc
      cases hc
    · rw [e] at hP hc ⊢
      have nj : ¬ nI j = -1 := nI_nm1 (by omega)
      rw [if_neg nj, nI_clamp (show j < 2 ^ 31 by omega)] at hc
      rw [nI_clamp (show j < 2 ^ 31 by omega)] at hP
      obtain ⟨k, hk, k1, hr⟩ := hj j hjn
      have hq := (fi_lt hc).2
      rw [k1, nI_clamp (show k < 2 ^ 31 by omega)] at hq
      have hr := hr q (by omega)
      unfold wp_X8_has
      rw [e1]
      refine ⟨fun z => absurd z (nI_nm1 (by omega)), fun _ => ⟨fun z => absurd z (nI_nlt (a := j) (b := 0) (by omega) (by omega)), fun _ => ⟨fun _ => ⟨fun z => absurd z (by decide), fun _ => ⟨nI_in2 (by omega) (by decide), ?_⟩⟩, fun z => absurd (nI_lt (a := j) (b := n) hjn (by omega)) z⟩⟩⟩
      have j0 : nI j = 0 ↔ j = 0 := nI_eq (a := j) (b := 0) (by omega) (by omega)
      have j1 : nI j = 1 ↔ j = 1 := nI_eq (a := j) (b := 1) (by omega) (by omega)
      have j2 : nI j = 2 ↔ j = 2 := nI_eq (a := j) (b := 2) (by omega) (by omega)
      have j3 : nI j = 3 ↔ j = 3 := nI_eq (a := j) (b := 3) (by omega) (by omega)
      refine ⟨fun z => ?_, fun z => ?_, fun z => ?_, fun z => ?_⟩
      · have z := j0.mp z
        subst z
        exact fn_su59 (V := V) (by omega) hv2 hr (fun J3 o3 => fn_mn (fn_mx (hP J3 (fr_trans o2 (fr_mono (by decide) o3)))))
      · have z := j1.mp z
        subst z
        exact fn_su68 (V := V) (by omega) hv2 hr (fun J3 o3 => fn_mn (fn_mx (hP J3 (fr_trans o2 (fr_mono (by decide) o3)))))
      · have z := j2.mp z
        subst z
        exact fn_su77 (V := V) (by omega) hv2 hr (fun J3 o3 => fn_mn (fn_mx (hP J3 (fr_trans o2 (fr_mono (by decide) o3)))))
      · have z := j3.mp z
        subst z
        exact fn_su86 (V := V) (by omega) hv2 hr (fun J3 o3 => fn_mn (fn_mx (hP J3 (fr_trans o2 (fr_mono (by decide) o3)))))
/-- reserves, for the reference -/
theorem rO_ {I : Nat → Nat → Int32} {J : Nat → Nat → Int64} (h : tw_ I J) {g j q : Nat} {a day : Int32} (eg : I 51 3 = nI g) (hg : g ≤ 40) (hj : j < 4) (hq : q < 12) : (sc_o (fun k => decide (I 237 k = a ∧ I 238 k = nI (12 * j + q))) (I 239) (I 240) day g).1 = ou_ (bI I 51 44) a (nI j) (nI q) day := by
  obtain ⟨g', hg', g1, g2, hr⟩ := h.2
  have : g' = g := (nI_eq (by omega) (by omega)).mp (g1.symm.trans eg)
  subst this
  have : ou_ (bI I 51 44) a (nI j) (nI q) day = (sc_o (fun k => decide (I 54 k = a ∧ I 55 k = nI j ∧ I 56 k = nI q)) (I 57) (I 58) day (I 51 3).toNatClampNeg).1 := rfl
  rw [this, eg, nI_clamp (show g' < 2 ^ 31 by omega)]
  refine congrArg Prod.fst (sc_o_congr (fun k hk => ?_))
  obtain ⟨r1, r2, r3, -, i, l, hi, hl, r4, r5, r6⟩ := hr k hk
  refine ⟨?_, r2.symm, r3.symm⟩
  rw [← r1, r4, r5, r6]
  have x1 : nI (12 * i + l) = nI (12 * j + q) ↔ 12 * i + l = 12 * j + q := nI_eq (by omega) (by omega)
  have x2 : nI i = nI j ↔ i = j := nI_eq (by omega) (by omega)
  have x3 : nI l = nI q ↔ l = q := nI_eq (by omega) (by omega)
  exact decide_eq_decide.mpr (and_congr Iff.rfl (by rw [x1, x2, x3]; omega))
theorem co_sb {x1 x2 x3 x4 x5 th fr to x : Int32} {c : Nat} (hc : c < 60) {I : Nat → Nat → Int32} {J : Nat → Nat → Int64} {T : Option Nat} {P : Int32 → (Nat → Nat → Int32) → (Nat → Nat → Int64) → Option Nat → Prop} {V26 : Int32 → Int32 → Int32 → Int32 → Int32 → Int32 → (Nat → Nat → Int32) → (Nat → Nat → Int64) → Option Nat → Prop} (hx : (x4 = -1 ∧ x = 0) ∨ (¬ x4 = -1 ∧ x = 1)) (et : th = I 217 c) (ht : th = 0 ∨ th = 1) (hf : (fr = 0 ∧ I 218 c = -1) ∨ ∃ m : Nat, 0 < m ∧ m < 128 ∧ fr = nI m ∧ I 218 c = nI m) (ho : (to = 0 ∧ I 219 c = -1) ∨ ∃ m : Nat, 0 < m ∧ m < 128 ∧ to = nI m ∧ I 219 c = nI m) (h1 : sb_ th fr to x x1 x2 = true → wj_X12_clauseOf_j130_26 x1 x2 x3 x4 x5 (nI c) I J T V26 P) (h0 : sb_ th fr to x x1 x2 = false → wj_X12_clauseOf_j178_26 x1 x2 x3 x4 x5 (nI c) I J T V26 P) : (I 217 c = 1 → wj_X12_clauseOf_j60_26 x1 x2 x3 x4 x5 (nI c) 1 I J T V26 P) ∧ (¬ I 217 c = 1 → wj_X12_clauseOf_j60_26 x1 x2 x3 x4 x5 (nI c) 0 I J T V26 P) := by
  have c5 : (nI c).toNatClampNeg = c := nI_clamp (by omega)
  have ic : ix_inb (nI c) 60 = true := nI_in2 hc (by decide)
  have to1 : decide (th = x) = true → (decide (fr = 0) || !decide ((fr >>> (x1 &&& 31)) &&& 1 = 0)) = true → wj_X12_clauseOf_j102_26 x1 x2 x3 x4 x5 (nI c) I J T V26 P := fun q1 q2 => by
    unfold sb_ at h1 h0
    rw [q1, q2, Bool.true_and, Bool.true_and] at h1 h0
    unfold wj_X12_clauseOf_j102_26
    rw [c5]
    rcases ho with ⟨o1, o2⟩ | ⟨m, m1, m2, o1, o2⟩
    · rw [decide_eq_true o1] at h1
      exact ⟨ic, fun _ => h1 rfl, fun z => absurd o2 z⟩
    · have n0 : ¬ to = 0 := fun z => by rw [o1] at z; exact absurd ((nI_eq (a := m) (b := 0) (by omega) (by omega)).mp z) (by omega)
      rw [decide_eq_false n0, Bool.false_or] at h1 h0
      rw [o2, ← o1]
      refine ⟨ic, fun z => absurd (by rw [← o1]; exact z) (nI_nm1 (m := m) (by omega)), fun _ => ⟨ic, fun z => ?_, fun z => ?_⟩⟩
      · rw [decide_eq_true z] at h0; exact h0 rfl
      · rw [decide_eq_false z] at h1; exact h1 rfl
  have fr1 : decide (th = x) = true → ix_inb (nI c) 60 = true ∧ ((I 218 c = (-1 : Int32) → wj_X12_clauseOf_j102_26 x1 x2 x3 x4 x5 (nI c) I J T V26 P) ∧ (¬ (I 218 c = (-1 : Int32)) → ix_inb (nI c) 60 = true ∧ ((((I 218 c) >>> ((x1) &&& 31)) &&& ((1 : Int32)) = 0 → wj_X12_clauseOf_j178_26 x1 x2 x3 x4 x5 (nI c) I J T V26 P) ∧ (¬ (((I 218 c) >>> ((x1) &&& 31)) &&& ((1 : Int32)) = 0) → wj_X12_clauseOf_j102_26 x1 x2 x3 x4 x5 (nI c) I J T V26 P)))) := fun q1 => by
    rcases hf with ⟨o1, o2⟩ | ⟨m, m1, m2, o1, o2⟩
    · have := to1 q1 (by rw [decide_eq_true o1]; rfl)
      exact ⟨ic, fun _ => this, fun z => absurd o2 z⟩
    · have n0 : ¬ fr = 0 := fun z => by rw [o1] at z; exact absurd ((nI_eq (a := m) (b := 0) (by omega) (by omega)).mp z) (by omega)
      rw [o2, ← o1]
      refine ⟨ic, fun z => absurd (by rw [← o1]; exact z) (nI_nm1 (m := m) (by omega)), fun _ => ⟨ic, fun z => ?_, fun z => ?_⟩⟩
      · unfold sb_ at h0
        rw [q1, decide_eq_false n0, decide_eq_true z] at h0
        exact h0 rfl
      · exact to1 q1 (by rw [decide_eq_false z]; simp)
  have no : ¬ th = x → wj_X12_clauseOf_j178_26 x1 x2 x3 x4 x5 (nI c) I J T V26 P := fun q => by
    unfold sb_ at h0
    rw [decide_eq_false q] at h0
    exact h0 rfl
  unfold wj_X12_clauseOf_j60_26 wj_X12_clauseOf_j71_26
  rw [c5]
  rw [← et]
  rcases hx with ⟨y1, y2⟩ | ⟨y1, y2⟩
  · rcases ht with t0 | t0
    · exact ⟨fun z => absurd (t0.symm.trans z) (by decide), fun _ => ⟨fun _ => ⟨fun _ => fr1 (decide_eq_true (t0.trans y2.symm)), fun z => absurd rfl z⟩, fun z => absurd y1 z⟩⟩
    · exact ⟨fun _ => ⟨fun _ => ⟨fun z => absurd z (by decide), fun _ => no (by rw [t0, y2]; decide)⟩, fun z => absurd y1 z⟩, fun z => absurd t0 z⟩
  · rcases ht with t0 | t0
    · exact ⟨fun z => absurd (t0.symm.trans z) (by decide), fun _ => ⟨fun z => absurd z y1, fun _ => ⟨fun z => absurd z (by decide), fun _ => no (by rw [t0, y2]; decide)⟩⟩⟩
    · exact ⟨fun _ => ⟨fun z => absurd z y1, fun _ => ⟨fun _ => fr1 (decide_eq_true (t0.trans y2.symm)), fun z => absurd rfl z⟩⟩, fun z => absurd t0 z⟩
def mv_ (j : Nat) : Option Nat → Int32
  | none => -1
  | some q => nI (12 * j + q)
theorem fn_co {V : Nat → Int64} {a b day via x1 c : Int32} {I : Nat → Nat → Int32} {J : Nat → Nat → Int64} {T : Option Nat} {P : Int32 → (Nat → Nat → Int32) → (Nat → Nat → Int64) → Option Nat → Prop} (h : tw_ I J) (hx : (via = -1 ∧ x1 = 0 ∧ c = b) ∨ (¬ via = -1 ∧ x1 = 1 ∧ c = via)) (hv : ∀ k, k < 7 → J 241 k = V k) (hP : ∀ J2, fr_off [(242, 243, 0, 2147483648)] J J2 → P (mv_ (tj_ (bI I 51 44) day).toNatClampNeg (cr_ (bI I 51 44) V x1 a b c day)) I J2 T) : wp_X12_clauseOf a b day via I J T P := by
  obtain ⟨n, S, O, hn, e1, e2, e3, hS, e4, hO, ht⟩ := h.1
  obtain ⟨g, hg, g1, g2, hr⟩ := h.2
  have h240 : ∀ k, k < g → I 240 k = 0 ∨ I 240 k = 1 := fun k hk => by rw [← (hr k hk).2.2.1]; exact (hr k hk).2.2.2.1
  have et : tj_ (bI I 51 44) day = (sc_f (I 215) (day / 365) n).1 := by
    have : tj_ (bI I 51 44) day = (sc_f (I 53) (day / 365) (I 51 0).toNatClampNeg).1 := rfl
    rw [this, e1, nI_clamp (show n < 2 ^ 31 by omega)]
    refine congrArg Prod.fst (sc_f_congr (fun k hk => ?_))
    obtain ⟨⟨y, -, y1, y2⟩, -⟩ := ht k hk
    rw [y1, y2]
  unfold wp_X12_clauseOf
  refine lp_forceM hn e2 (fun k hk => ?_) ?_
  · obtain ⟨⟨y, y0, y1, y2⟩, -⟩ := ht k hk
    exact ⟨y, y0, y2⟩
  unfold cr_ at hP
  rw [et] at hP
  rcases sc_f_ok (Y := I 215) (y := day / 365) (n := n) with e | ⟨j, hjn, e⟩
  · rw [e] at hP ⊢
    rw [if_pos rfl] at hP
    exact ⟨fun _ => hP J fr_refl, fun z => absurd rfl z⟩
  rw [e] at hP ⊢
  have nj : ¬ nI j = -1 := nI_nm1 (by omega)
  rw [if_neg nj, nI_clamp (show j < 2 ^ 31 by omega)] at hP
  obtain ⟨-, k, hk, k1, k2, hc⟩ := ht j hjn
  have hcl : cl_ (bI I 51 44) V x1 a b c day j = fi_ (oq_ (bI I 51 44) V x1 a b c day j) k 0 := by
    unfold cl_
    rw [rXx (i := 8 + 9 * j) (j := 9 * j) (by omega) (by omega), k1, nI_clamp (show k < 2 ^ 31 by omega)]
  rw [hcl] at hP
  refine ⟨fun z => absurd z nj, fun _ => ?_⟩
  have ij : ix_inb (nI j) 5 = true := nI_in2 (by omega) (by decide)
  have j5 : (nI j).toNatClampNeg = j := nI_clamp (by omega)
  intro U hU
  have key : ∀ (m q : Nat) (J1 : Nat → Nat → Int64), q + m = k → fr_off [(242, 243, 0, 2147483648)] J J1 → fi_ (oq_ (bI I 51 44) V x1 a b c day j) m q = fi_ (oq_ (bI I 51 44) V x1 a b c day j) k 0 → U a b day via (nI j) (nI (12 * j + q)) I J1 T := by
    intro m
    induction m with
    | zero =>
      intro q J1 hq oj e
      have hq : q = k := by omega
      subst hq
      apply hU
      unfold wb_X12_clauseOf_26
      rw [j5, k2, show (12 : Int32) = nI 12 from rfl, nI_mul, nI_add]
      have hp := hP J1 oj
      rw [← e] at hp
      exact ⟨ij, fun z => absurd z (nI_nlt (Nat.le_refl _) (by omega)), fun _ => hp⟩
    | succ m ih =>
      intro q J1 hq oj e
      have hq12 : q < 12 := by omega
      have c60 : 12 * j + q < 60 := by omega
      have c5 : (nI (12 * j + q)).toNatClampNeg = 12 * j + q := nI_clamp (by omega)
      have ic : ix_inb (nI (12 * j + q)) 60 = true := nI_in2 c60 (by decide)
      obtain ⟨q1, q2, q3, q4, t, u, ee, oa, ob, sa, sb, h1, h2, h3, h4, h5, e5, e6, e7, e8, e9, e10, e11, h6, h7, h8⟩ := hc q (by omega)
      have eq : oq_ (bI I 51 44) V x1 a b c day j q = (sb_ (bI I 59 36 (9 * j + 1) q) (bI I 59 36 (9 * j + 2) q) (bI I 59 36 (9 * j + 3) q) x1 a b && (decide (ou_ (bI I 51 44) a (nI j) (nI q) day = 0) && (decide (ou_ (bI I 51 44) c (nI j) (nI q) day = 0) && hc_ (bI I 51 44) V j q))) := by
        unfold oq_
        rw [rXx (i := 9 + 9 * j) (j := 9 * j + 1) (by omega) (by omega), rXx (i := 10 + 9 * j) (j := 9 * j + 2) (by omega) (by omega), rXx (i := 11 + 9 * j) (j := 9 * j + 3) (by omega) (by omega)]
      rw [← rO_ h g1 hg (by omega) hq12, ← rO_ h g1 hg (by omega) hq12] at eq
      have eh : hc_ (bI I 51 44) V j q = hq_ V (I 232) (J 233) (tn_ (I 225)) (tn_ (I 226)) (tn_ (I 227)) (tn_ (I 228)) (I 229) (I 230) (I 231) oa ob := by
        unfold hc_
        rw [rXx (i := 12 + 9 * j) (j := 9 * j + 4) (by omega) (by omega), rXx (i := 13 + 9 * j) (j := 9 * j + 5) (by omega) (by omega), rXx (i := 15 + 9 * j) (j := 9 * j + 7) (by omega) (by omega), tn_of e5 (by omega), tn_of e6 (by omega), e5, e6]
        rcases h8 with ⟨y1, y2⟩ | ⟨y1, y2, y3⟩
        · rw [decide_eq_true (by rw [y1]), Bool.true_or]
          unfold hq_
          rw [if_pos y2]
        · have y4 := hq_sv (V := V) y1 (fun k ha hb => (y2 k ha hb).2.2)
          rw [y3, sv_of y4]
          have : ¬ t = u := fun y => by
            rw [← y3, y, Nat.sub_self] at y4
            cases y4
          rw [decide_eq_false (fun z => this ((nI_eq (by omega) (by omega)).mp z)), Bool.false_or]
          cases hq_ V (I 232) (J 233) (tn_ (I 225)) (tn_ (I 226)) (tn_ (I 227)) (tn_ (I 228)) (I 229) (I 230) (I 231) oa ob <;> rfl
      rw [fi_, eq, eh] at e
      have j3 : J1 233 = J 233 := fr_rw1 oj 233 rfl
      have j4 : J1 241 = J 241 := fr_rw1 oj 241 rfl
      have hv1 : ∀ k, k < 7 → J1 241 k = V k := by rw [j4]; exact hv
      have no : ∀ J2, fr_off [(242, 243, 0, 2147483648)] J J2 → fi_ (oq_ (bI I 51 44) V x1 a b c day j) m (q + 1) = fi_ (oq_ (bI I 51 44) V x1 a b c day j) k 0 → wj_X12_clauseOf_j178_26 a b day via (nI j) (nI (12 * j + q)) I J2 T U P := fun J2 o2 e2 => by
        unfold wj_X12_clauseOf_j178_26
        rw [nI_1]
        exact ih (q + 1) J2 (by omega) o2 e2
      apply hU
      unfold wb_X12_clauseOf_26
      rw [j5, k2, c5, show (12 : Int32) = nI 12 from rfl, nI_mul, nI_add]
      refine ⟨ij, fun _ => ⟨ic, ?_⟩, fun z => absurd (nI_lt (by omega) (by omega)) z⟩
      refine co_sb (x := x1) (th := bI I 59 36 (9 * j + 1) q) (fr := bI I 59 36 (9 * j + 2) q) (to := bI I 59 36 (9 * j + 3) q) c60 (hx.imp (fun y => ⟨y.1, y.2.1⟩) (fun y => ⟨y.1, y.2.1⟩)) q1 q2 q3 q4 (fun b1 => ?_) (fun b1 => ?_)
      · rw [b1, Bool.true_and] at e
        unfold wj_X12_clauseOf_j130_26 wp_X12_outOf
        refine lp_outM hg g2 h240 ⟨fun c2 => ?_, fun c2 => ?_⟩
        · rw [decide_eq_true c2, Bool.true_and] at e
          have lst : wj_X12_clauseOf_j154_26_k204 a b day via (nI j) (nI (12 * j + q)) c I J1 T U P := by
            unfold wj_X12_clauseOf_j154_26_k204 wp_X12_outOf
            refine lp_outM hg g2 h240 ⟨fun c3 => ?_, fun c3 => ?_⟩
            · rw [decide_eq_true c3, Bool.true_and] at e
              refine fn_holds (V := V) (S := S) (a := oa) (b := ob) c60 h4 (by omega) (by omega) e8 e9 hv1 (fun k y1 y2 => ?_) (fun J2 o2 => ?_)
              · rw [j3]
                rcases h8 with ⟨-, z2⟩ | ⟨-, z2, -⟩
                · omega
                · exact z2 k y1 y2
              · rw [j3]
                cases hq : hq_ V (I 232) (J 233) (tn_ (I 225)) (tn_ (I 226)) (tn_ (I 227)) (tn_ (I 228)) (I 229) (I 230) (I 231) oa ob with
                | true =>
                  rw [hq] at e
                  have hp := hP J2 (fr_trans oj o2)
                  rw [← e] at hp
                  exact ⟨fun z => absurd z (by decide), fun _ => hp⟩
                | false =>
                  rw [hq] at e
                  exact ⟨fun _ => no J2 (fr_trans oj o2) e, fun z => absurd rfl z⟩
            · rw [decide_eq_false c3] at e
              exact no J1 oj e
          rcases hx with ⟨y1, y2, y3⟩ | ⟨y1, y2, y3⟩
          · rw [y3] at lst
            exact ⟨fun _ => lst, fun z => absurd y1 z⟩
          · rw [y3] at lst
            exact ⟨fun z => absurd z y1, fun _ => lst⟩
        · rw [decide_eq_false c2] at e
          exact no J1 oj e
      · rw [b1] at e
        exact no J1 oj e
  have := key k 0 J (by omega) fr_refl rfl
  rw [show (12 : Int32) = nI 12 from rfl, nI_mul]
  exact this
