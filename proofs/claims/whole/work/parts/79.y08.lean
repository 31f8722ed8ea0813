/-! treaties: the reference reads sums, lists, ones and tests -/
theorem yg_sum {b : Nat → Int32} {n L S c : Nat} {r : Nat → Int32} {rj : Nat → Int64} {o0 : List YG} {M : Nat} (hL : L ≤ n) (hn : n ≤ 600 ∧ M ≤ 1800) (hL1 : yk b n L = 21 ∨ yk b n L = 22) {I : Nat → Nat → Int32} {J : Nat → Nat → Int64} {T : Option Nat} {P : Int32 → (Nat → Nat → Int32) → (Nat → Nat → Int64) → Option Nat → Prop} (hc : c ≤ L) (hS : S + o0.length ≤ M + c) (hM : yM1 b n S r rj c o0 I J) (hbad : ∀ k c' I2 J2, ysm (yk b n) (yv b n) 700 c (0, 0, 0) [] true [] = .inl (k, c') → fr_off yDS I I2 → fr_off yES J J2 → I2 204 22 = yft b n c' k → I2 204 21 = nI (yps b n c') → (∀ j, j < S → I2 232 j = r j ∧ J2 233 j = rj j) → P 0 I2 J2 T) (hok : ∀ o2 c' I2 J2, ysm (yk b n) (yv b n) 700 c (0, 0, 0) [] true [] = .inr (o2, c') → c' ≤ L → fr_off yDS I I2 → fr_off yES J J2 → yM1 b n S r rj c' (o0 ++ o2) I2 J2 → P 1 I2 J2 T) : wp_X12_sum I J T P := by
  unfold wp_X12_sum
  refine yM_op (f := (0, 0, 0)) (fs := []) (k := 0) hM trivial (by simp) rfl (fun I1 o1 hM1 hf1 => ?_)
  intro V hV
  have hM2 : yM1 b n S r rj c (o0 ++ []) I1 J := by rw [List.append_nil]; exact hM1
  exact yg_sm hL hn hL1 hV 700 c (0, 0, 0) [] true [] I1 J (by omega) hc (by simp) (by rw [List.append_nil]; show S + o0.length + 0 ≤ _; omega) (by decide) ⟨⟨by decide, Or.inl rfl, Or.inl rfl⟩, rfl⟩ hM2 hf1 (fr_mono (by decide) o1) fr_refl hbad hok
def yli (K : Nat → Int32) (v : Nat → Int64) : Nat → Nat → Int32 → Sum (Int32 × Nat) (Int32 × Nat)
  | 0, c, _ => .inl (2, c)
  | m + 1, c, x => if K c = 20 then (if v c ≤ 6 then (if (x >>> ((v c).toInt32 &&& 31)) &&& 1 = 0 then (if K (c + 1) = 44 then yli K v m (c + 2) (x ||| (1 <<< ((v c).toInt32 &&& 31))) else .inr (x ||| (1 <<< ((v c).toInt32 &&& 31)), c + 1)) else .inl (5, c)) else .inl (5, c)) else .inl (2, c)
def yDL : List fr_R := [(204, 205, 17, 20), (204, 205, 21, 23)]
def yEL : List fr_R := [(204, 205, 23, 24)]
theorem yg_li {b : Nat → Int32} {n L S : Nat} {r : Nat → Int32} {rj : Nat → Int64} {o : List YG} (hL1 : yk b n L = 21 ∨ yk b n L = 22) {I0 : Nat → Nat → Int32} {J0 : Nat → Nat → Int64} {T : Option Nat} {V : Int32 → (Nat → Nat → Int32) → (Nat → Nat → Int64) → Option Nat → Prop} {P : Int32 → (Nat → Nat → Int32) → (Nat → Nat → Int64) → Option Nat → Prop} (hV : ∀ x1 I J T, wb_X12_list_2 x1 I J T V P → V x1 I J T) : ∀ m c x I J, L < c + m → c ≤ L → yM1 b n S r rj c o I J → fr_off yDL I0 I → fr_off yEL J0 J → (∀ k c' y I2 J2, yli (yk b n) (yv b n) m c x = .inl (k, c') → fr_off yDL I0 I2 → fr_off yEL J0 J2 → I2 204 22 = yft b n c' k → I2 204 21 = nI (yps b n c') → P y I2 J2 T) → (∀ y c' I2 J2, yli (yk b n) (yv b n) m c x = .inr (y, c') → c' ≤ L → fr_off yDL I0 I2 → fr_off yEL J0 J2 → yM1 b n S r rj c' o I2 J2 → P y I2 J2 T) → V x I J T := by
  intro m
  induction m with
  | zero => intro c x I J h1 h2; omega
  | succ m ih =>
    intro c x I J hm hc hM hO hE hbad hok
    have e22 := hM.2.2.1
    have e17 : I 204 17 = yct (yk b n c) := hM.2.1.2.2.1
    have kL : ∀ {c : Nat} {a : Int32}, c ≤ L → yk b n c = a → a ≠ 21 → a ≠ 22 → c + 1 ≤ L := fun {c a} hc e h1 h2 => by
      by_cases e2 : c = L
      · rw [← e2] at hL1
        rcases hL1 with g | g
        · exact absurd (e.symm.trans g) h1
        · exact absurd (e.symm.trans g) h2
      · omega
    rw [yli] at hbad hok
    apply hV
    unfold wb_X12_list_2
    refine ⟨fun _ => ?_, fun z => absurd e22 z⟩
    rw [e17]
    have hfail : ∀ k I1 J1, yM1 b n S r rj c o I1 J1 → fr_off yDL I0 I1 → fr_off yEL J0 J1 → ∀ Q : Int32 → (Nat → Nat → Int32) → (Nat → Nat → Int64) → Option Nat → Prop, (∀ I2, fr_off yDL I0 I2 → I2 204 22 = yft b n c k → I2 204 21 = nI (yps b n c) → Q 0 I2 J1 T) → wp_X12_fail k I1 J1 T Q := by
      intro k I1 J1 hM1 hO1 hE1 Q hb
      exact yM_fl hM1 (fun I2 o2 f1 f2 => hb I2 (fr_trans hO1 (fr_mono (by decide) o2)) f1 f2)
    by_cases h20 : yk b n c = 20
    · rw [if_pos h20] at hbad hok
      refine ⟨fun _ => ?_, fun z => absurd (yct_3.mpr h20) z⟩
      unfold wj_X12_list_j25_2 wj_X12_list_j30_2
      have ev : J 204 23 = yv b n c := hM.2.1.2.2.2.1 h20
      rw [ev, lgc_le]
      refine ⟨fun z => absurd z (by decide), fun _ => ⟨fun h6 => ?_, fun h6 => ?_⟩⟩
      · rw [if_pos h6] at hbad hok
        refine ⟨fun hz => ?_, fun hz => ?_⟩
        · rw [if_pos hz] at hbad hok
          unfold wj_X12_list_j66_2 wj_X12_list_j71_2 wj_X12_list_j72_2
          rw [ev]
          refine ⟨fun z => absurd z (by decide), fun _ => yM_nx hM (fun I2 J2 o2 r2 hM2 => ?_)⟩
          have c1 := kL hc h20 (by decide) (by decide)
          have hO2 := fr_trans hO (fr_mono (E := yDL) (by decide) o2)
          have hE2 := fr_trans hE (fr_mono (E := yEL) (by decide) r2)
          refine yg_sg hM2.1 (yps_le b n (c + 1)) hM2.2.1 (by decide) (fun y => ⟨fun z => absurd z (by decide), fun _ => ?_⟩) (fun y => ⟨fun _ => ?_, fun z => absurd rfl z⟩)
          · have y : yk b n (c + 1) = 44 := y
            rw [if_pos y] at hbad hok
            refine yM_nx hM2 (fun I3 J3 o3 r3 hM3 => ?_)
            exact ih (c + 2) _ I3 J3 (by omega) (kL c1 y (by decide) (by decide)) hM3 (fr_trans hO2 (fr_mono (by decide) o3)) (fr_trans hE2 (fr_mono (by decide) r3)) hbad hok
          · have y : ¬ yk b n (c + 1) = 44 := y
            rw [if_neg y] at hok
            exact hok _ (c + 1) I2 J2 rfl c1 hO2 hE2 hM2
        · rw [if_neg hz] at hbad
          unfold wj_X12_list_j58_2
          refine hfail 5 I J hM hO hE _ (fun I2 o2 f1 f2 => ⟨fun _ => ?_, fun z => absurd rfl z⟩)
          unfold wj_X12_list_j71_2 wj_X12_list_j72_2
          exact ⟨fun _ => hbad 5 c x I2 J rfl o2 hE f1 f2, fun z => absurd rfl z⟩
      · rw [if_neg h6] at hbad
        unfold wj_X12_list_j58_2
        refine hfail 5 I J hM hO hE _ (fun I2 o2 f1 f2 => ⟨fun _ => ?_, fun z => absurd rfl z⟩)
        unfold wj_X12_list_j71_2 wj_X12_list_j72_2
        exact ⟨fun _ => hbad 5 c x I2 J rfl o2 hE f1 f2, fun z => absurd rfl z⟩
    · rw [if_neg h20] at hbad
      refine ⟨fun z => absurd (yct_3.mp z) h20, fun _ => hfail 2 I J hM hO hE _ (fun I2 o2 f1 f2 => ⟨fun _ => ?_, fun z => absurd rfl z⟩)⟩
      unfold wj_X12_list_j30_2 wj_X12_list_j72_2
      exact ⟨fun _ => ⟨fun _ => hbad 2 c x I2 J rfl o2 hE f1 f2, fun z => absurd rfl z⟩, fun z => absurd rfl z⟩
/-- a one: whether not, the left sum, what compares, the right sum -/
abbrev YO : Type := Bool × List YG × Int32 × List YG
def yone (K : Nat → Int32) (v : Nat → Int64) (c : Nat) : Sum (Int32 × Nat) (YO × Nat) :=
  match ysm K v 700 (if K c = 8 then c + 1 else c) (0, 0, 0) [] true [] with
  | .inl e => .inl e
  | .inr (l, c2) => if K c2 = 60 ∨ K c2 = 62 ∨ K c2 = 61 then (match ysm K v 700 (c2 + 1) (0, 0, 0) [] true [] with
    | .inl e => .inl e
    | .inr (r, c3) => .inr ((decide (K c = 8), l, K c2, r), c3)) else .inl (2, c2)
def yte (K : Nat → Int32) (v : Nat → Int64) : Nat → Nat → Bool → List (Bool × YO) → Sum (Int32 × Nat) (List (Bool × YO) × Nat)
  | 0, c, _, _ => .inl (2, c)
  | m + 1, c, bg, w => match yone K v c with
    | .inl e => .inl e
    | .inr (x, c2) => if K c2 = 6 then yte K v m (c2 + 1) true (w ++ [(bg, x)]) else if K c2 = 7 then yte K v m (c2 + 1) false (w ++ [(bg, x)]) else .inr (w ++ [(bg, x)], c2)
/-- how ones lie in the reference: begins, not, where the left sum begins and ends, what compares, where the right sum ends -/
abbrev YP : Type := Bool × Bool × Nat × Nat × Int32 × Nat
def yM2 (S O : Nat) (R : Nat → Nat → Int32) (w : List YP) (I : Nat → Nat → Int32) : Prop :=
  I 204 45 = nI (O + w.length) ∧ (∀ i x, w[i]? = some x → I 231 (O + i) = s01_ x.1 ∧ I 230 (O + i) = s01_ x.2.1 ∧ I 225 (O + i) = nI (S + x.2.2.1) ∧ I 226 (O + i) = nI (S + x.2.2.2.1) ∧ I 229 (O + i) = x.2.2.2.2.1 ∧ I 227 (O + i) = nI (S + x.2.2.2.1) ∧ I 228 (O + i) = nI (S + x.2.2.2.2.2)) ∧ ∀ a j, 225 ≤ a → a ≤ 231 → j < O → I a j = R a j
theorem yM2_fr {S O : Nat} {R : Nat → Nat → Int32} {w : List YP} {I I2 : Nat → Nat → Int32} {D : List fr_R} (h : yM2 S O R w I) (o : fr_off D I I2) (d : ((!fr_in D 204 45) && fr_rw D 225 232) = true) : yM2 S O R w I2 := by
  simp only [Bool.and_eq_true, Bool.not_eq_true'] at d
  have e : ∀ a, 225 ≤ a → a ≤ 231 → I2 a = I a := fun a h1 h2 => fr_row o d.2 h1 (by omega)
  obtain ⟨h1, h2, h3⟩ := h
  refine ⟨?_, ?_, ?_⟩
  · rw [fr_at 204 45 o d.1]; exact h1
  · rw [e 231 (by omega) (by omega), e 230 (by omega) (by omega), e 225 (by omega) (by omega), e 226 (by omega) (by omega), e 229 (by omega) (by omega), e 227 (by omega) (by omega), e 228 (by omega) (by omega)]
    exact h2
  · intro a j ha hb hj
    rw [e a ha hb]; exact h3 a j ha hb hj
def yDO : List fr_R := [(204, 205, 17, 20), (204, 205, 21, 23), (204, 205, 44, 46), (225, 233, 0, 2147483648), (234, 237, 0, 2147483648)]
/-- what is known behind a fault -/
def yMb (b : Nat → Int32) (n S O : Nat) (R : Nat → Nat → Int32) (RJ : Nat → Nat → Int64) (k : Int32) (c' : Nat) (I2 : Nat → Nat → Int32) (J2 : Nat → Nat → Int64) : Prop :=
  I2 204 22 = yft b n c' k ∧ I2 204 21 = nI (yps b n c') ∧ (∀ j, j < S → I2 232 j = R 232 j ∧ J2 233 j = RJ 233 j) ∧ ∀ a j, 225 ≤ a → a ≤ 231 → j < O → I2 a j = R a j
theorem ynil {l : List YG} (h : tc_dp (yen_c l) 0 = some 1) : 1 ≤ l.length := by
  cases l with
  | nil => exact absurd h (by decide)
  | cons a l => rw [List.length_cons]; omega
theorem s01_d (p : Prop) [Decidable p] : (p → s01_ (decide p) = 1) ∧ (¬ p → s01_ (decide p) = 0) := ⟨fun h => by rw [decide_eq_true h]; rfl, fun h => by rw [decide_eq_false h]; rfl⟩
theorem s01_k (b : Bool) : ix_01 (s01_ b) = true := by cases b <;> rfl
set_option maxHeartbeats 4000000 in
theorem yg_one {b : Nat → Int32} {n L S O c : Nat} {R : Nat → Nat → Int32} {RJ : Nat → Nat → Int64} {o0 : List YG} {w : List YP} {bg : Bool} {M : Nat} (hL : L ≤ n) (hn : n ≤ 600 ∧ M ≤ 1800) (hL1 : yk b n L = 21 ∨ yk b n L = 22) (hv : ∀ c, yk b n c = 20 → ∃ m : Nat, m ≤ 9999999 ∧ yv b n c = lZ m) {I : Nat → Nat → Int32} {J : Nat → Nat → Int64} {T : Option Nat} {P : Int32 → (Nat → Nat → Int32) → (Nat → Nat → Int64) → Option Nat → Prop} (hc : c ≤ L) (hS : S + o0.length ≤ M + c) (hO : O + w.length < 1000) (hM : yM1 b n S (R 232) (RJ 233) c o0 I J) (hM2 : yM2 S O R w I) (hbad : ∀ k c' I2 J2, yone (yk b n) (yv b n) c = .inl (k, c') → fr_off yDO I I2 → fr_off yES J J2 → yMb b n S O R RJ k c' I2 J2 → P 0 I2 J2 T) (hok : ∀ x c' I2 J2, yone (yk b n) (yv b n) c = .inr (x, c') → c' ≤ L → fr_off yDO I I2 → fr_off yES J J2 → S + (o0 ++ (x.2.1 ++ x.2.2.2)).length ≤ M + c' → c + 3 ≤ c' → yM1 b n S (R 232) (RJ 233) c' (o0 ++ (x.2.1 ++ x.2.2.2)) I2 J2 → yM2 S O R (w ++ [(bg, x.1, o0.length, o0.length + x.2.1.length, x.2.2.1, o0.length + x.2.1.length + x.2.2.2.length)]) I2 → P 1 I2 J2 T) : wp_X12_one (s01_ bg) I J T P := by
  have kL : ∀ {c : Nat} {a : Int32}, c ≤ L → yk b n c = a → a ≠ 21 → a ≠ 22 → c + 1 ≤ L := fun {c a} hc e h1 h2 => by
    by_cases e2 : c = L
    · rw [← e2] at hL1
      rcases hL1 with g | g
      · exact absurd (e.symm.trans g) h1
      · exact absurd (e.symm.trans g) h2
    · omega
  obtain ⟨w45, wl, wlow⟩ := hM2
  unfold wp_X12_one
  rw [w45, nI_clamp (show O + w.length < 2 ^ 31 by omega)]
  have ii : ix_inb (nI (O + w.length)) 1000 = true := nI_in2 hO (by decide)
  have d5 : (nI (O + w.length)).toNatClampNeg = O + w.length := nI_clamp (by omega)
  refine ⟨by rw [s01_k]; rfl, ii, ?_⟩
  have o1 : fr_off [(225, 232, 0, 2147483648)] I (ix_u2 I 231 (O + w.length) (s01_ bg)) := fr_putn rfl (by omega) fr_refl
  have hM1 := yM1_fr hM o1 (fr_refl (D := [])) rfl rfl
  -- low rows: kept by all that is written at O + w.length
  have low : ∀ (I1 : Nat → Nat → Int32) (a : Nat) (x : Int32), (∀ a j, 225 ≤ a → a ≤ 231 → j < O → I1 a j = R a j) → ∀ a2 j, 225 ≤ a2 → a2 ≤ 231 → j < O → (ix_u2 I1 a (O + w.length) x) a2 j = R a2 j := by
    intro I1 a x h a2 j h1 h2 h3
    have ne : j ≠ O + w.length := by omega
    rw [u2_e]
    split
    · exact h a2 j h1 h2 h3
    · exact h a2 j h1 h2 h3
  -- rows of ones below w.length
  have keep : ∀ (I1 : Nat → Nat → Int32) (a : Nat) (x : Int32) (a2 i : Nat), i < w.length → (ix_u2 I1 a (O + w.length) x) a2 (O + i) = I1 a2 (O + i) := by
    intro I1 a x a2 i hi
    have ne : O + i ≠ O + w.length := by omega
    rw [u2_e]
    split
    · rfl
    · rfl
  have rest : ∀ (nt : Bool) (c1 : Nat) (I1 : Nat → Nat → Int32) (J1 : Nat → Nat → Int64), nt = decide (yk b n c = 8) → c1 = (if yk b n c = 8 then c + 1 else c) → c1 ≤ L → yM1 b n S (R 232) (RJ 233) c1 o0 I1 J1 → fr_off yDO I I1 → fr_off yES J J1 → I1 231 (O + w.length) = s01_ bg → I1 230 (O + w.length) = s01_ nt → (∀ a i, 225 ≤ a → a ≤ 231 → i < w.length → I1 a (O + i) = I a (O + i)) → (∀ a j, 225 ≤ a → a ≤ 231 → j < O → I1 a j = R a j) → I1 204 45 = nI (O + w.length) → wj_X12_one_j37 (nI (O + w.length)) I1 J1 T P := by
    intro nt c1 I1 J1 hnt hc1 hcL hM1 hO1 hE1 a231 a230 ak al a45
    have e44 := hM1.2.2.2.1
    have hSc : S + o0.length ≤ M + c1 := by rw [hc1]; split <;> omega
    unfold wj_X12_one_j37
    rw [d5, e44]
    refine ⟨ii, ?_⟩
    have o2 : fr_off [(225, 232, 0, 2147483648)] I1 (ix_u2 I1 225 (O + w.length) (nI (S + o0.length))) := fr_putn rfl (by omega) fr_refl
    have e1 : yone (yk b n) (yv b n) c = match ysm (yk b n) (yv b n) 700 c1 (0, 0, 0) [] true [] with
      | .inl e => .inl e
      | .inr (l, c2) => if yk b n c2 = 60 ∨ yk b n c2 = 62 ∨ yk b n c2 = 61 then (match ysm (yk b n) (yv b n) 700 (c2 + 1) (0, 0, 0) [] true [] with
        | .inl e => .inl e
        | .inr (r, c3) => .inr ((decide (yk b n c = 8), l, yk b n c2, r), c3)) else .inl (2, c2) := by
      rw [hc1]; rfl
    refine yg_sum hL hn hL1 hcL hSc (yM1_fr hM1 o2 (fr_refl (D := [])) rfl rfl) (fun k c' I2 J2 es q1 q2 q3 q4 q5 => ?_) (fun l c2 I2 J2 es hc2 q1 q2 q3 => ?_)
    · rw [es] at e1
      refine ⟨fun _ => hbad k c' I2 J2 e1 (fr_trans hO1 (fr_trans (fr_mono (by decide) o2) (fr_mono (by decide) q1))) (fr_trans hE1 q2) ⟨q3, q4, q5, fun a j h1 h2 h3 => ?_⟩, fun z => absurd rfl z⟩
      rw [fr_row q1 (show fr_rw yDS 225 232 = true from rfl) h1 (by omega)]
      exact low I1 225 _ al a j h1 h2 h3
    · rw [es] at e1
      have wf1 := ysm_ok hv _ _ _ _ _ _ _ _ es ⟨⟨by decide, Or.inl rfl, Or.inl rfl⟩, rfl⟩ (by simp) (fun x hx => by cases hx) rfl
      have wl1 : l.length + c1 ≤ c2 := by have := wf1.2.2.2; simp only [List.length_nil] at this; have e0 : yw [((0 : Nat), (0 : Int32), (0 : Int32))] = 0 := rfl; omega
      have r225 : ∀ a j, 225 ≤ a → a ≤ 231 → I2 a j = (ix_u2 I1 225 (O + w.length) (nI (S + o0.length))) a j := fun a j h1 h2 => by rw [fr_row q1 (show fr_rw yDS 225 232 = true from rfl) h1 (by omega)]
      have e442 := q3.2.2.2.1
      refine ⟨fun z => absurd z (by decide), fun _ => ⟨ii, ?_⟩⟩
      rw [e442]
      have o3 : fr_off [(225, 232, 0, 2147483648)] I2 (ix_u2 I2 226 (O + w.length) (nI (S + (o0 ++ l).length))) := fr_putn rfl (by omega) fr_refl
      have hM3 := yM1_fr q3 o3 (fr_refl (D := [])) rfl rfl
      have hO3 : fr_off yDO I (ix_u2 I2 226 (O + w.length) (nI (S + (o0 ++ l).length))) := fr_trans hO1 (fr_trans (fr_mono (by decide) o2) (fr_trans (fr_mono (by decide) q1) (fr_mono (by decide) o3)))
      have hE3 := fr_trans hE1 q2
      have lo3 : ∀ a j, 225 ≤ a → a ≤ 231 → j < O → (ix_u2 I2 226 (O + w.length) (nI (S + (o0 ++ l).length))) a j = R a j := low I2 226 _ (fun a j h1 h2 h3 => by rw [r225 a j h1 h2]; exact low I1 225 _ al a j h1 h2 h3)
      have cmp : ∀ a, (a = 60 ∨ a = 62 ∨ a = 61) → yk b n c2 = a → wj_X12_one_j99 (nI (O + w.length)) (ix_u2 I2 226 (O + w.length) (nI (S + (o0 ++ l).length))) J2 T P := by
        intro a ha ek
        have yS_a : yS a = true := by rcases ha with g | g | g <;> rw [g] <;> decide
        have ev : J2 204 23 = (yk b n c2).toInt64 := hM3.2.1.2.2.2.2 (yk_S ek yS_a)
        have c3L : c2 + 1 ≤ L := by rcases ha with g | g | g <;> exact kL hc2 ek (by rw [g]; decide) (by rw [g]; decide)
        have hor : yk b n c2 = 60 ∨ yk b n c2 = 62 ∨ yk b n c2 = 61 := by rw [ek]; exact ha
        simp only at e1
        rw [if_pos hor] at e1
        unfold wj_X12_one_j99
        rw [d5, ev, i32_rt]
        refine ⟨ii, ?_⟩
        have o4 : fr_off [(225, 232, 0, 2147483648)] (ix_u2 I2 226 (O + w.length) (nI (S + (o0 ++ l).length))) (ix_u2 (ix_u2 I2 226 (O + w.length) (nI (S + (o0 ++ l).length))) 229 (O + w.length) (yk b n c2)) := fr_putn rfl (by omega) fr_refl
        refine yM_nx (yM1_fr hM3 o4 (fr_refl (D := [])) rfl rfl) (fun I5 J5 o5 r5 hM5 => ⟨ii, ?_⟩)
        have r5r : ∀ a j, 225 ≤ a → a ≤ 231 → I5 a j = (ix_u2 (ix_u2 I2 226 (O + w.length) (nI (S + (o0 ++ l).length))) 229 (O + w.length) (yk b n c2)) a j := fun a j h1 h2 => by rw [fr_row o5 (show fr_rw [(204, 205, 17, 20)] 225 232 = true from rfl) h1 (by omega)]
        rw [hM5.2.2.2.1]
        have o6 : fr_off [(225, 232, 0, 2147483648)] I5 (ix_u2 I5 227 (O + w.length) (nI (S + (o0 ++ l).length))) := fr_putn rfl (by omega) fr_refl
        have l12 : (o0 ++ l).length = o0.length + l.length := List.length_append
        have lo5 : ∀ a j, 225 ≤ a → a ≤ 231 → j < O → (ix_u2 I5 227 (O + w.length) (nI (S + (o0 ++ l).length))) a j = R a j := low I5 227 _ (fun a j h1 h2 h3 => by rw [r5r a j h1 h2]; exact low _ 229 _ lo3 a j h1 h2 h3)
        refine yg_sum hL hn hL1 c3L (by rw [l12]; rw [hc1] at wl1; split at wl1 <;> omega) (yM1_fr hM5 o6 (fr_refl (D := [])) rfl rfl) (fun k c' I7 J7 es7 q71 q72 q73 q74 q75 => ?_) (fun rr c3 I7 J7 es7 hc3 q71 q72 q73 => ?_)
        · rw [es7] at e1
          refine ⟨fun _ => hbad k c' I7 J7 e1 (fr_trans hO3 (fr_trans (fr_mono (by decide) o4) (fr_trans (fr_mono (by decide) o5) (fr_trans (fr_mono (by decide) o6) (fr_mono (by decide) q71))))) (fr_trans hE3 (fr_trans (fr_mono (by decide) r5) q72)) ⟨q73, q74, q75, fun a j h1 h2 h3 => ?_⟩, fun z => absurd rfl z⟩
          rw [fr_row q71 (show fr_rw yDS 225 232 = true from rfl) h1 (by omega)]
          exact lo5 a j h1 h2 h3
        · rw [es7] at e1
          have wf2 := ysm_ok hv _ _ _ _ _ _ _ _ es7 ⟨⟨by decide, Or.inl rfl, Or.inl rfl⟩, rfl⟩ (by simp) (fun x hx => by cases hx) rfl
          have wl2 : rr.length + (c2 + 1) ≤ c3 := by have := wf2.2.2.2; simp only [List.length_nil] at this; have e0 : yw [((0 : Nat), (0 : Int32), (0 : Int32))] = 0 := rfl; omega
          have ln1 := ynil wf1.2.1
          have ln2 := ynil wf2.2.1
          have r7r : ∀ a j, 225 ≤ a → a ≤ 231 → I7 a j = (ix_u2 I5 227 (O + w.length) (nI (S + (o0 ++ l).length))) a j := fun a j h1 h2 => by rw [fr_row q71 (show fr_rw yDS 225 232 = true from rfl) h1 (by omega)]
          have l3 : (o0 ++ l ++ rr).length = o0.length + l.length + rr.length := by simp only [List.length_append]
          have e45 : I7 204 45 = nI (O + w.length) := by
            have h1 : I7 204 45 = I5 204 45 := by rw [fr_at 204 45 q71 rfl, u2_c (by decide)]
            have h2 : I5 204 45 = I2 204 45 := by rw [fr_at 204 45 o5 rfl, u2_c (by decide), u2_c (by decide)]
            have h3 : I2 204 45 = I1 204 45 := by rw [fr_at 204 45 q1 rfl, u2_c (by decide)]
            rw [h1, h2, h3]; exact a45
          refine ⟨fun z => absurd z (by decide), fun _ => ⟨ii, ?_⟩⟩
          rw [q73.2.2.2.1, e45, nI_1]
          have o8 : fr_off [(225, 232, 0, 2147483648), (204, 205, 45, 46)] I7 (ix_u2 (ix_u2 I7 228 (O + w.length) (nI (S + (o0 ++ l ++ rr).length))) 204 45 (nI (O + w.length + 1))) := fr_put rfl (fr_putn rfl (by omega) fr_refl)
          have hM8 := yM1_fr q73 o8 (fr_refl (D := [])) rfl rfl
          rw [List.append_assoc] at hM8
          refine hok (decide (yk b n c = 8), l, yk b n c2, rr) c3 _ J7 e1 hc3 (fr_trans hO3 (fr_trans (fr_mono (by decide) o4) (fr_trans (fr_mono (by decide) o5) (fr_trans (fr_mono (by decide) o6) (fr_trans (fr_mono (by decide) q71) (fr_mono (by decide) o8)))))) (fr_trans hE3 (fr_trans (fr_mono (by decide) r5) q72)) (by rw [← List.append_assoc]; rw [l3]; rw [hc1] at wl1; split at wl1 <;> omega) (by rw [hc1] at wl1; split at wl1 <;> omega) hM8 ⟨?_, fun i x hx => ?_, ?_⟩
          · have e9 : ∀ x : YP, O + (w ++ [x]).length = O + w.length + 1 := fun x => by rw [List.length_append, List.length_singleton, ← Nat.add_assoc]
            rw [e9]; simp [u2_e]
          · by_cases hi : i < w.length
            · rw [List.getElem?_append_left hi] at hx
              have key : ∀ a, 225 ≤ a → a ≤ 231 → (ix_u2 (ix_u2 I7 228 (O + w.length) (nI (S + (o0 ++ l ++ rr).length))) 204 45 (nI (O + w.length + 1))) a (O + i) = I a (O + i) := fun a h1 h2 => by
                rw [u2_c (by omega), keep _ _ _ _ _ hi, r7r a _ h1 h2, keep _ _ _ _ _ hi, r5r a _ h1 h2, keep _ _ _ _ _ hi, keep _ _ _ _ _ hi, r225 a _ h1 h2, keep _ _ _ _ _ hi]
                exact ak a i h1 h2 hi
              rw [key 231 (by omega) (by omega), key 230 (by omega) (by omega), key 225 (by omega) (by omega), key 226 (by omega) (by omega), key 229 (by omega) (by omega), key 227 (by omega) (by omega), key 228 (by omega) (by omega)]
              exact wl i x hx
            · rw [List.getElem?_append_right (by omega)] at hx
              have : i = w.length := by
                have := (List.getElem?_eq_some_iff.mp hx).1
                rw [List.length_singleton] at this
                omega
              subst this
              rw [Nat.sub_self] at hx
              have hx := Option.some.inj hx
              rw [← hx]
              have p1 : ∀ (I9 : Nat → Nat → Int32) (a a2 : Nat) (x : Int32), a2 ≠ a → (ix_u2 I9 a (O + w.length) x) a2 (O + w.length) = I9 a2 (O + w.length) := fun I9 a a2 x h => by rw [u2_c h]
              have p0 : ∀ (I9 : Nat → Nat → Int32) (a : Nat) (x : Int32), (ix_u2 I9 a (O + w.length) x) a (O + w.length) = x := fun I9 a x => by simp [u2_e]
              refine ⟨?_, ?_, ?_, ?_, ?_, ?_, ?_⟩
              · rw [u2_c (by decide), p1 _ _ _ _ (by decide), r7r _ _ (by decide) (by decide), p1 _ _ _ _ (by decide), r5r _ _ (by decide) (by decide), p1 _ _ _ _ (by decide), p1 _ _ _ _ (by decide), r225 _ _ (by decide) (by decide), p1 _ _ _ _ (by decide)]
                exact a231
              · rw [u2_c (by decide), p1 _ _ _ _ (by decide), r7r _ _ (by decide) (by decide), p1 _ _ _ _ (by decide), r5r _ _ (by decide) (by decide), p1 _ _ _ _ (by decide), p1 _ _ _ _ (by decide), r225 _ _ (by decide) (by decide), p1 _ _ _ _ (by decide), a230, hnt]
              · rw [u2_c (by decide), p1 _ _ _ _ (by decide), r7r _ _ (by decide) (by decide), p1 _ _ _ _ (by decide), r5r _ _ (by decide) (by decide), p1 _ _ _ _ (by decide), p1 _ _ _ _ (by decide), r225 _ _ (by decide) (by decide), p0]
              · rw [u2_c (by decide), p1 _ _ _ _ (by decide), r7r _ _ (by decide) (by decide), p1 _ _ _ _ (by decide), r5r _ _ (by decide) (by decide), p1 _ _ _ _ (by decide), p0, l12]
              · rw [u2_c (by decide), p1 _ _ _ _ (by decide), r7r _ _ (by decide) (by decide), p1 _ _ _ _ (by decide), r5r _ _ (by decide) (by decide), p0]
              · rw [u2_c (by decide), p1 _ _ _ _ (by decide), r7r _ _ (by decide) (by decide), p0, l12]
              · rw [u2_c (by decide), p0, l3]
          · intro a j h1 h2 h3
            rw [u2_c (by omega)]
            exact low I7 228 _ (fun a j h1 h2 h3 => by rw [r7r a j h1 h2]; exact lo5 a j h1 h2 h3) a j h1 h2 h3
      refine yg_sg hM3.1 (yps_le b n c2) hM3.2.1 (by decide) (fun y => ⟨fun z => absurd z (by decide), fun _ => cmp 60 (by simp) y⟩) (fun y1 => ⟨fun _ => yg_sg hM3.1 (yps_le b n c2) hM3.2.1 (by decide) (fun y => ⟨fun z => absurd z (by decide), fun _ => cmp 62 (by simp) y⟩) (fun y2 => ⟨fun _ => yg_sg hM3.1 (yps_le b n c2) hM3.2.1 (by decide) (fun y => ⟨fun z => absurd z (by decide), fun _ => cmp 61 (by simp) y⟩) (fun y3 => ⟨fun _ => ?_, fun z => absurd rfl z⟩), fun z => absurd rfl z⟩), fun z => absurd rfl z⟩)
      have no : ¬ (yk b n c2 = 60 ∨ yk b n c2 = 62 ∨ yk b n c2 = 61) := fun z => z.elim y1 (fun z => z.elim y2 y3)
      simp only at e1
      rw [if_neg no] at e1
      refine yM_fl hM3 (fun I4 o4 f1 f2 => ⟨by decide, hbad 2 c2 I4 J2 e1 (fr_trans hO3 (fr_mono (by decide) o4)) hE3 ⟨f1, f2, fun j hj => ?_, fun a j h1 h2 h3 => ?_⟩⟩)
      · rw [fr_rw1 o4 232 rfl]
        exact hM3.2.2.2.2.2 j hj
      · rw [fr_row o4 (show fr_rw [(204, 205, 21, 23)] 225 232 = true from rfl) h1 (by omega)]
        exact lo3 a j h1 h2 h3
  have lowI : ∀ a j, 225 ≤ a → a ≤ 231 → j < O → (ix_u2 I 231 (O + w.length) (s01_ bg)) a j = R a j := low I 231 _ wlow
  have x45 : (ix_u2 I 231 (O + w.length) (s01_ bg)) 204 45 = nI (O + w.length) := by rw [u2_c (by decide)]; exact w45
  have go : ∀ nt : Bool, nt = decide (yk b n c = 8) → (false || (true && ix_01 (s01_ nt))) = true ∧ ix_inb (nI (O + w.length)) 1000 = true ∧ ix_inb (nI (O + w.length)) 1000 = true ∧ ((ix_u2 (ix_u2 I 231 (O + w.length) (s01_ bg)) 230 (O + w.length) (s01_ nt)) 230 (O + w.length) = 0 → wj_X12_one_j37 (nI (O + w.length)) (ix_u2 (ix_u2 I 231 (O + w.length) (s01_ bg)) 230 (O + w.length) (s01_ nt)) J T P) ∧ (¬ (ix_u2 (ix_u2 I 231 (O + w.length) (s01_ bg)) 230 (O + w.length) (s01_ nt)) 230 (O + w.length) = 0 → wp_X12_next (ix_u2 (ix_u2 I 231 (O + w.length) (s01_ bg)) 230 (O + w.length) (s01_ nt)) J T (fun I41 J41 T41 => wj_X12_one_j37 (nI (O + w.length)) I41 J41 T41 P)) := by
    intro nt hnt
    have s230 : (ix_u2 (ix_u2 I 231 (O + w.length) (s01_ bg)) 230 (O + w.length) (s01_ nt)) 230 (O + w.length) = s01_ nt := by simp [u2_e]
    have s231 : (ix_u2 (ix_u2 I 231 (O + w.length) (s01_ bg)) 230 (O + w.length) (s01_ nt)) 231 (O + w.length) = s01_ bg := by simp [u2_e]
    have o2 : fr_off [(225, 232, 0, 2147483648)] I (ix_u2 (ix_u2 I 231 (O + w.length) (s01_ bg)) 230 (O + w.length) (s01_ nt)) := fr_putn rfl (by omega) o1
    have hM2 := yM1_fr hM o2 (fr_refl (D := [])) rfl rfl
    have kp : ∀ a i, 225 ≤ a → a ≤ 231 → i < w.length → (ix_u2 (ix_u2 I 231 (O + w.length) (s01_ bg)) 230 (O + w.length) (s01_ nt)) a (O + i) = I a (O + i) := fun a i h1 h2 hi => by rw [keep _ _ _ _ _ hi, keep _ _ _ _ _ hi]
    have lw := low _ 230 (s01_ nt) lowI
    have y45 : (ix_u2 (ix_u2 I 231 (O + w.length) (s01_ bg)) 230 (O + w.length) (s01_ nt)) 204 45 = nI (O + w.length) := by rw [u2_c (by decide)]; exact x45
    rw [s230]
    refine ⟨by rw [s01_k]; rfl, ii, ii, fun z => ?_, fun z => ?_⟩
    · have h8 : ¬ yk b n c = 8 := fun e => by
        rw [hnt, (s01_d _).1 e] at z
        exact absurd z (by decide)
      exact rest nt c _ J hnt (by rw [if_neg h8]) hc hM2 (fr_mono (by decide) o2) fr_refl s231 s230 kp lw y45
    · have h8 : yk b n c = 8 := by
        by_cases e : yk b n c = 8
        · exact e
        · exact absurd (by rw [hnt, (s01_d _).2 e]) z
      refine yM_nx hM2 (fun I3 J3 o3 r3 hM3 => ?_)
      have rr : ∀ a j, 225 ≤ a → a ≤ 231 → I3 a j = (ix_u2 (ix_u2 I 231 (O + w.length) (s01_ bg)) 230 (O + w.length) (s01_ nt)) a j := fun a j h1 h2 => by rw [fr_row o3 (show fr_rw [(204, 205, 17, 20)] 225 232 = true from rfl) h1 (by omega)]
      refine rest nt (c + 1) I3 J3 hnt (by rw [if_pos h8]) (kL hc h8 (by decide) (by decide)) hM3 (fr_trans (fr_mono (by decide) o2) (fr_mono (by decide) o3)) (fr_mono (by decide) r3) ?_ ?_ (fun a i h1 h2 hi => ?_) (fun a j h1 h2 h3 => ?_) ?_
      · rw [rr _ _ (by decide) (by decide)]; exact s231
      · rw [rr _ _ (by decide) (by decide)]; exact s230
      · rw [rr a _ h1 h2]; exact kp a i h1 h2 hi
      · rw [rr a j h1 h2]; exact lw a j h1 h2 h3
      · rw [fr_at 204 45 o3 rfl]; exact y45
  refine yg_key hM1.1 (yps_le b n c) hM1.2.1 ⟨by decide, by decide⟩ (fun y => ?_) (fun y => ?_)
  · have := go true (decide_eq_true (show yk b n c = 8 from y)).symm
    exact this
  · have := go false (decide_eq_false (show ¬ yk b n c = 8 from y)).symm
    exact this
