/-! treaties: the clause by which mail is charged; what it is charged -/
def sb_ (th fr to x1 a b : Int32) : Bool := decide (th = x1) && ((decide (fr = 0) || !decide ((fr >>> (a &&& 31)) &&& 1 = 0)) && (decide (to = 0) || !decide ((to >>> (b &&& 31)) &&& 1 = 0)))
def ou_ (X : Nat → Nat → Int32) (a t c day : Int32) : Int32 := (sc_o (fun k => decide (X 3 k = a ∧ X 4 k = t ∧ X 5 k = c)) (X 6) (X 7) day (X 0 3).toNatClampNeg).1
def hc_ (X : Nat → Nat → Int32) (V : Nat → Int64) (j q : Nat) : Bool := decide (X (12 + 9 * j) q = X (13 + 9 * j) q) || !decide (lg_cmp (sv_ V (sg_ (X (15 + 9 * j)) (tn_ (X (12 + 9 * j)) q) (tn_ (X (13 + 9 * j)) q - tn_ (X (12 + 9 * j)) q))) 0 = 0)
def oq_ (X : Nat → Nat → Int32) (V : Nat → Int64) (x1 a b c day : Int32) (j q : Nat) : Bool := sb_ (X (9 + 9 * j) q) (X (10 + 9 * j) q) (X (11 + 9 * j) q) x1 a b && (decide (ou_ X a (nI j) (nI q) day = 0) && (decide (ou_ X c (nI j) (nI q) day = 0) && hc_ X V j q))
def fi_ (ok : Nat → Bool) : Nat → Nat → Option Nat
  | 0, _ => none
  | m + 1, q => if ok q then some q else fi_ ok m (q + 1)
def fv_ : Option Nat → Int32
  | none => -1
  | some q => nI q
def cl_ (X : Nat → Nat → Int32) (V : Nat → Int64) (x1 a b c day : Int32) (j : Nat) : Option Nat := fi_ (oq_ X V x1 a b c day j) (X (8 + 9 * j) 0).toNatClampNeg 0
def tj_ (X : Nat → Nat → Int32) (day : Int32) : Int32 := (sc_f (X 2) (day / 365) (X 0 0).toNatClampNeg).1
def cr_ (X : Nat → Nat → Int32) (V : Nat → Int64) (x1 a b c day : Int32) : Option Nat := if tj_ X day = -1 then none else cl_ X V x1 a b c day (tj_ X day).toNatClampNeg
def os_ (X : Nat → Nat → Int32) (V : Nat → Int64) (j q : Nat) : Int64 := sv_ V (sg_ (X (15 + 9 * j)) (tn_ (X (13 + 9 * j)) q) (tn_ (X (14 + 9 * j)) q - tn_ (X (13 + 9 * j)) q))
def ow_ (X : Nat → Nat → Int32) (V : Nat → Int64) (x1 a b c day : Int32) : Int64 := match cr_ X V x1 a b c day with
  | none => 0
  | some q => mx_ 0 (mn_ 1000000000000 (os_ X V (tj_ X day).toNatClampNeg q))
/-- what the code of a clause must be like -/
def rc_ok (X : Nat → Nat → Int32) (V : Nat → Int64) (j q : Nat) : Prop := ∃ t u e : Nat, t ≤ u ∧ u < e ∧ e ≤ 600 ∧ X (12 + 9 * j) q = nI t ∧ X (13 + 9 * j) q = nI u ∧ X (14 + 9 * j) q = nI e ∧ (t = u ∨ ∃ x, ed_ V (sg_ (X (15 + 9 * j)) t (u - t)) [] = some [x]) ∧ ∃ x, ed_ V (sg_ (X (15 + 9 * j)) u (e - u)) [] = some [x]
theorem fi_lt {ok : Nat → Bool} : ∀ {m q r : Nat}, fi_ ok m q = some r → q ≤ r ∧ r < q + m
  | 0, _, _, h => by cases h
  | m + 1, q, r, h => by
    rw [fi_] at h
    by_cases c : ok q = true
    · rw [if_pos c] at h; cases h; omega
    · rw [if_neg c] at h
      have := fi_lt h
      omega
theorem fi_congr {ok ok2 : Nat → Bool} : ∀ {m q : Nat}, (∀ r, q ≤ r → r < q + m → ok r = ok2 r) → fi_ ok m q = fi_ ok2 m q
  | 0, _, _ => rfl
  | m + 1, q, h => by rw [fi_, fi_, h q (Nat.le_refl _) (by omega), fi_congr (fun r h1 h2 => h r (by omega) (by omega))]
theorem tn_of {f : Nat → Int32} {k n : Nat} (h : f k = nI n) (hn : n < 2147483648) : tn_ f k = n := by
  show (f k).toNatClampNeg = n
  rw [h]
  exact nI_clamp (by omega)
theorem fn_sv59 {q : Nat} {x1 a b : Int32} (hq : q < 12) {I : Nat → Nat → Int32} {J : Nat → Nat → Int64} {T : Option Nat} {P : Int32 → (Nat → Nat → Int32) → (Nat → Nat → Int64) → Option Nat → Prop} (hP : P (s01_ (sb_ (I 60 q) (I 61 q) (I 62 q) x1 a b)) I J T) : wp_X9_serves_59 (nI q) x1 a b I J T P := by
  have q5 : (nI q).toNatClampNeg = q := nI_clamp (by omega)
  have iq : ix_inb (nI q) 12 = true := nI_in2 hq (by decide)
  unfold wp_X9_serves_59
  rw [q5]
  unfold sb_ at hP
  refine ⟨iq, fun c1 => ⟨iq, fun c2 => ⟨iq, fun c3 => ?_, fun c3 => ⟨iq, fun c4 => ?_, fun c4 => ?_⟩⟩, fun c2 => ⟨iq, fun c4 => ?_, fun c4 => ⟨iq, fun c3 => ?_, fun c3 => ⟨iq, fun c5 => ?_, fun c5 => ?_⟩⟩⟩⟩, fun c1 => ?_⟩
  · rw [decide_eq_true c1, decide_eq_true c2, decide_eq_true c3] at hP; exact hP
  · rw [decide_eq_true c1, decide_eq_true c2, decide_eq_false c3, decide_eq_true c4] at hP; exact hP
  · rw [decide_eq_true c1, decide_eq_true c2, decide_eq_false c3, decide_eq_false c4] at hP; exact hP
  · rw [decide_eq_true c1, decide_eq_false c2, decide_eq_true c4] at hP; exact hP
  · rw [decide_eq_true c1, decide_eq_false c2, decide_eq_false c4, decide_eq_true c3] at hP; exact hP
  · rw [decide_eq_true c1, decide_eq_false c2, decide_eq_false c4, decide_eq_false c3, decide_eq_true c5] at hP; exact hP
  · rw [decide_eq_true c1, decide_eq_false c2, decide_eq_false c4, decide_eq_false c3, decide_eq_false c5] at hP; exact hP
  · rw [decide_eq_false c1] at hP; exact hP
theorem fn_ts59 {V : Nat → Int64} {q : Nat} (hq : q < 12) {I : Nat → Nat → Int32} {J : Nat → Nat → Int64} {T : Option Nat} {P : Int64 → (Nat → Nat → Int32) → (Nat → Nat → Int64) → Option Nat → Prop} (hv : ∀ k, k < 7 → J 96 k = V k) (r : rc_ok (bI I 51 44) V 0 q) (hP : ∀ J2 x, fr_off [(67, 68, 0, 2147483648)] J J2 → (hc_ (bI I 51 44) V 0 q = !decide (lg_cmp x 0 = 0)) → P x I J2 T) : wp_X9_compute_59 (nI q) 1 I J T P := by
  obtain ⟨t, u, e, h1, h2, h3, e1, e2, e3, h4, -⟩ := r
  have e1 : I 63 q = nI t := e1
  have e2 : I 64 q = nI u := e2
  have h4 : t = u ∨ ∃ x, ed_ V (sg_ (I 66) t (u - t)) [] = some [x] := h4
  have hh : hc_ (bI I 51 44) V 0 q = (decide (I 63 q = I 64 q) || !decide (lg_cmp (sv_ V (sg_ (I 66) (tn_ (I 63) q) (tn_ (I 64) q - tn_ (I 63) q))) 0 = 0)) := rfl
  rw [tn_of e1 (by omega), tn_of e2 (by omega), e1, e2] at hh
  have q5 : (nI q).toNatClampNeg = q := nI_clamp (by omega)
  have iq : ix_inb (nI q) 12 = true := nI_in2 hq (by decide)
  unfold wp_X9_compute_59
  rw [q5, e1, e2]
  refine ⟨fun z => absurd z (by decide), fun _ => ⟨iq, fun z => absurd z (by decide), fun _ => ⟨iq, fun z => ?_, fun z => ?_⟩⟩⟩
  · refine hP J 1 fr_refl ?_
    rw [hh, decide_eq_true z]
    rfl
  · rw [decide_eq_false z, Bool.false_or] at hh
    obtain ⟨x, hx⟩ := h4.resolve_left (fun y => z (by rw [y]))
    rw [sv_of hx] at hh
    exact lp_cm59 (V := V) (x := x) (by omega) hv (fun J2 o2 => hP J2 x o2 hh) (m0 := u - t) (by omega) hx
theorem fn_su59 {V : Nat → Int64} {q : Nat} (hq : q < 12) {I : Nat → Nat → Int32} {J : Nat → Nat → Int64} {T : Option Nat} {P : Int64 → (Nat → Nat → Int32) → (Nat → Nat → Int64) → Option Nat → Prop} (hv : ∀ k, k < 7 → J 96 k = V k) (r : rc_ok (bI I 51 44) V 0 q) (hP : ∀ J2, fr_off [(67, 68, 0, 2147483648)] J J2 → P (os_ (bI I 51 44) V 0 q) I J2 T) : wp_X9_compute_59 (nI q) 0 I J T P := by
  obtain ⟨t, u, e, h1, h2, h3, e1, e2, e3, -, x, hx⟩ := r
  have e2 : I 64 q = nI u := e2
  have e3 : I 65 q = nI e := e3
  have hx : ed_ V (sg_ (I 66) u (e - u)) [] = some [x] := hx
  have hh : os_ (bI I 51 44) V 0 q = sv_ V (sg_ (I 66) (tn_ (I 64) q) (tn_ (I 65) q - tn_ (I 64) q)) := rfl
  rw [tn_of e2 (by omega), tn_of e3 (by omega), sv_of hx] at hh
  have q5 : (nI q).toNatClampNeg = q := nI_clamp (by omega)
  have iq : ix_inb (nI q) 12 = true := nI_in2 hq (by decide)
  unfold wp_X9_compute_59
  rw [q5, e2, e3]
  refine ⟨fun _ => ⟨iq, fun _ => ⟨iq, fun z => absurd ((nI_eq (by omega) (by omega)).mp z) (by omega), fun z => ?_⟩, fun z => absurd rfl z⟩, fun z => absurd rfl z⟩
  exact lp_cm59 (V := V) (x := x) (by omega) hv (fun J2 o2 => by rw [← hh]; exact hP J2 o2) (m0 := e - u) (by omega) hx
theorem lp_cf59 {V : Nat → Int64} {k g : Nat} {x1 a b c day : Int32} (hk : k ≤ 12) (hg : g ≤ 40) {I : Nat → Nat → Int32} {J : Nat → Nat → Int64} {T : Option Nat} {P : Int32 → (Nat → Nat → Int32) → (Nat → Nat → Int64) → Option Nat → Prop} (ek : I 59 0 = nI k) (eg : I 51 3 = nI g) (h58 : ∀ k, k < g → I 58 k = 0 ∨ I 58 k = 1) (ea : I 95 0 = a) (eb : I 95 1 = b) (ed : I 95 3 = day) (hv : ∀ k, k < 7 → J 96 k = V k) (r : ∀ q, q < k → rc_ok (bI I 51 44) V 0 q) (hP : ∀ J2, fr_off [(67, 68, 0, 2147483648)] J J2 → P (fv_ (cl_ (bI I 51 44) V x1 a b c day 0)) I J2 T) : wl_X8_clauseFor_56_c95_c59 x1 (nI 0) c 0 I J T P := by
  have hcl : cl_ (bI I 51 44) V x1 a b c day 0 = fi_ (oq_ (bI I 51 44) V x1 a b c day 0) (I 59 0).toNatClampNeg 0 := rfl
  rw [ek, nI_clamp (show k < 2 ^ 31 by omega)] at hcl
  have ou : ∀ y z, ou_ (bI I 51 44) y (nI 0) z day = (sc_o (fun k => decide (I 54 k = y ∧ I 55 k = nI 0 ∧ I 56 k = z)) (I 57) (I 58) day g).1 := fun y z => by
    have : ou_ (bI I 51 44) y (nI 0) z day = (sc_o (fun k => decide (I 54 k = y ∧ I 55 k = nI 0 ∧ I 56 k = z)) (I 57) (I 58) day (I 51 3).toNatClampNeg).1 := rfl
    rw [this, eg, nI_clamp (show g < 2 ^ 31 by omega)]
  rw [hcl] at hP
  subst ea eb ed
  intro U hU
  have key : ∀ (m q : Nat) (J1 : Nat → Nat → Int64), q + m = k → fr_off [(67, 68, 0, 2147483648)] J J1 → fi_ (oq_ (bI I 51 44) V x1 (I 95 0) (I 95 1) c (I 95 3) 0) m q = fi_ (oq_ (bI I 51 44) V x1 (I 95 0) (I 95 1) c (I 95 3) 0) k 0 → U x1 (nI 0) c (nI q) I J1 T := by
    intro m
    induction m with
    | zero =>
      intro q J1 hq oj e
      have hq : q = k := by omega
      subst hq
      apply hU
      unfold wb_X8_clauseFor_56_c95_c59 wp_X9_count_59
      rw [ek]
      have hp := hP J1 oj
      rw [← e] at hp
      exact ⟨fun z => absurd z (nI_nlt (Nat.le_refl _) (by omega)), fun _ => hp⟩
    | succ m ih =>
      intro q J1 hq oj e
      have j6 : J1 96 = J 96 := fr_rw1 oj 96 rfl
      have hv1 : ∀ k, k < 7 → J1 96 k = V k := by rw [j6]; exact hv
      have eq : oq_ (bI I 51 44) V x1 (I 95 0) (I 95 1) c (I 95 3) 0 q = (sb_ (I 60 q) (I 61 q) (I 62 q) x1 (I 95 0) (I 95 1) && (decide (ou_ (bI I 51 44) (I 95 0) (nI 0) (nI q) (I 95 3) = 0) && (decide (ou_ (bI I 51 44) c (nI 0) (nI q) (I 95 3) = 0) && hc_ (bI I 51 44) V 0 q))) := rfl
      rw [ou, ou] at eq
      rw [fi_, eq] at e
      apply hU
      unfold wb_X8_clauseFor_56_c95_c59 wp_X9_count_59 wp_X6_from wp_X6_to wp_X6_day wp_X8_isOutOf
      dsimp only
      rw [ek, nI_1]
      refine ⟨fun _ => ?_, fun z => absurd (nI_lt (by omega) (by omega)) z⟩
      have no : ∀ J2, fr_off [(67, 68, 0, 2147483648)] J J2 → fi_ (oq_ (bI I 51 44) V x1 (I 95 0) (I 95 1) c (I 95 3) 0) m (q + 1) = fi_ (oq_ (bI I 51 44) V x1 (I 95 0) (I 95 1) c (I 95 3) 0) k 0 → U x1 (nI 0) c (nI (q + 1)) I J2 T := fun J2 o2 e2 => ih (q + 1) J2 (by omega) o2 e2
      refine fn_sv59 (by omega) ?_
      cases c1 : sb_ (I 60 q) (I 61 q) (I 62 q) x1 (I 95 0) (I 95 1) with
      | false =>
        rw [c1] at e
        exact ⟨fun _ => no J1 oj e, fun z => absurd rfl z⟩
      | true =>
        rw [c1, Bool.true_and] at e
        refine ⟨fun z => absurd z (by decide), fun _ => lp_outC hg eg h58 ⟨fun c2 => lp_outC hg eg h58 ⟨fun c3 => ?_, fun c3 => ?_⟩, fun c2 => ?_⟩⟩
        · rw [decide_eq_true c2, decide_eq_true c3, Bool.true_and, Bool.true_and] at e
          refine fn_ts59 (by omega) hv1 (r q (by omega)) (fun J2 x o2 ex => ?_)
          rw [ex] at e
          refine ⟨fun z => no J2 (fr_trans oj o2) ?_, fun z => ?_⟩
          · rw [decide_eq_true z] at e
            exact e
          · rw [decide_eq_false z] at e
            have hp := hP J2 (fr_trans oj o2)
            rw [← e] at hp
            exact hp
        · rw [decide_eq_true c2, decide_eq_false c3] at e
          exact no J1 oj e
        · rw [decide_eq_false c2] at e
          exact no J1 oj e
  exact key k 0 J (by omega) fr_refl rfl
theorem fn_sv68 {q : Nat} {x1 a b : Int32} (hq : q < 12) {I : Nat → Nat → Int32} {J : Nat → Nat → Int64} {T : Option Nat} {P : Int32 → (Nat → Nat → Int32) → (Nat → Nat → Int64) → Option Nat → Prop} (hP : P (s01_ (sb_ (I 69 q) (I 70 q) (I 71 q) x1 a b)) I J T) : wp_X9_serves_68 (nI q) x1 a b I J T P := by
  have q5 : (nI q).toNatClampNeg = q := nI_clamp (by omega)
  have iq : ix_inb (nI q) 12 = true := nI_in2 hq (by decide)
  unfold wp_X9_serves_68
  rw [q5]
  unfold sb_ at hP
  refine ⟨iq, fun c1 => ⟨iq, fun c2 => ⟨iq, fun c3 => ?_, fun c3 => ⟨iq, fun c4 => ?_, fun c4 => ?_⟩⟩, fun c2 => ⟨iq, fun c4 => ?_, fun c4 => ⟨iq, fun c3 => ?_, fun c3 => ⟨iq, fun c5 => ?_, fun c5 => ?_⟩⟩⟩⟩, fun c1 => ?_⟩
  · rw [decide_eq_true c1, decide_eq_true c2, decide_eq_true c3] at hP; exact hP
  · rw [decide_eq_true c1, decide_eq_true c2, decide_eq_false c3, decide_eq_true c4] at hP; exact hP
  · rw [decide_eq_true c1, decide_eq_true c2, decide_eq_false c3, decide_eq_false c4] at hP; exact hP
  · rw [decide_eq_true c1, decide_eq_false c2, decide_eq_true c4] at hP; exact hP
  · rw [decide_eq_true c1, decide_eq_false c2, decide_eq_false c4, decide_eq_true c3] at hP; exact hP
  · rw [decide_eq_true c1, decide_eq_false c2, decide_eq_false c4, decide_eq_false c3, decide_eq_true c5] at hP; exact hP
  · rw [decide_eq_true c1, decide_eq_false c2, decide_eq_false c4, decide_eq_false c3, decide_eq_false c5] at hP; exact hP
  · rw [decide_eq_false c1] at hP; exact hP
theorem fn_ts68 {V : Nat → Int64} {q : Nat} (hq : q < 12) {I : Nat → Nat → Int32} {J : Nat → Nat → Int64} {T : Option Nat} {P : Int64 → (Nat → Nat → Int32) → (Nat → Nat → Int64) → Option Nat → Prop} (hv : ∀ k, k < 7 → J 96 k = V k) (r : rc_ok (bI I 51 44) V 1 q) (hP : ∀ J2 x, fr_off [(76, 77, 0, 2147483648)] J J2 → (hc_ (bI I 51 44) V 1 q = !decide (lg_cmp x 0 = 0)) → P x I J2 T) : wp_X9_compute_68 (nI q) 1 I J T P := by
  obtain ⟨t, u, e, h1, h2, h3, e1, e2, e3, h4, -⟩ := r
  have e1 : I 72 q = nI t := e1
  have e2 : I 73 q = nI u := e2
  have h4 : t = u ∨ ∃ x, ed_ V (sg_ (I 75) t (u - t)) [] = some [x] := h4
  have hh : hc_ (bI I 51 44) V 1 q = (decide (I 72 q = I 73 q) || !decide (lg_cmp (sv_ V (sg_ (I 75) (tn_ (I 72) q) (tn_ (I 73) q - tn_ (I 72) q))) 0 = 0)) := rfl
  rw [tn_of e1 (by omega), tn_of e2 (by omega), e1, e2] at hh
  have q5 : (nI q).toNatClampNeg = q := nI_clamp (by omega)
  have iq : ix_inb (nI q) 12 = true := nI_in2 hq (by decide)
  unfold wp_X9_compute_68
  rw [q5, e1, e2]
  refine ⟨fun z => absurd z (by decide), fun _ => ⟨iq, fun z => absurd z (by decide), fun _ => ⟨iq, fun z => ?_, fun z => ?_⟩⟩⟩
  · refine hP J 1 fr_refl ?_
    rw [hh, decide_eq_true z]
    rfl
  · rw [decide_eq_false z, Bool.false_or] at hh
    obtain ⟨x, hx⟩ := h4.resolve_left (fun y => z (by rw [y]))
    rw [sv_of hx] at hh
    exact lp_cm68 (V := V) (x := x) (by omega) hv (fun J2 o2 => hP J2 x o2 hh) (m0 := u - t) (by omega) hx
theorem fn_su68 {V : Nat → Int64} {q : Nat} (hq : q < 12) {I : Nat → Nat → Int32} {J : Nat → Nat → Int64} {T : Option Nat} {P : Int64 → (Nat → Nat → Int32) → (Nat → Nat → Int64) → Option Nat → Prop} (hv : ∀ k, k < 7 → J 96 k = V k) (r : rc_ok (bI I 51 44) V 1 q) (hP : ∀ J2, fr_off [(76, 77, 0, 2147483648)] J J2 → P (os_ (bI I 51 44) V 1 q) I J2 T) : wp_X9_compute_68 (nI q) 0 I J T P := by
  obtain ⟨t, u, e, h1, h2, h3, e1, e2, e3, -, x, hx⟩ := r
  have e2 : I 73 q = nI u := e2
  have e3 : I 74 q = nI e := e3
  have hx : ed_ V (sg_ (I 75) u (e - u)) [] = some [x] := hx
  have hh : os_ (bI I 51 44) V 1 q = sv_ V (sg_ (I 75) (tn_ (I 73) q) (tn_ (I 74) q - tn_ (I 73) q)) := rfl
  rw [tn_of e2 (by omega), tn_of e3 (by omega), sv_of hx] at hh
  have q5 : (nI q).toNatClampNeg = q := nI_clamp (by omega)
  have iq : ix_inb (nI q) 12 = true := nI_in2 hq (by decide)
  unfold wp_X9_compute_68
  rw [q5, e2, e3]
  refine ⟨fun _ => ⟨iq, fun _ => ⟨iq, fun z => absurd ((nI_eq (by omega) (by omega)).mp z) (by omega), fun z => ?_⟩, fun z => absurd rfl z⟩, fun z => absurd rfl z⟩
  exact lp_cm68 (V := V) (x := x) (by omega) hv (fun J2 o2 => by rw [← hh]; exact hP J2 o2) (m0 := e - u) (by omega) hx
theorem lp_cf68 {V : Nat → Int64} {k g : Nat} {x1 a b c day : Int32} (hk : k ≤ 12) (hg : g ≤ 40) {I : Nat → Nat → Int32} {J : Nat → Nat → Int64} {T : Option Nat} {P : Int32 → (Nat → Nat → Int32) → (Nat → Nat → Int64) → Option Nat → Prop} (ek : I 68 0 = nI k) (eg : I 51 3 = nI g) (h58 : ∀ k, k < g → I 58 k = 0 ∨ I 58 k = 1) (ea : I 95 0 = a) (eb : I 95 1 = b) (ed : I 95 3 = day) (hv : ∀ k, k < 7 → J 96 k = V k) (r : ∀ q, q < k → rc_ok (bI I 51 44) V 1 q) (hP : ∀ J2, fr_off [(76, 77, 0, 2147483648)] J J2 → P (fv_ (cl_ (bI I 51 44) V x1 a b c day 1)) I J2 T) : wl_X8_clauseFor_56_c95_c68 x1 (nI 1) c 0 I J T P := by
  have hcl : cl_ (bI I 51 44) V x1 a b c day 1 = fi_ (oq_ (bI I 51 44) V x1 a b c day 1) (I 68 0).toNatClampNeg 0 := rfl
  rw [ek, nI_clamp (show k < 2 ^ 31 by omega)] at hcl
  have ou : ∀ y z, ou_ (bI I 51 44) y (nI 1) z day = (sc_o (fun k => decide (I 54 k = y ∧ I 55 k = nI 1 ∧ I 56 k = z)) (I 57) (I 58) day g).1 := fun y z => by
    have : ou_ (bI I 51 44) y (nI 1) z day = (sc_o (fun k => decide (I 54 k = y ∧ I 55 k = nI 1 ∧ I 56 k = z)) (I 57) (I 58) day (I 51 3).toNatClampNeg).1 := rfl
    rw [this, eg, nI_clamp (show g < 2 ^ 31 by omega)]
  rw [hcl] at hP
  subst ea eb ed
  intro U hU
  have key : ∀ (m q : Nat) (J1 : Nat → Nat → Int64), q + m = k → fr_off [(76, 77, 0, 2147483648)] J J1 → fi_ (oq_ (bI I 51 44) V x1 (I 95 0) (I 95 1) c (I 95 3) 1) m q = fi_ (oq_ (bI I 51 44) V x1 (I 95 0) (I 95 1) c (I 95 3) 1) k 0 → U x1 (nI 1) c (nI q) I J1 T := by
    intro m
    induction m with
    | zero =>
      intro q J1 hq oj e
      have hq : q = k := by omega
      subst hq
      apply hU
      unfold wb_X8_clauseFor_56_c95_c68 wp_X9_count_68
      rw [ek]
      have hp := hP J1 oj
      rw [← e] at hp
      exact ⟨fun z => absurd z (nI_nlt (Nat.le_refl _) (by omega)), fun _ => hp⟩
    | succ m ih =>
      intro q J1 hq oj e
      have j6 : J1 96 = J 96 := fr_rw1 oj 96 rfl
      have hv1 : ∀ k, k < 7 → J1 96 k = V k := by rw [j6]; exact hv
      have eq : oq_ (bI I 51 44) V x1 (I 95 0) (I 95 1) c (I 95 3) 1 q = (sb_ (I 69 q) (I 70 q) (I 71 q) x1 (I 95 0) (I 95 1) && (decide (ou_ (bI I 51 44) (I 95 0) (nI 1) (nI q) (I 95 3) = 0) && (decide (ou_ (bI I 51 44) c (nI 1) (nI q) (I 95 3) = 0) && hc_ (bI I 51 44) V 1 q))) := rfl
      rw [ou, ou] at eq
      rw [fi_, eq] at e
      apply hU
      unfold wb_X8_clauseFor_56_c95_c68 wp_X9_count_68 wp_X6_from wp_X6_to wp_X6_day wp_X8_isOutOf
      dsimp only
      rw [ek, nI_1]
      refine ⟨fun _ => ?_, fun z => absurd (nI_lt (by omega) (by omega)) z⟩
      have no : ∀ J2, fr_off [(76, 77, 0, 2147483648)] J J2 → fi_ (oq_ (bI I 51 44) V x1 (I 95 0) (I 95 1) c (I 95 3) 1) m (q + 1) = fi_ (oq_ (bI I 51 44) V x1 (I 95 0) (I 95 1) c (I 95 3) 1) k 0 → U x1 (nI 1) c (nI (q + 1)) I J2 T := fun J2 o2 e2 => ih (q + 1) J2 (by omega) o2 e2
      refine fn_sv68 (by omega) ?_
      cases c1 : sb_ (I 69 q) (I 70 q) (I 71 q) x1 (I 95 0) (I 95 1) with
      | false =>
        rw [c1] at e
        exact ⟨fun _ => no J1 oj e, fun z => absurd rfl z⟩
      | true =>
        rw [c1, Bool.true_and] at e
        refine ⟨fun z => absurd z (by decide), fun _ => lp_outC hg eg h58 ⟨fun c2 => lp_outC hg eg h58 ⟨fun c3 => ?_, fun c3 => ?_⟩, fun c2 => ?_⟩⟩
        · rw [decide_eq_true c2, decide_eq_true c3, Bool.true_and, Bool.true_and] at e
          refine fn_ts68 (by omega) hv1 (r q (by omega)) (fun J2 x o2 ex => ?_)
          rw [ex] at e
          refine ⟨fun z => no J2 (fr_trans oj o2) ?_, fun z => ?_⟩
          · rw [decide_eq_true z] at e
            exact e
          · rw [decide_eq_false z] at e
            have hp := hP J2 (fr_trans oj o2)
            rw [← e] at hp
            exact hp
        · rw [decide_eq_true c2, decide_eq_false c3] at e
          exact no J1 oj e
        · rw [decide_eq_false c2] at e
          exact no J1 oj e
  exact key k 0 J (by omega) fr_refl rfl
theorem fn_sv77 {q : Nat} {x1 a b : Int32} (hq : q < 12) {I : Nat → Nat → Int32} {J : Nat → Nat → Int64} {T : Option Nat} {P : Int32 → (Nat → Nat → Int32) → (Nat → Nat → Int64) → Option Nat → Prop} (hP : P (s01_ (sb_ (I 78 q) (I 79 q) (I 80 q) x1 a b)) I J T) : wp_X9_serves_77 (nI q) x1 a b I J T P := by
  have q5 : (nI q).toNatClampNeg = q := nI_clamp (by omega)
  have iq : ix_inb (nI q) 12 = true := nI_in2 hq (by decide)
  unfold wp_X9_serves_77
  rw [q5]
  unfold sb_ at hP
  refine ⟨iq, fun c1 => ⟨iq, fun c2 => ⟨iq, fun c3 => ?_, fun c3 => ⟨iq, fun c4 => ?_, fun c4 => ?_⟩⟩, fun c2 => ⟨iq, fun c4 => ?_, fun c4 => ⟨iq, fun c3 => ?_, fun c3 => ⟨iq, fun c5 => ?_, fun c5 => ?_⟩⟩⟩⟩, fun c1 => ?_⟩
  · rw [decide_eq_true c1, decide_eq_true c2, decide_eq_true c3] at hP; exact hP
  · rw [decide_eq_true c1, decide_eq_true c2, decide_eq_false c3, decide_eq_true c4] at hP; exact hP
  · rw [decide_eq_true c1, decide_eq_true c2, decide_eq_false c3, decide_eq_false c4] at hP; exact hP
  · rw [decide_eq_true c1, decide_eq_false c2, decide_eq_true c4] at hP; exact hP
  · rw [decide_eq_true c1, decide_eq_false c2, decide_eq_false c4, decide_eq_true c3] at hP; exact hP
  · rw [decide_eq_true c1, decide_eq_false c2, decide_eq_false c4, decide_eq_false c3, decide_eq_true c5] at hP; exact hP
  · rw [decide_eq_true c1, decide_eq_false c2, decide_eq_false c4, decide_eq_false c3, decide_eq_false c5] at hP; exact hP
  · rw [decide_eq_false c1] at hP; exact hP
theorem fn_ts77 {V : Nat → Int64} {q : Nat} (hq : q < 12) {I : Nat → Nat → Int32} {J : Nat → Nat → Int64} {T : Option Nat} {P : Int64 → (Nat → Nat → Int32) → (Nat → Nat → Int64) → Option Nat → Prop} (hv : ∀ k, k < 7 → J 96 k = V k) (r : rc_ok (bI I 51 44) V 2 q) (hP : ∀ J2 x, fr_off [(85, 86, 0, 2147483648)] J J2 → (hc_ (bI I 51 44) V 2 q = !decide (lg_cmp x 0 = 0)) → P x I J2 T) : wp_X9_compute_77 (nI q) 1 I J T P := by
  obtain ⟨t, u, e, h1, h2, h3, e1, e2, e3, h4, -⟩ := r
  have e1 : I 81 q = nI t := e1
  have e2 : I 82 q = nI u := e2
  have h4 : t = u ∨ ∃ x, ed_ V (sg_ (I 84) t (u - t)) [] = some [x] := h4
  have hh : hc_ (bI I 51 44) V 2 q = (decide (I 81 q = I 82 q) || !decide (lg_cmp (sv_ V (sg_ (I 84) (tn_ (I 81) q) (tn_ (I 82) q - tn_ (I 81) q))) 0 = 0)) := rfl
  rw [tn_of e1 (by omega), tn_of e2 (by omega), e1, e2] at hh
  have q5 : (nI q).toNatClampNeg = q := nI_clamp (by omega)
  have iq : ix_inb (nI q) 12 = true := nI_in2 hq (by decide)
  unfold wp_X9_compute_77
  rw [q5, e1, e2]
  refine ⟨fun z => absurd z (by decide), fun _ => ⟨iq, fun z => absurd z (by decide), fun _ => ⟨iq, fun z => ?_, fun z => ?_⟩⟩⟩
  · refine hP J 1 fr_refl ?_
    rw [hh, decide_eq_true z]
    rfl
  · rw [decide_eq_false z, Bool.false_or] at hh
    obtain ⟨x, hx⟩ := h4.resolve_left (fun y => z (by rw [y]))
    rw [sv_of hx] at hh
    exact lp_cm77 (V := V) (x := x) (by omega) hv (fun J2 o2 => hP J2 x o2 hh) (m0 := u - t) (by omega) hx
theorem fn_su77 {V : Nat → Int64} {q : Nat} (hq : q < 12) {I : Nat → Nat → Int32} {J : Nat → Nat → Int64} {T : Option Nat} {P : Int64 → (Nat → Nat → Int32) → (Nat → Nat → Int64) → Option Nat → Prop} (hv : ∀ k, k < 7 → J 96 k = V k) (r : rc_ok (bI I 51 44) V 2 q) (hP : ∀ J2, fr_off [(85, 86, 0, 2147483648)] J J2 → P (os_ (bI I 51 44) V 2 q) I J2 T) : wp_X9_compute_77 (nI q) 0 I J T P := by
  obtain ⟨t, u, e, h1, h2, h3, e1, e2, e3, -, x, hx⟩ := r
  have e2 : I 82 q = nI u := e2
  have e3 : I 83 q = nI e := e3
  have hx : ed_ V (sg_ (I 84) u (e - u)) [] = some [x] := hx
  have hh : os_ (bI I 51 44) V 2 q = sv_ V (sg_ (I 84) (tn_ (I 82) q) (tn_ (I 83) q - tn_ (I 82) q)) := rfl
  rw [tn_of e2 (by omega), tn_of e3 (by omega), sv_of hx] at hh
  have q5 : (nI q).toNatClampNeg = q := nI_clamp (by omega)
  have iq : ix_inb (nI q) 12 = true := nI_in2 hq (by decide)
  unfold wp_X9_compute_77
  rw [q5, e2, e3]
  refine ⟨fun _ => ⟨iq, fun _ => ⟨iq, fun z => absurd ((nI_eq (by omega) (by omega)).mp z) (by omega), fun z => ?_⟩, fun z => absurd rfl z⟩, fun z => absurd rfl z⟩
  exact lp_cm77 (V := V) (x := x) (by omega) hv (fun J2 o2 => by rw [← hh]; exact hP J2 o2) (m0 := e - u) (by omega) hx
theorem lp_cf77 {V : Nat → Int64} {k g : Nat} {x1 a b c day : Int32} (hk : k ≤ 12) (hg : g ≤ 40) {I : Nat → Nat → Int32} {J : Nat → Nat → Int64} {T : Option Nat} {P : Int32 → (Nat → Nat → Int32) → (Nat → Nat → Int64) → Option Nat → Prop} (ek : I 77 0 = nI k) (eg : I 51 3 = nI g) (h58 : ∀ k, k < g → I 58 k = 0 ∨ I 58 k = 1) (ea : I 95 0 = a) (eb : I 95 1 = b) (ed : I 95 3 = day) (hv : ∀ k, k < 7 → J 96 k = V k) (r : ∀ q, q < k → rc_ok (bI I 51 44) V 2 q) (hP : ∀ J2, fr_off [(85, 86, 0, 2147483648)] J J2 → P (fv_ (cl_ (bI I 51 44) V x1 a b c day 2)) I J2 T) : wl_X8_clauseFor_56_c95_c77 x1 (nI 2) c 0 I J T P := by
  have hcl : cl_ (bI I 51 44) V x1 a b c day 2 = fi_ (oq_ (bI I 51 44) V x1 a b c day 2) (I 77 0).toNatClampNeg 0 := rfl
  rw [ek, nI_clamp (show k < 2 ^ 31 by omega)] at hcl
  have ou : ∀ y z, ou_ (bI I 51 44) y (nI 2) z day = (sc_o (fun k => decide (I 54 k = y ∧ I 55 k = nI 2 ∧ I 56 k = z)) (I 57) (I 58) day g).1 := fun y z => by
    have : ou_ (bI I 51 44) y (nI 2) z day = (sc_o (fun k => decide (I 54 k = y ∧ I 55 k = nI 2 ∧ I 56 k = z)) (I 57) (I 58) day (I 51 3).toNatClampNeg).1 := rfl
    rw [this, eg, nI_clamp (show g < 2 ^ 31 by omega)]
  rw [hcl] at hP
  subst ea eb ed
  intro U hU
  have key : ∀ (m q : Nat) (J1 : Nat → Nat → Int64), q + m = k → fr_off [(85, 86, 0, 2147483648)] J J1 → fi_ (oq_ (bI I 51 44) V x1 (I 95 0) (I 95 1) c (I 95 3) 2) m q = fi_ (oq_ (bI I 51 44) V x1 (I 95 0) (I 95 1) c (I 95 3) 2) k 0 → U x1 (nI 2) c (nI q) I J1 T := by
    intro m
    induction m with
    | zero =>
      intro q J1 hq oj e
      have hq : q = k := by omega
      subst hq
      apply hU
      unfold wb_X8_clauseFor_56_c95_c77 wp_X9_count_77
      rw [ek]
      have hp := hP J1 oj
      rw [← e] at hp
      exact ⟨fun z => absurd z (nI_nlt (Nat.le_refl _) (by omega)), fun _ => hp⟩
    | succ m ih =>
      intro q J1 hq oj e
      have j6 : J1 96 = J 96 := fr_rw1 oj 96 rfl
      have hv1 : ∀ k, k < 7 → J1 96 k = V k := by rw [j6]; exact hv
      have eq : oq_ (bI I 51 44) V x1 (I 95 0) (I 95 1) c (I 95 3) 2 q = (sb_ (I 78 q) (I 79 q) (I 80 q) x1 (I 95 0) (I 95 1) && (decide (ou_ (bI I 51 44) (I 95 0) (nI 2) (nI q) (I 95 3) = 0) && (decide (ou_ (bI I 51 44) c (nI 2) (nI q) (I 95 3) = 0) && hc_ (bI I 51 44) V 2 q))) := rfl
      rw [ou, ou] at eq
      rw [fi_, eq] at e
      apply hU
      unfold wb_X8_clauseFor_56_c95_c77 wp_X9_count_77 wp_X6_from wp_X6_to wp_X6_day wp_X8_isOutOf
      dsimp only
      rw [ek, nI_1]
      refine ⟨fun _ => ?_, fun z => absurd (nI_lt (by omega) (by omega)) z⟩
      have no : ∀ J2, fr_off [(85, 86, 0, 2147483648)] J J2 → fi_ (oq_ (bI I 51 44) V x1 (I 95 0) (I 95 1) c (I 95 3) 2) m (q + 1) = fi_ (oq_ (bI I 51 44) V x1 (I 95 0) (I 95 1) c (I 95 3) 2) k 0 → U x1 (nI 2) c (nI (q + 1)) I J2 T := fun J2 o2 e2 => ih (q + 1) J2 (by omega) o2 e2
      refine fn_sv77 (by omega) ?_
      cases c1 : sb_ (I 78 q) (I 79 q) (I 80 q) x1 (I 95 0) (I 95 1) with
      | false =>
        rw [c1] at e
        exact ⟨fun _ => no J1 oj e, fun z => absurd rfl z⟩
      | true =>
        rw [c1, Bool.true_and] at e
        refine ⟨fun z => absurd z (by decide), fun _ => lp_outC hg eg h58 ⟨fun c2 => lp_outC hg eg h58 ⟨fun c3 => ?_, fun c3 => ?_⟩, fun c2 => ?_⟩⟩
        · rw [decide_eq_true c2, decide_eq_true c3, Bool.true_and, Bool.true_and] at e
          refine fn_ts77 (by omega) hv1 (r q (by omega)) (fun J2 x o2 ex => ?_)
          rw [ex] at e
          refine ⟨fun z => no J2 (fr_trans oj o2) ?_, fun z => ?_⟩
          · rw [decide_eq_true z] at e
            exact e
          · rw [decide_eq_false z] at e
            have hp := hP J2 (fr_trans oj o2)
            rw [← e] at hp
            exact hp
        · rw [decide_eq_true c2, decide_eq_false c3] at e
          exact no J1 oj e
        · rw [decide_eq_false c2] at e
          exact no J1 oj e
  exact key k 0 J (by omega) fr_refl rfl
theorem fn_sv86 {q : Nat} {x1 a b : Int32} (hq : q < 12) {I : Nat → Nat → Int32} {J : Nat → Nat → Int64} {T : Option Nat} {P : Int32 → (Nat → Nat → Int32) → (Nat → Nat → Int64) → Option Nat → Prop} (hP : P (s01_ (sb_ (I 87 q) (I 88 q) (I 89 q) x1 a b)) I J T) : wp_X9_serves_86 (nI q) x1 a b I J T P := by
  have q5 : (nI q).toNatClampNeg = q := nI_clamp (by omega)
  have iq : ix_inb (nI q) 12 = true := nI_in2 hq (by decide)
  unfold wp_X9_serves_86
  rw [q5]
  unfold sb_ at hP
  refine ⟨iq, fun c1 => ⟨iq, fun c2 => ⟨iq, fun c3 => ?_, fun c3 => ⟨iq, fun c4 => ?_, fun c4 => ?_⟩⟩, fun c2 => ⟨iq, fun c4 => ?_, fun c4 => ⟨iq, fun c3 => ?_, fun c3 => ⟨iq, fun c5 => ?_, fun c5 => ?_⟩⟩⟩⟩, fun c1 => ?_⟩
  · rw [decide_eq_true c1, decide_eq_true c2, decide_eq_true c3] at hP; exact hP
  · rw [decide_eq_true c1, decide_eq_true c2, decide_eq_false c3, decide_eq_true c4] at hP; exact hP
  · rw [decide_eq_true c1, decide_eq_true c2, decide_eq_false c3, decide_eq_false c4] at hP; exact hP
  · rw [decide_eq_true c1, decide_eq_false c2, decide_eq_true c4] at hP; exact hP
  · rw [decide_eq_true c1, decide_eq_false c2, decide_eq_false c4, decide_eq_true c3] at hP; exact hP
  · rw [decide_eq_true c1, decide_eq_false c2, decide_eq_false c4, decide_eq_false c3, decide_eq_true c5] at hP; exact hP
  · rw [decide_eq_true c1, decide_eq_false c2, decide_eq_false c4, decide_eq_false c3, decide_eq_false c5] at hP; exact hP
  · rw [decide_eq_false c1] at hP; exact hP
theorem fn_ts86 {V : Nat → Int64} {q : Nat} (hq : q < 12) {I : Nat → Nat → Int32} {J : Nat → Nat → Int64} {T : Option Nat} {P : Int64 → (Nat → Nat → Int32) → (Nat → Nat → Int64) → Option Nat → Prop} (hv : ∀ k, k < 7 → J 96 k = V k) (r : rc_ok (bI I 51 44) V 3 q) (hP : ∀ J2 x, fr_off [(94, 95, 0, 2147483648)] J J2 → (hc_ (bI I 51 44) V 3 q = !decide (lg_cmp x 0 = 0)) → P x I J2 T) : wp_X9_compute_86 (nI q) 1 I J T P := by
  obtain ⟨t, u, e, h1, h2, h3, e1, e2, e3, h4, -⟩ := r
  have e1 : I 90 q = nI t := e1
  have e2 : I 91 q = nI u := e2
  have h4 : t = u ∨ ∃ x, ed_ V (sg_ (I 93) t (u - t)) [] = some [x] := h4
  have hh : hc_ (bI I 51 44) V 3 q = (decide (I 90 q = I 91 q) || !decide (lg_cmp (sv_ V (sg_ (I 93) (tn_ (I 90) q) (tn_ (I 91) q - tn_ (I 90) q))) 0 = 0)) := rfl
  rw [tn_of e1 (by omega), tn_of e2 (by omega), e1, e2] at hh
  have q5 : (nI q).toNatClampNeg = q := nI_clamp (by omega)
  have iq : ix_inb (nI q) 12 = true := nI_in2 hq (by decide)
  unfold wp_X9_compute_86
  rw [q5, e1, e2]
  refine ⟨fun z => absurd z (by decide), fun _ => ⟨iq, fun z => absurd z (by decide), fun _ => ⟨iq, fun z => ?_, fun z => ?_⟩⟩⟩
  · refine hP J 1 fr_refl ?_
    rw [hh, decide_eq_true z]
    rfl
  · rw [decide_eq_false z, Bool.false_or] at hh
    obtain ⟨x, hx⟩ := h4.resolve_left (fun y => z (by rw [y]))
    rw [sv_of hx] at hh
    exact lp_cm86 (V := V) (x := x) (by omega) hv (fun J2 o2 => hP J2 x o2 hh) (m0 := u - t) (by omega) hx
theorem fn_su86 {V : Nat → Int64} {q : Nat} (hq : q < 12) {I : Nat → Nat → Int32} {J : Nat → Nat → Int64} {T : Option Nat} {P : Int64 → (Nat → Nat → Int32) → (Nat → Nat → Int64) → Option Nat → Prop} (hv : ∀ k, k < 7 → J 96 k = V k) (r : rc_ok (bI I 51 44) V 3 q) (hP : ∀ J2, fr_off [(94, 95, 0, 2147483648)] J J2 → P (os_ (bI I 51 44) V 3 q) I J2 T) : wp_X9_compute_86 (nI q) 0 I J T P := by
  obtain ⟨t, u, e, h1, h2, h3, e1, e2, e3, -, x, hx⟩ := r
  have e2 : I 91 q = nI u := e2
  have e3 : I 92 q = nI e := e3
  have hx : ed_ V (sg_ (I 93) u (e - u)) [] = some [x] := hx
  have hh : os_ (bI I 51 44) V 3 q = sv_ V (sg_ (I 93) (tn_ (I 91) q) (tn_ (I 92) q - tn_ (I 91) q)) := rfl
  rw [tn_of e2 (by omega), tn_of e3 (by omega), sv_of hx] at hh
  have q5 : (nI q).toNatClampNeg = q := nI_clamp (by omega)
  have iq : ix_inb (nI q) 12 = true := nI_in2 hq (by decide)
  unfold wp_X9_compute_86
  rw [q5, e2, e3]
  refine ⟨fun _ => ⟨iq, fun _ => ⟨iq, fun z => absurd ((nI_eq (by omega) (by omega)).mp z) (by omega), fun z => ?_⟩, fun z => absurd rfl z⟩, fun z => absurd rfl z⟩
  exact lp_cm86 (V := V) (x := x) (by omega) hv (fun J2 o2 => by rw [← hh]; exact hP J2 o2) (m0 := e - u) (by omega) hx
theorem lp_cf86 {V : Nat → Int64} {k g : Nat} {x1 a b c day : Int32} (hk : k ≤ 12) (hg : g ≤ 40) {I : Nat → Nat → Int32} {J : Nat → Nat → Int64} {T : Option Nat} {P : Int32 → (Nat → Nat → Int32) → (Nat → Nat → Int64) → Option Nat → Prop} (ek : I 86 0 = nI k) (eg : I 51 3 = nI g) (h58 : ∀ k, k < g → I 58 k = 0 ∨ I 58 k = 1) (ea : I 95 0 = a) (eb : I 95 1 = b) (ed : I 95 3 = day) (hv : ∀ k, k < 7 → J 96 k = V k) (r : ∀ q, q < k → rc_ok (bI I 51 44) V 3 q) (hP : ∀ J2, fr_off [(94, 95, 0, 2147483648)] J J2 → P (fv_ (cl_ (bI I 51 44) V x1 a b c day 3)) I J2 T) : wl_X8_clauseFor_56_c95_c86 x1 (nI 3) c 0 I J T P := by
  have hcl : cl_ (bI I 51 44) V x1 a b c day 3 = fi_ (oq_ (bI I 51 44) V x1 a b c day 3) (I 86 0).toNatClampNeg 0 := rfl
  rw [ek, nI_clamp (show k < 2 ^ 31 by omega)] at hcl
  have ou : ∀ y z, ou_ (bI I 51 44) y (nI 3) z day = (sc_o (fun k => decide (I 54 k = y ∧ I 55 k = nI 3 ∧ I 56 k = z)) (I 57) (I 58) day g).1 := fun y z => by
    have : ou_ (bI I 51 44) y (nI 3) z day = (sc_o (fun k => decide (I 54 k = y ∧ I 55 k = nI 3 ∧ I 56 k = z)) (I 57) (I 58) day (I 51 3).toNatClampNeg).1 := rfl
    rw [this, eg, nI_clamp (show g < 2 ^ 31 by omega)]
  rw [hcl] at hP
  subst ea eb ed
  intro U hU
  have key : ∀ (m q : Nat) (J1 : Nat → Nat → Int64), q + m = k → fr_off [(94, 95, 0, 2147483648)] J J1 → fi_ (oq_ (bI I 51 44) V x1 (I 95 0) (I 95 1) c (I 95 3) 3) m q = fi_ (oq_ (bI I 51 44) V x1 (I 95 0) (I 95 1) c (I 95 3) 3) k 0 → U x1 (nI 3) c (nI q) I J1 T := by
    intro m
    induction m with
    | zero =>
      intro q J1 hq oj e
      have hq : q = k := by omega
      subst hq
      apply hU
      unfold wb_X8_clauseFor_56_c95_c86 wp_X9_count_86
      rw [ek]
      have hp := hP J1 oj
      rw [← e] at hp
      exact ⟨fun z => absurd z (nI_nlt (Nat.le_refl _) (by omega)), fun _ => hp⟩
    | succ m ih =>
      intro q J1 hq oj e
      have j6 : J1 96 = J 96 := fr_rw1 oj 96 rfl
      have hv1 : ∀ k, k < 7 → J1 96 k = V k := by rw [j6]; exact hv
      have eq : oq_ (bI I 51 44) V x1 (I 95 0) (I 95 1) c (I 95 3) 3 q = (sb_ (I 87 q) (I 88 q) (I 89 q) x1 (I 95 0) (I 95 1) && (decide (ou_ (bI I 51 44) (I 95 0) (nI 3) (nI q) (I 95 3) = 0) && (decide (ou_ (bI I 51 44) c (nI 3) (nI q) (I 95 3) = 0) && hc_ (bI I 51 44) V 3 q))) := rfl
      rw [ou, ou] at eq
      rw [fi_, eq] at e
      apply hU
      unfold wb_X8_clauseFor_56_c95_c86 wp_X9_count_86 wp_X6_from wp_X6_to wp_X6_day wp_X8_isOutOf
      dsimp only
      rw [ek, nI_1]
      refine ⟨fun _ => ?_, fun z => absurd (nI_lt (by omega) (by omega)) z⟩
      have no : ∀ J2, fr_off [(94, 95, 0, 2147483648)] J J2 → fi_ (oq_ (bI I 51 44) V x1 (I 95 0) (I 95 1) c (I 95 3) 3) m (q + 1) = fi_ (oq_ (bI I 51 44) V x1 (I 95 0) (I 95 1) c (I 95 3) 3) k 0 → U x1 (nI 3) c (nI (q + 1)) I J2 T := fun J2 o2 e2 => ih (q + 1) J2 (by omega) o2 e2
      refine fn_sv86 (by omega) ?_
      cases c1 : sb_ (I 87 q) (I 88 q) (I 89 q) x1 (I 95 0) (I 95 1) with
      | false =>
        rw [c1] at e
        exact ⟨fun _ => no J1 oj e, fun z => absurd rfl z⟩
      | true =>
        rw [c1, Bool.true_and] at e
        refine ⟨fun z => absurd z (by decide), fun _ => lp_outC hg eg h58 ⟨fun c2 => lp_outC hg eg h58 ⟨fun c3 => ?_, fun c3 => ?_⟩, fun c2 => ?_⟩⟩
        · rw [decide_eq_true c2, decide_eq_true c3, Bool.true_and, Bool.true_and] at e
          refine fn_ts86 (by omega) hv1 (r q (by omega)) (fun J2 x o2 ex => ?_)
          rw [ex] at e
          refine ⟨fun z => no J2 (fr_trans oj o2) ?_, fun z => ?_⟩
          · rw [decide_eq_true z] at e
            exact e
          · rw [decide_eq_false z] at e
            have hp := hP J2 (fr_trans oj o2)
            rw [← e] at hp
            exact hp
        · rw [decide_eq_true c2, decide_eq_false c3] at e
          exact no J1 oj e
        · rw [decide_eq_false c2] at e
          exact no J1 oj e
  exact key k 0 J (by omega) fr_refl rfl
