/-! treaties: the reference's tests -/
def s01_ (b : Bool) : Int32 := if b then 1 else 0
theorem tn_nI {f : Nat → Int32} {k : Nat} (h : 0 ≤ (f k).toInt) : f k = nI (tn_ f k) := by
  rw [nI_iZ]
  conv => lhs; rw [iZ_of (f k)]
  refine congrArg iZ ?_
  show (f k).toInt = (((f k).toInt.toNat : Nat) : Int)
  omega
theorem tn_ps {f : Nat → Int32} {k : Nat} (h : 0 < tn_ f k) : 0 ≤ (f k).toInt := by
  have h : 0 < (f k).toInt.toNat := h
  omega
theorem fn_wk {V : Nat → Int64} {a b S : Nat} {x y : Int32} (ex : x = nI a) (ey : y = nI b) (hS : S ≤ 3000) {I : Nat → Nat → Int32} {J : Nat → Nat → Int64} {T : Option Nat} {P : Int64 → (Nat → Nat → Int32) → (Nat → Nat → Int64) → Option Nat → Prop} (hs : tc_sum (I 232) (J 233) S a b) (hv : ∀ k, k < 7 → J 241 k = V k) (hP : ∀ J2, fr_off [(242, 243, 0, 2147483648)] J J2 → P (sv_ V (tc_sig (I 232) (J 233) a (b - a))) I J2 T) : wp_X12_work x y I J T P := by
  obtain ⟨h1, h2, h3, d, -, h4⟩ := hs
  rw [ex, ey]
  unfold wp_X12_work
  exact lp_work (V := V) (by omega) hv hP (m0 := b - a) (by omega) h3 (sv_ok h4 (by simp))
theorem lp_j166 {c k : Nat} {p q : Bool} (hk : k < 1000) {I : Nat → Nat → Int32} {J : Nat → Nat → Int64} {T : Option Nat} {P : Int32 → (Nat → Nat → Int32) → (Nat → Nat → Int64) → Option Nat → Prop} {V26 : Int32 → Int32 → Int32 → (Nat → Nat → Int32) → (Nat → Nat → Int64) → Option Nat → Prop} (h4 : I 230 k = 0 ∨ I 230 k = 1) (nx : V26 (nI c) (s01_ (p && (q != decide (I 230 k = 1)))) (nI (k + 1)) I J T) : wj_X12_holds_j166_26 (nI c) (s01_ p) (nI k) (s01_ q) I J T V26 P := by
  unfold wj_X12_holds_j166_26 wj_X12_holds_j187_26 wj_X12_holds_j188_26
  rw [nI_clamp (show k < 2 ^ 31 by omega), nI_1]
  have ik : ix_inb (nI k) 1000 = true := nI_in2 hk (by decide)
  cases p with
  | false => exact ⟨fun _ => nx, fun z => absurd rfl z⟩
  | true =>
    refine ⟨fun z => absurd z (by decide), fun _ => ⟨ik, ?_⟩⟩
    rw [Bool.true_and] at nx
    rcases h4 with e | e
    · rw [e] at nx ⊢
      cases q with
      | false => exact ⟨fun _ => nx, fun z => absurd rfl z⟩
      | true => exact ⟨fun z => absurd z (by decide), fun _ => nx⟩
    · rw [e] at nx ⊢
      cases q with
      | false => exact ⟨fun z => absurd z (by decide), fun _ => nx⟩
      | true => exact ⟨fun _ => nx, fun z => absurd rfl z⟩
theorem lp_j63 {V : Nat → Int64} {c k S : Nat} {p : Bool} (hk : k < 1000) (hS : S ≤ 3000) {I : Nat → Nat → Int32} {J : Nat → Nat → Int64} {T : Option Nat} {P : Int32 → (Nat → Nat → Int32) → (Nat → Nat → Int64) → Option Nat → Prop} {V26 : Int32 → Int32 → Int32 → (Nat → Nat → Int32) → (Nat → Nat → Int64) → Option Nat → Prop} (hv : ∀ k, k < 7 → J 241 k = V k) (p1 : 0 ≤ (I 225 k).toInt) (p2 : 0 ≤ (I 227 k).toInt) (hok : tt_ok (I 232) (J 233) (tn_ (I 225)) (tn_ (I 226)) (tn_ (I 227)) (tn_ (I 228)) (I 229) (I 230) (I 231) S k) (nx : ∀ J2, fr_off [(242, 243, 0, 2147483648)] J J2 → V26 (nI c) (s01_ (p && tb_ V (I 232) (J 233) (tn_ (I 225)) (tn_ (I 226)) (tn_ (I 227)) (tn_ (I 228)) (I 229) (I 230) k)) (nI (k + 1)) I J2 T) : wj_X12_holds_j63_26 (nI c) (s01_ p) (nI k) I J T V26 P := by
  obtain ⟨h1, h2, h3, h4, -⟩ := hok
  unfold wj_X12_holds_j63_26
  have k5 : (nI k).toNatClampNeg = k := nI_clamp (by omega)
  have ik : ix_inb (nI k) 1000 = true := nI_in2 hk (by decide)
  rw [k5]
  refine ⟨ik, ik, ?_⟩
  refine fn_wk (V := V) (tn_nI p1) (tn_nI (tn_ps (by have := h1.1; omega))) hS h1 hv (fun J2 o2 => ⟨ik, ik, ?_⟩)
  have j3 : J2 233 = J 233 := fr_rw1 o2 233 rfl
  have j4 : J2 241 = J 241 := fr_rw1 o2 241 rfl
  refine fn_wk (V := V) (tn_nI p2) (tn_nI (tn_ps (by have := h2.1; omega))) hS (by rw [j3]; exact h2) (by rw [j4]; exact hv) (fun J3 o3 => ⟨ik, ?_⟩)
  rw [j3]
  have nx := nx J3 (fr_trans o2 o3)
  unfold tb_ at nx
  generalize sv_ V (tc_sig (I 232) (J 233) (tn_ (I 225) k) (tn_ (I 226) k - tn_ (I 225) k)) = A at nx ⊢
  generalize sv_ V (tc_sig (I 232) (J 233) (tn_ (I 227) k) (tn_ (I 228) k - tn_ (I 227) k)) = B at nx ⊢
  unfold cb_ at nx
  rcases h3 with e | e | e
  · rw [e] at nx ⊢
    rw [if_pos rfl] at nx
    refine ⟨fun _ => ⟨fun z => ?_, fun z => ?_⟩, fun z => absurd rfl z⟩
    · rw [decide_eq_true z] at nx; exact lp_j166 (q := true) hk h4 nx
    · rw [decide_eq_false z] at nx; exact lp_j166 (q := false) hk h4 nx
  · rw [e] at nx ⊢
    rw [if_neg (by decide), if_neg (by decide)] at nx
    refine ⟨fun z => absurd z (by decide), fun _ => ⟨ik, fun z => absurd z (by decide), fun _ => ⟨fun z => ?_, fun z => ?_⟩⟩⟩
    · rw [decide_eq_true z] at nx; exact lp_j166 (q := true) hk h4 nx
    · rw [decide_eq_false z] at nx; exact lp_j166 (q := false) hk h4 nx
  · rw [e] at nx ⊢
    rw [if_neg (by decide), if_pos rfl] at nx
    refine ⟨fun z => absurd z (by decide), fun _ => ⟨ik, fun _ => ⟨fun z => ?_, fun z => ?_⟩, fun z => absurd rfl z⟩⟩
    · rw [decide_eq_true z] at nx; exact lp_j166 (q := false) hk h4 nx
    · rw [decide_eq_false z] at nx; exact lp_j166 (q := true) hk h4 nx
section
variable (V : Nat → Int64) (s : Nat → Int32) (o : Nat → Int64) (lA lB rA rB : Nat → Nat) (cm nt bg : Nat → Int32)
def hq_ (a b : Nat) : Bool := if a = b then true else hv_ V s o lA lB rA rB cm nt bg (b - a - 1) (a + 1) (tb_ V s o lA lB rA rB cm nt a)
end
theorem fn_holds {V : Nat → Int64} {c a b S : Nat} (hc : c < 60) (hab : a ≤ b) (hb : b ≤ 1000) (hS : S ≤ 3000) {I : Nat → Nat → Int32} {J : Nat → Nat → Int64} {T : Option Nat} {P : Int32 → (Nat → Nat → Int32) → (Nat → Nat → Int64) → Option Nat → Prop} (eA : I 220 c = nI a) (eB : I 221 c = nI b) (hv : ∀ k, k < 7 → J 241 k = V k) (hok : ∀ k, a ≤ k → k < b → 0 ≤ (I 225 k).toInt ∧ 0 ≤ (I 227 k).toInt ∧ tt_ok (I 232) (J 233) (tn_ (I 225)) (tn_ (I 226)) (tn_ (I 227)) (tn_ (I 228)) (I 229) (I 230) (I 231) S k) (hP : ∀ J2, fr_off [(242, 243, 0, 2147483648)] J J2 → P (s01_ (hq_ V (I 232) (J 233) (tn_ (I 225)) (tn_ (I 226)) (tn_ (I 227)) (tn_ (I 228)) (I 229) (I 230) (I 231) a b)) I J2 T) : wp_X12_holds (nI c) I J T P := by
  have c5 : (nI c).toNatClampNeg = c := nI_clamp (by omega)
  have ic : ix_inb (nI c) 60 = true := nI_in2 hc (by decide)
  unfold wp_X12_holds
  rw [c5, eA, eB]
  unfold hq_ at hP
  by_cases ab : a = b
  · rw [if_pos ab] at hP
    exact ⟨ic, ic, fun _ => hP J fr_refl, fun z => absurd (by rw [ab]) z⟩
  · rw [if_neg ab] at hP
    refine ⟨ic, ic, fun z => absurd ((nI_eq (by omega) (by omega)).mp z) ab, fun _ => ⟨ic, ?_⟩⟩
    intro W hW
    have st : ∀ (k : Nat) (p : Bool) (J1 : Nat → Nat → Int64), a ≤ k → k < b → fr_off [(242, 243, 0, 2147483648)] J J1 → (∀ J2, fr_off [(242, 243, 0, 2147483648)] J J2 → W (nI c) (s01_ (p && tb_ V (I 232) (J 233) (tn_ (I 225)) (tn_ (I 226)) (tn_ (I 227)) (tn_ (I 228)) (I 229) (I 230) k)) (nI (k + 1)) I J2 T) → wj_X12_holds_j63_26 (nI c) (s01_ p) (nI k) I J1 T W P := by
      intro k p J1 k1 k2 o nx
      obtain ⟨q1, q2, q3⟩ := hok k k1 k2
      have j3 : J1 233 = J 233 := fr_rw1 o 233 rfl
      have j4 : J1 241 = J 241 := fr_rw1 o 241 rfl
      rw [← j3] at q3 nx
      exact lp_j63 (V := V) (S := S) (by omega) hS (by rw [j4]; exact hv) q1 q2 q3 (fun J2 o2 => nx J2 (fr_trans o o2))
    have key : ∀ (n k : Nat) (p : Bool) (J1 : Nat → Nat → Int64), k + n = b → a < k → fr_off [(242, 243, 0, 2147483648)] J J1 → hv_ V (I 232) (J 233) (tn_ (I 225)) (tn_ (I 226)) (tn_ (I 227)) (tn_ (I 228)) (I 229) (I 230) (I 231) n k p = hv_ V (I 232) (J 233) (tn_ (I 225)) (tn_ (I 226)) (tn_ (I 227)) (tn_ (I 228)) (I 229) (I 230) (I 231) (b - a - 1) (a + 1) (tb_ V (I 232) (J 233) (tn_ (I 225)) (tn_ (I 226)) (tn_ (I 227)) (tn_ (I 228)) (I 229) (I 230) a) → W (nI c) (s01_ p) (nI k) I J1 T := by
      intro n
      induction n with
      | zero =>
        intro k p J1 hk _ o e
        have hk : k = b := by omega
        subst hk
        apply hW
        unfold wb_X12_holds_26
        rw [c5, eB]
        have hp := hP J1 o
        rw [← e] at hp
        exact ⟨ic, fun z => absurd z (nI_nlt (Nat.le_refl _) (by omega)), fun _ => ⟨by cases p <;> rfl, hp⟩⟩
      | succ n ih =>
        intro k p J1 hk hak o e
        have k5 : (nI k).toNatClampNeg = k := nI_clamp (by omega)
        have ik : ix_inb (nI k) 1000 = true := nI_in2 (by omega) (by decide)
        rw [hv_] at e
        apply hW
        unfold wb_X12_holds_26
        rw [c5, k5, eA, eB]
        refine ⟨ic, fun _ => ⟨ik, fun z => ?_, fun z => ⟨ic, fun y => ?_, fun y => ?_⟩⟩, fun z => absurd (nI_lt (by omega) (by omega)) z⟩
        · rw [if_neg (by rw [z]; decide)] at e
          exact st k p J1 (by omega) (by omega) o (fun J2 o2 => ih (k + 1) _ J2 (by omega) (by omega) o2 e)
        · rw [Int32.le_iff_toInt_le, nI_toInt (by omega), nI_toInt (by omega)] at y
          omega
        · have e1 : I 231 k = 1 := by
            obtain ⟨-, -, -, -, -, -, r⟩ := hok k (by omega) (by omega)
            exact r.resolve_left z
          rw [if_pos e1] at e
          cases p with
          | true =>
            have hp := hP J1 o
            rw [← e] at hp
            exact ⟨fun q => absurd q (by decide), fun _ => hp⟩
          | false => exact ⟨fun _ => st k true J1 (by omega) (by omega) o (fun J2 o2 => ih (k + 1) _ J2 (by omega) (by omega) o2 (by rw [Bool.true_and]; exact e)), fun q => absurd rfl q⟩
    apply hW
    unfold wb_X12_holds_26
    have a5 : (nI a).toNatClampNeg = a := nI_clamp (by omega)
    have ia : ix_inb (nI a) 1000 = true := nI_in2 (by omega) (by decide)
    rw [c5, a5, eA, eB]
    have s0 := st a true J (Nat.le_refl _) (by omega) fr_refl (fun J2 o2 => key (b - a - 1) (a + 1) _ J2 (by omega) (by omega) o2 (by rw [Bool.true_and]))
    exact ⟨ic, fun _ => ⟨ia, fun _ => s0, fun _ => ⟨ic, fun _ => s0, fun z => absurd (Int32.le_iff_toInt_le.mpr (Int.le_refl _)) z⟩⟩, fun z => absurd (nI_lt (by omega) (by omega)) z⟩
/-- the code of a test and the reference's ones come to the same -/
theorem hq_sv {V : Nat → Int64} {s : Nat → Int32} {o : Nat → Int64} {lA lB rA rB : Nat → Nat} {cm nt bg : Nat → Int32} {S a b : Nat} (hab : a < b) (h : ∀ k, a ≤ k → k < b → tt_ok s o lA lB rA rB cm nt bg S k) : ed_ V (tt_all s o lA lB rA rB cm nt bg a (b - a)) [] = some [b2_ (hq_ V s o lA lB rA rB cm nt bg a b)] := by
  have e : b - a = (b - a - 1) + 1 := by omega
  have := ed_all (V := V) (S := S) (n := b - a - 1) (k := a) (s := s) (o := o) (lA := lA) (lB := lB) (rA := rA) (rB := rB) (cm := cm) (nt := nt) (bg := bg) (fun j h1 h2 => h j h1 (by omega))
  rw [← e] at this
  rw [this]
  unfold hq_
  rw [if_neg (by omega)]
theorem sv_of {V : Nat → Int64} {t : List Int32} {x : Int64} (h : ed_ V t [] = some [x]) : sv_ V t = x := by
  unfold sv_
  rw [h]
  rfl
