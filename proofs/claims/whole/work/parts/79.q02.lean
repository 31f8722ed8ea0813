/-! treaties: the loops that work a sum out -/
theorem iv_0 {k : Int32} {I : Nat → Nat → Int32} {J : Nat → Nat → Int64} {T : Option Nat} {P : Int32 → (Nat → Nat → Int32) → (Nat → Nat → Int64) → Option Nat → Prop} (h : k.toInt < 11 ∨ 17 < k.toInt) (hP : P 0 I J T) : wp_X7_isVariable k I J T P := by
  unfold wp_X7_isVariable
  rw [Int32.lt_iff_toInt_lt, Int32.le_iff_toInt_le]
  refine ⟨fun _ => hP, fun q => ⟨fun r => ?_, fun _ => hP⟩⟩
  have q : ¬ k.toInt < 11 := q
  have r : k.toInt ≤ 17 := r
  omega
theorem iv_1 {k : Int32} {I : Nat → Nat → Int32} {J : Nat → Nat → Int64} {T : Option Nat} {P : Int32 → (Nat → Nat → Int32) → (Nat → Nat → Int64) → Option Nat → Prop} (h : 11 ≤ k.toInt) (h2 : k.toInt ≤ 17) (hP : P 1 I J T) : wp_X7_isVariable k I J T P := by
  unfold wp_X7_isVariable
  rw [Int32.lt_iff_toInt_lt, Int32.le_iff_toInt_le]
  refine ⟨fun q => ?_, fun _ => ⟨fun r => hP, fun q => absurd h2 q⟩⟩
  have q : k.toInt < 11 := q
  omega
theorem nI_p1 (n : Nat) : nI (n + 1) + -1 = nI n := by
  rw [nI_iZ, nI_iZ, iZ_m1, iZ_add]
  exact congrArg iZ (by omega)
theorem nI_s1 (n : Nat) : nI (n + 1) - 1 = nI n := by
  rw [nI_iZ, nI_iZ, show (1 : Int32) = iZ 1 from rfl, iZ_sub]
  exact congrArg iZ (by omega)
theorem nI_s2 (n : Nat) : nI (n + 2) - 2 = nI n := by
  rw [nI_iZ, nI_iZ, show (2 : Int32) = iZ 2 from rfl, iZ_sub]
  exact congrArg iZ (by omega)
theorem fn_var {i : Nat} (h : i < 7) {I : Nat → Nat → Int32} {J : Nat → Nat → Int64} {T : Option Nat} {P : Int64 → (Nat → Nat → Int32) → (Nat → Nat → Int64) → Option Nat → Prop} (hP : P (J 96 i) I J T) : wp_X6_variable (nI i) I J T P := by
  unfold wp_X6_variable
  rw [nI_clamp (show i < 2 ^ 31 by omega)]
  refine ⟨fun q => absurd q (nI_nlt (a := i) (b := 0) (by omega) (by omega)), fun _ => ⟨fun _ => ⟨nI_in2 h (by decide), hP⟩, fun q => absurd (nI_lt (a := i) (b := 7) h (by omega)) q⟩⟩
theorem sk_put {J1 : Nat → Nat → Int64} {r : Nat} {L : List Int64} {v : Int64} (h : sk_ (J1 r) L) : sk_ (ix_u2 J1 r L.length v r) (v :: L) := ⟨by simp [ix_u2], sk_eq (fun j hj => u2_j (by omega)) h⟩
theorem lp_cm59 {V : Nat → Int64} {x : Int64} {e : Nat} (he : e ≤ 600) {I : Nat → Nat → Int32} {J : Nat → Nat → Int64} {T : Option Nat} {P : Int64 → (Nat → Nat → Int32) → (Nat → Nat → Int64) → Option Nat → Prop} (hv : ∀ k, k < 7 → J 96 k = V k) (hP : ∀ J2, fr_off [(67, 68, 0, 2147483648)] J J2 → P x I J2 T) {a0 m0 : Nat} (h0 : a0 + m0 = e) (hE : ed_ V (sg_ (I 66) a0 m0) [] = some [x]) : wl_X9_compute_59_58_c95 (nI e) 0 (nI a0) I J T P := by
  intro W hW
  have key : ∀ m a : Nat, ∀ (L : List Int64) (J1 : Nat → Nat → Int64), a + m = e → fr_off [(67, 68, 0, 2147483648)] J J1 → sk_ (J1 67) L → L.length ≤ 48 → ed_ V (sg_ (I 66) a m) L = some [x] → W (nI e) (nI L.length) (nI a) I J1 T := by
    intro m
    induction m with
    | zero =>
      intro a L J1 ha o k l E
      have ha : a = e := by omega
      subst ha
      have E : L = [x] := Option.some.inj E
      subst E
      apply hW
      unfold wb_X9_compute_59_58_c95
      have hp := hP J1 o
      rw [← k.1] at hp
      exact ⟨fun q => absurd q (nI_nlt (Nat.le_refl _) (by omega)), fun _ => ⟨fun q => absurd q (by show ¬ nI 1 ≤ 0; decide), fun _ => hp⟩⟩
    | succ m ih =>
      intro a L J1 ha o k l E
      rw [sg_cons, ed_] at E
      have a5 : (nI a).toNatClampNeg = a := nI_clamp (by omega)
      have ia : ix_inb (nI a) 600 = true := nI_in2 (by omega) (by decide)
      have ae : nI a < nI e := nI_lt (by omega) (by omega)
      have a6 : nI a < 600 := nI_lt (a := a) (b := 600) (by omega) (by omega)
      have kc := km_ (I 66 a)
      apply hW
      unfold wb_X9_compute_59_58_c95
      rw [a5]
      refine ⟨fun _ => ⟨fun _ => ⟨ia, ?_⟩, fun q => absurd a6 q⟩, fun q => absurd ae q⟩
      unfold es_ at E
      by_cases z : 0 ≤ I 66 a
      · rw [if_pos z] at E
        have z' : 0 ≤ (I 66 a).toInt := Int32.le_iff_toInt_le.mp z
        have kn : (-1 - I 66 a : Int32) < 0 := Int32.lt_iff_toInt_lt.mpr (by rw [kc]; show _ < (0 : Int); omega)
        by_cases l8 : L.length < 48
        · rw [if_pos l8, Option.bind_some] at E
          have il : ix_inb (nI L.length) 48 = true := nI_in2 l8 (by decide)
          refine ⟨fun _ => ⟨fun _ => ⟨fun _ => ⟨ia, il, ?_⟩, fun q => absurd kn q⟩, fun q => absurd (nI_lt (a := L.length) (b := 48) l8 (by omega)) q⟩, fun q => absurd kn q⟩
          rw [nI_clamp (show L.length < 2 ^ 31 by omega), nI_1, nI_1]
          exact ih (a + 1) (_ :: L) _ (by omega) (fr_putn rfl (by omega) o) (sk_put k) (by simp; omega) E
        · rw [if_neg l8] at E; cases E
      · have z' : (I 66 a).toInt < 0 := by
          have : ¬ 0 ≤ (I 66 a).toInt := fun q => z (Int32.le_iff_toInt_le.mpr q)
          omega
        have kn : ¬ (-1 - I 66 a : Int32) < 0 := fun q => by
          have q := Int32.lt_iff_toInt_lt.mp q
          rw [kc] at q
          have q : -1 - (I 66 a).toInt < 0 := q
          omega
        rw [if_neg z] at E
        refine ⟨fun q => absurd q kn, fun _ => ?_⟩
        by_cases p : tc_push (I 66 a) = true
        · rw [if_pos p] at E
          have p' : -18 ≤ (I 66 a).toInt ∧ (I 66 a).toInt ≤ -12 := by
            unfold tc_push at p
            rw [decide_eq_false z, Bool.false_or, Bool.and_eq_true, decide_eq_true_eq, decide_eq_true_eq, Int32.le_iff_toInt_le, Int32.le_iff_toInt_le] at p
            exact p
          by_cases l8 : L.length < 48
          · rw [if_pos l8, Option.bind_some] at E
            have il : ix_inb (nI L.length) 48 = true := nI_in2 l8 (by decide)
            have ki : (-1 - I 66 a - 11 : Int32) = nI (-12 - (I 66 a).toInt).toNat := by
              rw [km_i, show (11 : Int32) = iZ 11 from rfl, iZ_sub, nI_iZ]
              exact congrArg iZ (by omega)
            have hi : (-12 - (I 66 a).toInt).toNat < 7 := by omega
            rw [ki, nI_clamp (show (-12 - (I 66 a).toInt).toNat < 2 ^ 31 by omega)] at E
            refine iv_1 (by rw [kc]; omega) (by rw [kc]; omega) ⟨fun q => absurd q (by decide), fun _ => ⟨fun _ => ⟨fun q => absurd q kn, fun _ => ?_⟩, fun q => absurd (nI_lt (a := L.length) (b := 48) l8 (by omega)) q⟩⟩
            rw [ki]
            refine fn_var hi ⟨il, ?_⟩
            rw [nI_clamp (show L.length < 2 ^ 31 by omega), nI_1, nI_1, fr_rw1 o 96 rfl, hv _ hi]
            exact ih (a + 1) (_ :: L) _ (by omega) (fr_putn rfl (by omega) o) (sk_put k) (by simp; omega) E
          · rw [if_neg l8] at E; cases E
        · rw [if_neg p] at E
          have p' : ¬ (-18 ≤ (I 66 a).toInt ∧ (I 66 a).toInt ≤ -12) := fun q => p (by
            unfold tc_push
            rw [decide_eq_false z, Bool.false_or, Bool.and_eq_true, decide_eq_true_eq, decide_eq_true_eq, Int32.le_iff_toInt_le, Int32.le_iff_toInt_le]
            exact q)
          refine iv_0 (by rw [kc]; omega) ⟨fun _ => ?_, fun q => absurd rfl q⟩
          by_cases n : I 66 a = -9
          · rw [if_pos n] at E
            match L, k, l, E with
            | [], k, l, E => cases E
            | y :: r, k, l, E =>
              have E : ed_ V (sg_ (I 66) (a + 1) m) ((1 - y) :: r) = some [x] := E
              have l : r.length + 1 ≤ 48 := l
              have ir : ix_inb (nI r.length) 48 = true := nI_in2 (by omega) (by decide)
              refine ⟨fun _ => ⟨fun q => absurd q (nI_nlt (a := r.length + 1) (b := 1) (by omega) (by omega)), fun _ => ?_⟩, fun q => absurd (by rw [n]; decide) q⟩
              show ix_inb (nI (r.length + 1) - 1) 48 = true ∧ ix_inb (nI (r.length + 1) - 1) 48 = true ∧ W (nI e) (nI (r.length + 1)) (nI a + 1) I (ix_u2 J1 67 (nI (r.length + 1) - 1).toNatClampNeg (1 - J1 67 (nI (r.length + 1) - 1).toNatClampNeg)) T
              rw [nI_s1, nI_clamp (show r.length < 2 ^ 31 by omega), nI_1, k.1]
              exact ⟨ir, ir, ih (a + 1) ((1 - y) :: r) _ (by omega) (fr_putn rfl (by omega) o) (sk_put k.2) l E⟩
          · rw [if_neg n] at E
            have n8 : ¬ (-1 - I 66 a : Int32) = 8 := fun q => n (by
              have q := congrArg Int32.toInt q
              rw [kc] at q
              have q : -1 - (I 66 a).toInt = 8 := q
              exact Int32.toInt_inj.mp (by show (I 66 a).toInt = -9; omega))
            refine ⟨fun q => absurd q n8, fun _ => ?_⟩
            match L, k, l, E with
            | [], k, l, E => cases E
            | [y], k, l, E => cases E
            | b :: y :: r, k, l, E =>
              have E : ed_ V (sg_ (I 66) (a + 1) m) (bo_ (-1 - I 66 a) y b :: r) = some [x] := E
              have l : r.length + 1 + 1 ≤ 48 := l
              have ir : ix_inb (nI r.length) 48 = true := nI_in2 (by omega) (by decide)
              have ir1 : ix_inb (nI (r.length + 1)) 48 = true := nI_in2 (by omega) (by decide)
              have k1 : J1 67 (r.length + 1) = b := k.1
              have k2 : J1 67 r.length = y := k.2.1
              refine ⟨fun q => absurd q (nI_nlt (a := r.length + 1 + 1) (b := 2) (by omega) (by omega)), fun _ => ?_⟩
              simp only [List.length_cons, nI_p1, nI_s1, nI_1, nI_clamp (show r.length < 2 ^ 31 by omega), nI_clamp (show r.length + 1 < 2 ^ 31 by omega), k1, k2]
              refine ⟨ir, ir1, fn_both ⟨ir, ?_⟩⟩
              exact ih (a + 1) (bo_ (-1 - I 66 a) y b :: r) _ (by omega) (fr_putn rfl (by omega) o) (sk_put k.2.2) (by simp; omega) E
  exact key m0 a0 [] J h0 fr_refl trivial (by simp) hE
theorem lp_cm68 {V : Nat → Int64} {x : Int64} {e : Nat} (he : e ≤ 600) {I : Nat → Nat → Int32} {J : Nat → Nat → Int64} {T : Option Nat} {P : Int64 → (Nat → Nat → Int32) → (Nat → Nat → Int64) → Option Nat → Prop} (hv : ∀ k, k < 7 → J 96 k = V k) (hP : ∀ J2, fr_off [(76, 77, 0, 2147483648)] J J2 → P x I J2 T) {a0 m0 : Nat} (h0 : a0 + m0 = e) (hE : ed_ V (sg_ (I 75) a0 m0) [] = some [x]) : wl_X9_compute_68_58_c95 (nI e) 0 (nI a0) I J T P := by
  intro W hW
  have key : ∀ m a : Nat, ∀ (L : List Int64) (J1 : Nat → Nat → Int64), a + m = e → fr_off [(76, 77, 0, 2147483648)] J J1 → sk_ (J1 76) L → L.length ≤ 48 → ed_ V (sg_ (I 75) a m) L = some [x] → W (nI e) (nI L.length) (nI a) I J1 T := by
    intro m
    induction m with
    | zero =>
      intro a L J1 ha o k l E
      have ha : a = e := by omega
      subst ha
      have E : L = [x] := Option.some.inj E
      subst E
      apply hW
      unfold wb_X9_compute_68_58_c95
      have hp := hP J1 o
      rw [← k.1] at hp
      exact ⟨fun q => absurd q (nI_nlt (Nat.le_refl _) (by omega)), fun _ => ⟨fun q => absurd q (by show ¬ nI 1 ≤ 0; decide), fun _ => hp⟩⟩
    | succ m ih =>
      intro a L J1 ha o k l E
      rw [sg_cons, ed_] at E
      have a5 : (nI a).toNatClampNeg = a := nI_clamp (by omega)
      have ia : ix_inb (nI a) 600 = true := nI_in2 (by omega) (by decide)
      have ae : nI a < nI e := nI_lt (by omega) (by omega)
      have a6 : nI a < 600 := nI_lt (a := a) (b := 600) (by omega) (by omega)
      have kc := km_ (I 75 a)
      apply hW
      unfold wb_X9_compute_68_58_c95
      rw [a5]
      refine ⟨fun _ => ⟨fun _ => ⟨ia, ?_⟩, fun q => absurd a6 q⟩, fun q => absurd ae q⟩
      unfold es_ at E
      by_cases z : 0 ≤ I 75 a
      · rw [if_pos z] at E
        have z' : 0 ≤ (I 75 a).toInt := Int32.le_iff_toInt_le.mp z
        have kn : (-1 - I 75 a : Int32) < 0 := Int32.lt_iff_toInt_lt.mpr (by rw [kc]; show _ < (0 : Int); omega)
        by_cases l8 : L.length < 48
        · rw [if_pos l8, Option.bind_some] at E
          have il : ix_inb (nI L.length) 48 = true := nI_in2 l8 (by decide)
          refine ⟨fun _ => ⟨fun _ => ⟨fun _ => ⟨ia, il, ?_⟩, fun q => absurd kn q⟩, fun q => absurd (nI_lt (a := L.length) (b := 48) l8 (by omega)) q⟩, fun q => absurd kn q⟩
          rw [nI_clamp (show L.length < 2 ^ 31 by omega), nI_1, nI_1]
          exact ih (a + 1) (_ :: L) _ (by omega) (fr_putn rfl (by omega) o) (sk_put k) (by simp; omega) E
        · rw [if_neg l8] at E; cases E
      · have z' : (I 75 a).toInt < 0 := by
          have : ¬ 0 ≤ (I 75 a).toInt := fun q => z (Int32.le_iff_toInt_le.mpr q)
          omega
        have kn : ¬ (-1 - I 75 a : Int32) < 0 := fun q => by
          have q := Int32.lt_iff_toInt_lt.mp q
          rw [kc] at q
          have q : -1 - (I 75 a).toInt < 0 := q
          omega
        rw [if_neg z] at E
        refine ⟨fun q => absurd q kn, fun _ => ?_⟩
        by_cases p : tc_push (I 75 a) = true
        · rw [if_pos p] at E
          have p' : -18 ≤ (I 75 a).toInt ∧ (I 75 a).toInt ≤ -12 := by
            unfold tc_push at p
            rw [decide_eq_false z, Bool.false_or, Bool.and_eq_true, decide_eq_true_eq, decide_eq_true_eq, Int32.le_iff_toInt_le, Int32.le_iff_toInt_le] at p
            exact p
          by_cases l8 : L.length < 48
          · rw [if_pos l8, Option.bind_some] at E
            have il : ix_inb (nI L.length) 48 = true := nI_in2 l8 (by decide)
            have ki : (-1 - I 75 a - 11 : Int32) = nI (-12 - (I 75 a).toInt).toNat := by
              rw [km_i, show (11 : Int32) = iZ 11 from rfl, iZ_sub, nI_iZ]
              exact congrArg iZ (by omega)
            have hi : (-12 - (I 75 a).toInt).toNat < 7 := by omega
            rw [ki, nI_clamp (show (-12 - (I 75 a).toInt).toNat < 2 ^ 31 by omega)] at E
            refine iv_1 (by rw [kc]; omega) (by rw [kc]; omega) ⟨fun q => absurd q (by decide), fun _ => ⟨fun _ => ⟨fun q => absurd q kn, fun _ => ?_⟩, fun q => absurd (nI_lt (a := L.length) (b := 48) l8 (by omega)) q⟩⟩
            rw [ki]
            refine fn_var hi ⟨il, ?_⟩
            rw [nI_clamp (show L.length < 2 ^ 31 by omega), nI_1, nI_1, fr_rw1 o 96 rfl, hv _ hi]
            exact ih (a + 1) (_ :: L) _ (by omega) (fr_putn rfl (by omega) o) (sk_put k) (by simp; omega) E
          · rw [if_neg l8] at E; cases E
        · rw [if_neg p] at E
          have p' : ¬ (-18 ≤ (I 75 a).toInt ∧ (I 75 a).toInt ≤ -12) := fun q => p (by
            unfold tc_push
            rw [decide_eq_false z, Bool.false_or, Bool.and_eq_true, decide_eq_true_eq, decide_eq_true_eq, Int32.le_iff_toInt_le, Int32.le_iff_toInt_le]
            exact q)
          refine iv_0 (by rw [kc]; omega) ⟨fun _ => ?_, fun q => absurd rfl q⟩
          by_cases n : I 75 a = -9
          · rw [if_pos n] at E
            match L, k, l, E with
            | [], k, l, E => cases E
            | y :: r, k, l, E =>
              have E : ed_ V (sg_ (I 75) (a + 1) m) ((1 - y) :: r) = some [x] := E
              have l : r.length + 1 ≤ 48 := l
              have ir : ix_inb (nI r.length) 48 = true := nI_in2 (by omega) (by decide)
              refine ⟨fun _ => ⟨fun q => absurd q (nI_nlt (a := r.length + 1) (b := 1) (by omega) (by omega)), fun _ => ?_⟩, fun q => absurd (by rw [n]; decide) q⟩
              show ix_inb (nI (r.length + 1) - 1) 48 = true ∧ ix_inb (nI (r.length + 1) - 1) 48 = true ∧ W (nI e) (nI (r.length + 1)) (nI a + 1) I (ix_u2 J1 76 (nI (r.length + 1) - 1).toNatClampNeg (1 - J1 76 (nI (r.length + 1) - 1).toNatClampNeg)) T
              rw [nI_s1, nI_clamp (show r.length < 2 ^ 31 by omega), nI_1, k.1]
              exact ⟨ir, ir, ih (a + 1) ((1 - y) :: r) _ (by omega) (fr_putn rfl (by omega) o) (sk_put k.2) l E⟩
          · rw [if_neg n] at E
            have n8 : ¬ (-1 - I 75 a : Int32) = 8 := fun q => n (by
              have q := congrArg Int32.toInt q
              rw [kc] at q
              have q : -1 - (I 75 a).toInt = 8 := q
              exact Int32.toInt_inj.mp (by show (I 75 a).toInt = -9; omega))
            refine ⟨fun q => absurd q n8, fun _ => ?_⟩
            match L, k, l, E with
            | [], k, l, E => cases E
            | [y], k, l, E => cases E
            | b :: y :: r, k, l, E =>
              have E : ed_ V (sg_ (I 75) (a + 1) m) (bo_ (-1 - I 75 a) y b :: r) = some [x] := E
              have l : r.length + 1 + 1 ≤ 48 := l
              have ir : ix_inb (nI r.length) 48 = true := nI_in2 (by omega) (by decide)
              have ir1 : ix_inb (nI (r.length + 1)) 48 = true := nI_in2 (by omega) (by decide)
              have k1 : J1 76 (r.length + 1) = b := k.1
              have k2 : J1 76 r.length = y := k.2.1
              refine ⟨fun q => absurd q (nI_nlt (a := r.length + 1 + 1) (b := 2) (by omega) (by omega)), fun _ => ?_⟩
              simp only [List.length_cons, nI_p1, nI_s1, nI_1, nI_clamp (show r.length < 2 ^ 31 by omega), nI_clamp (show r.length + 1 < 2 ^ 31 by omega), k1, k2]
              refine ⟨ir, ir1, fn_both ⟨ir, ?_⟩⟩
              exact ih (a + 1) (bo_ (-1 - I 75 a) y b :: r) _ (by omega) (fr_putn rfl (by omega) o) (sk_put k.2.2) (by simp; omega) E
  exact key m0 a0 [] J h0 fr_refl trivial (by simp) hE
theorem lp_cm77 {V : Nat → Int64} {x : Int64} {e : Nat} (he : e ≤ 600) {I : Nat → Nat → Int32} {J : Nat → Nat → Int64} {T : Option Nat} {P : Int64 → (Nat → Nat → Int32) → (Nat → Nat → Int64) → Option Nat → Prop} (hv : ∀ k, k < 7 → J 96 k = V k) (hP : ∀ J2, fr_off [(85, 86, 0, 2147483648)] J J2 → P x I J2 T) {a0 m0 : Nat} (h0 : a0 + m0 = e) (hE : ed_ V (sg_ (I 84) a0 m0) [] = some [x]) : wl_X9_compute_77_58_c95 (nI e) 0 (nI a0) I J T P := by
  intro W hW
  have key : ∀ m a : Nat, ∀ (L : List Int64) (J1 : Nat → Nat → Int64), a + m = e → fr_off [(85, 86, 0, 2147483648)] J J1 → sk_ (J1 85) L → L.length ≤ 48 → ed_ V (sg_ (I 84) a m) L = some [x] → W (nI e) (nI L.length) (nI a) I J1 T := by
    intro m
    induction m with
    | zero =>
      intro a L J1 ha o k l E
      have ha : a = e := by omega
      subst ha
      have E : L = [x] := Option.some.inj E
      subst E
      apply hW
      unfold wb_X9_compute_77_58_c95
      have hp := hP J1 o
      rw [← k.1] at hp
      exact ⟨fun q => absurd q (nI_nlt (Nat.le_refl _) (by omega)), fun _ => ⟨fun q => absurd q (by show ¬ nI 1 ≤ 0; decide), fun _ => hp⟩⟩
    | succ m ih =>
      intro a L J1 ha o k l E
      rw [sg_cons, ed_] at E
      have a5 : (nI a).toNatClampNeg = a := nI_clamp (by omega)
      have ia : ix_inb (nI a) 600 = true := nI_in2 (by omega) (by decide)
      have ae : nI a < nI e := nI_lt (by omega) (by omega)
      have a6 : nI a < 600 := nI_lt (a := a) (b := 600) (by omega) (by omega)
      have kc := km_ (I 84 a)
      apply hW
      unfold wb_X9_compute_77_58_c95
      rw [a5]
      refine ⟨fun _ => ⟨fun _ => ⟨ia, ?_⟩, fun q => absurd a6 q⟩, fun q => absurd ae q⟩
      unfold es_ at E
      by_cases z : 0 ≤ I 84 a
      · rw [if_pos z] at E
        have z' : 0 ≤ (I 84 a).toInt := Int32.le_iff_toInt_le.mp z
        have kn : (-1 - I 84 a : Int32) < 0 := Int32.lt_iff_toInt_lt.mpr (by rw [kc]; show _ < (0 : Int); omega)
        by_cases l8 : L.length < 48
        · rw [if_pos l8, Option.bind_some] at E
          have il : ix_inb (nI L.length) 48 = true := nI_in2 l8 (by decide)
          refine ⟨fun _ => ⟨fun _ => ⟨fun _ => ⟨ia, il, ?_⟩, fun q => absurd kn q⟩, fun q => absurd (nI_lt (a := L.length) (b := 48) l8 (by omega)) q⟩, fun q => absurd kn q⟩
          rw [nI_clamp (show L.length < 2 ^ 31 by omega), nI_1, nI_1]
          exact ih (a + 1) (_ :: L) _ (by omega) (fr_putn rfl (by omega) o) (sk_put k) (by simp; omega) E
        · rw [if_neg l8] at E; cases E
      · have z' : (I 84 a).toInt < 0 := by
          have : ¬ 0 ≤ (I 84 a).toInt := fun q => z (Int32.le_iff_toInt_le.mpr q)
          omega
        have kn : ¬ (-1 - I 84 a : Int32) < 0 := fun q => by
          have q := Int32.lt_iff_toInt_lt.mp q
          rw [kc] at q
          have q : -1 - (I 84 a).toInt < 0 := q
          omega
        rw [if_neg z] at E
        refine ⟨fun q => absurd q kn, fun _ => ?_⟩
        by_cases p : tc_push (I 84 a) = true
        · rw [if_pos p] at E
          have p' : -18 ≤ (I 84 a).toInt ∧ (I 84 a).toInt ≤ -12 := by
            unfold tc_push at p
            rw [decide_eq_false z, Bool.false_or, Bool.and_eq_true, decide_eq_true_eq, decide_eq_true_eq, Int32.le_iff_toInt_le, Int32.le_iff_toInt_le] at p
            exact p
          by_cases l8 : L.length < 48
          · rw [if_pos l8, Option.bind_some] at E
            have il : ix_inb (nI L.length) 48 = true := nI_in2 l8 (by decide)
            have ki : (-1 - I 84 a - 11 : Int32) = nI (-12 - (I 84 a).toInt).toNat := by
              rw [km_i, show (11 : Int32) = iZ 11 from rfl, iZ_sub, nI_iZ]
              exact congrArg iZ (by omega)
            have hi : (-12 - (I 84 a).toInt).toNat < 7 := by omega
            rw [ki, nI_clamp (show (-12 - (I 84 a).toInt).toNat < 2 ^ 31 by omega)] at E
            refine iv_1 (by rw [kc]; omega) (by rw [kc]; omega) ⟨fun q => absurd q (by decide), fun _ => ⟨fun _ => ⟨fun q => absurd q kn, fun _ => ?_⟩, fun q => absurd (nI_lt (a := L.length) (b := 48) l8 (by omega)) q⟩⟩
            rw [ki]
            refine fn_var hi ⟨il, ?_⟩
            rw [nI_clamp (show L.length < 2 ^ 31 by omega), nI_1, nI_1, fr_rw1 o 96 rfl, hv _ hi]
            exact ih (a + 1) (_ :: L) _ (by omega) (fr_putn rfl (by omega) o) (sk_put k) (by simp; omega) E
          · rw [if_neg l8] at E; cases E
        · rw [if_neg p] at E
          have p' : ¬ (-18 ≤ (I 84 a).toInt ∧ (I 84 a).toInt ≤ -12) := fun q => p (by
            unfold tc_push
            rw [decide_eq_false z, Bool.false_or, Bool.and_eq_true, decide_eq_true_eq, decide_eq_true_eq, Int32.le_iff_toInt_le, Int32.le_iff_toInt_le]
            exact q)
          refine iv_0 (by rw [kc]; omega) ⟨fun _ => ?_, fun q => absurd rfl q⟩
          by_cases n : I 84 a = -9
          · rw [if_pos n] at E
            match L, k, l, E with
            | [], k, l, E => cases E
            | y :: r, k, l, E =>
              have E : ed_ V (sg_ (I 84) (a + 1) m) ((1 - y) :: r) = some [x] := E
              have l : r.length + 1 ≤ 48 := l
              have ir : ix_inb (nI r.length) 48 = true := nI_in2 (by omega) (by decide)
              refine ⟨fun _ => ⟨fun q => absurd q (nI_nlt (a := r.length + 1) (b := 1) (by omega) (by omega)), fun _ => ?_⟩, fun q => absurd (by rw [n]; decide) q⟩
              show ix_inb (nI (r.length + 1) - 1) 48 = true ∧ ix_inb (nI (r.length + 1) - 1) 48 = true ∧ W (nI e) (nI (r.length + 1)) (nI a + 1) I (ix_u2 J1 85 (nI (r.length + 1) - 1).toNatClampNeg (1 - J1 85 (nI (r.length + 1) - 1).toNatClampNeg)) T
              rw [nI_s1, nI_clamp (show r.length < 2 ^ 31 by omega), nI_1, k.1]
              exact ⟨ir, ir, ih (a + 1) ((1 - y) :: r) _ (by omega) (fr_putn rfl (by omega) o) (sk_put k.2) l E⟩
          · rw [if_neg n] at E
            have n8 : ¬ (-1 - I 84 a : Int32) = 8 := fun q => n (by
              have q := congrArg Int32.toInt q
              rw [kc] at q
              have q : -1 - (I 84 a).toInt = 8 := q
              exact Int32.toInt_inj.mp (by show (I 84 a).toInt = -9; omega))
            refine ⟨fun q => absurd q n8, fun _ => ?_⟩
            match L, k, l, E with
            | [], k, l, E => cases E
            | [y], k, l, E => cases E
            | b :: y :: r, k, l, E =>
              have E : ed_ V (sg_ (I 84) (a + 1) m) (bo_ (-1 - I 84 a) y b :: r) = some [x] := E
              have l : r.length + 1 + 1 ≤ 48 := l
              have ir : ix_inb (nI r.length) 48 = true := nI_in2 (by omega) (by decide)
              have ir1 : ix_inb (nI (r.length + 1)) 48 = true := nI_in2 (by omega) (by decide)
              have k1 : J1 85 (r.length + 1) = b := k.1
              have k2 : J1 85 r.length = y := k.2.1
              refine ⟨fun q => absurd q (nI_nlt (a := r.length + 1 + 1) (b := 2) (by omega) (by omega)), fun _ => ?_⟩
              simp only [List.length_cons, nI_p1, nI_s1, nI_1, nI_clamp (show r.length < 2 ^ 31 by omega), nI_clamp (show r.length + 1 < 2 ^ 31 by omega), k1, k2]
              refine ⟨ir, ir1, fn_both ⟨ir, ?_⟩⟩
              exact ih (a + 1) (bo_ (-1 - I 84 a) y b :: r) _ (by omega) (fr_putn rfl (by omega) o) (sk_put k.2.2) (by simp; omega) E
  exact key m0 a0 [] J h0 fr_refl trivial (by simp) hE
theorem lp_cm86 {V : Nat → Int64} {x : Int64} {e : Nat} (he : e ≤ 600) {I : Nat → Nat → Int32} {J : Nat → Nat → Int64} {T : Option Nat} {P : Int64 → (Nat → Nat → Int32) → (Nat → Nat → Int64) → Option Nat → Prop} (hv : ∀ k, k < 7 → J 96 k = V k) (hP : ∀ J2, fr_off [(94, 95, 0, 2147483648)] J J2 → P x I J2 T) {a0 m0 : Nat} (h0 : a0 + m0 = e) (hE : ed_ V (sg_ (I 93) a0 m0) [] = some [x]) : wl_X9_compute_86_58_c95 (nI e) 0 (nI a0) I J T P := by
  intro W hW
  have key : ∀ m a : Nat, ∀ (L : List Int64) (J1 : Nat → Nat → Int64), a + m = e → fr_off [(94, 95, 0, 2147483648)] J J1 → sk_ (J1 94) L → L.length ≤ 48 → ed_ V (sg_ (I 93) a m) L = some [x] → W (nI e) (nI L.length) (nI a) I J1 T := by
    intro m
    induction m with
    | zero =>
      intro a L J1 ha o k l E
      have ha : a = e := by omega
      subst ha
      have E : L = [x] := Option.some.inj E
      subst E
      apply hW
      unfold wb_X9_compute_86_58_c95
      have hp := hP J1 o
      rw [← k.1] at hp
      exact ⟨fun q => absurd q (nI_nlt (Nat.le_refl _) (by omega)), fun _ => ⟨fun q => absurd q (by show ¬ nI 1 ≤ 0; decide), fun _ => hp⟩⟩
    | succ m ih =>
      intro a L J1 ha o k l E
      rw [sg_cons, ed_] at E
      have a5 : (nI a).toNatClampNeg = a := nI_clamp (by omega)
      have ia : ix_inb (nI a) 600 = true := nI_in2 (by omega) (by decide)
      have ae : nI a < nI e := nI_lt (by omega) (by omega)
      have a6 : nI a < 600 := nI_lt (a := a) (b := 600) (by omega) (by omega)
      have kc := km_ (I 93 a)
      apply hW
      unfold wb_X9_compute_86_58_c95
      rw [a5]
      refine ⟨fun _ => ⟨fun _ => ⟨ia, ?_⟩, fun q => absurd a6 q⟩, fun q => absurd ae q⟩
      unfold es_ at E
      by_cases z : 0 ≤ I 93 a
      · rw [if_pos z] at E
        have z' : 0 ≤ (I 93 a).toInt := Int32.le_iff_toInt_le.mp z
        have kn : (-1 - I 93 a : Int32) < 0 := Int32.lt_iff_toInt_lt.mpr (by rw [kc]; show _ < (0 : Int); omega)
        by_cases l8 : L.length < 48
        · rw [if_pos l8, Option.bind_some] at E
          have il : ix_inb (nI L.length) 48 = true := nI_in2 l8 (by decide)
          refine ⟨fun _ => ⟨fun _ => ⟨fun _ => ⟨ia, il, ?_⟩, fun q => absurd kn q⟩, fun q => absurd (nI_lt (a := L.length) (b := 48) l8 (by omega)) q⟩, fun q => absurd kn q⟩
          rw [nI_clamp (show L.length < 2 ^ 31 by omega), nI_1, nI_1]
          exact ih (a + 1) (_ :: L) _ (by omega) (fr_putn rfl (by omega) o) (sk_put k) (by simp; omega) E
        · rw [if_neg l8] at E; cases E
      · have z' : (I 93 a).toInt < 0 := by
          have : ¬ 0 ≤ (I 93 a).toInt := fun q => z (Int32.le_iff_toInt_le.mpr q)
          omega
        have kn : ¬ (-1 - I 93 a : Int32) < 0 := fun q => by
          have q := Int32.lt_iff_toInt_lt.mp q
          rw [kc] at q
          have q : -1 - (I 93 a).toInt < 0 := q
          omega
        rw [if_neg z] at E
        refine ⟨fun q => absurd q kn, fun _ => ?_⟩
        by_cases p : tc_push (I 93 a) = true
        · rw [if_pos p] at E
          have p' : -18 ≤ (I 93 a).toInt ∧ (I 93 a).toInt ≤ -12 := by
            unfold tc_push at p
            rw [decide_eq_false z, Bool.false_or, Bool.and_eq_true, decide_eq_true_eq, decide_eq_true_eq, Int32.le_iff_toInt_le, Int32.le_iff_toInt_le] at p
            exact p
          by_cases l8 : L.length < 48
          · rw [if_pos l8, Option.bind_some] at E
            have il : ix_inb (nI L.length) 48 = true := nI_in2 l8 (by decide)
            have ki : (-1 - I 93 a - 11 : Int32) = nI (-12 - (I 93 a).toInt).toNat := by
              rw [km_i, show (11 : Int32) = iZ 11 from rfl, iZ_sub, nI_iZ]
              exact congrArg iZ (by omega)
            have hi : (-12 - (I 93 a).toInt).toNat < 7 := by omega
            rw [ki, nI_clamp (show (-12 - (I 93 a).toInt).toNat < 2 ^ 31 by omega)] at E
            refine iv_1 (by rw [kc]; omega) (by rw [kc]; omega) ⟨fun q => absurd q (by decide), fun _ => ⟨fun _ => ⟨fun q => absurd q kn, fun _ => ?_⟩, fun q => absurd (nI_lt (a := L.length) (b := 48) l8 (by omega)) q⟩⟩
            rw [ki]
            refine fn_var hi ⟨il, ?_⟩
            rw [nI_clamp (show L.length < 2 ^ 31 by omega), nI_1, nI_1, fr_rw1 o 96 rfl, hv _ hi]
            exact ih (a + 1) (_ :: L) _ (by omega) (fr_putn rfl (by omega) o) (sk_put k) (by simp; omega) E
          · rw [if_neg l8] at E; cases E
        · rw [if_neg p] at E
          have p' : ¬ (-18 ≤ (I 93 a).toInt ∧ (I 93 a).toInt ≤ -12) := fun q => p (by
            unfold tc_push
            rw [decide_eq_false z, Bool.false_or, Bool.and_eq_true, decide_eq_true_eq, decide_eq_true_eq, Int32.le_iff_toInt_le, Int32.le_iff_toInt_le]
            exact q)
          refine iv_0 (by rw [kc]; omega) ⟨fun _ => ?_, fun q => absurd rfl q⟩
          by_cases n : I 93 a = -9
          · rw [if_pos n] at E
            match L, k, l, E with
            | [], k, l, E => cases E
            | y :: r, k, l, E =>
              have E : ed_ V (sg_ (I 93) (a + 1) m) ((1 - y) :: r) = some [x] := E
              have l : r.length + 1 ≤ 48 := l
              have ir : ix_inb (nI r.length) 48 = true := nI_in2 (by omega) (by decide)
              refine ⟨fun _ => ⟨fun q => absurd q (nI_nlt (a := r.length + 1) (b := 1) (by omega) (by omega)), fun _ => ?_⟩, fun q => absurd (by rw [n]; decide) q⟩
              show ix_inb (nI (r.length + 1) - 1) 48 = true ∧ ix_inb (nI (r.length + 1) - 1) 48 = true ∧ W (nI e) (nI (r.length + 1)) (nI a + 1) I (ix_u2 J1 94 (nI (r.length + 1) - 1).toNatClampNeg (1 - J1 94 (nI (r.length + 1) - 1).toNatClampNeg)) T
              rw [nI_s1, nI_clamp (show r.length < 2 ^ 31 by omega), nI_1, k.1]
              exact ⟨ir, ir, ih (a + 1) ((1 - y) :: r) _ (by omega) (fr_putn rfl (by omega) o) (sk_put k.2) l E⟩
          · rw [if_neg n] at E
            have n8 : ¬ (-1 - I 93 a : Int32) = 8 := fun q => n (by
              have q := congrArg Int32.toInt q
              rw [kc] at q
              have q : -1 - (I 93 a).toInt = 8 := q
              exact Int32.toInt_inj.mp (by show (I 93 a).toInt = -9; omega))
            refine ⟨fun q => absurd q n8, fun _ => ?_⟩
            match L, k, l, E with
            | [], k, l, E => cases E
            | [y], k, l, E => cases E
            | b :: y :: r, k, l, E =>
              have E : ed_ V (sg_ (I 93) (a + 1) m) (bo_ (-1 - I 93 a) y b :: r) = some [x] := E
              have l : r.length + 1 + 1 ≤ 48 := l
              have ir : ix_inb (nI r.length) 48 = true := nI_in2 (by omega) (by decide)
              have ir1 : ix_inb (nI (r.length + 1)) 48 = true := nI_in2 (by omega) (by decide)
              have k1 : J1 94 (r.length + 1) = b := k.1
              have k2 : J1 94 r.length = y := k.2.1
              refine ⟨fun q => absurd q (nI_nlt (a := r.length + 1 + 1) (b := 2) (by omega) (by omega)), fun _ => ?_⟩
              simp only [List.length_cons, nI_p1, nI_s1, nI_1, nI_clamp (show r.length < 2 ^ 31 by omega), nI_clamp (show r.length + 1 < 2 ^ 31 by omega), k1, k2]
              refine ⟨ir, ir1, fn_both ⟨ir, ?_⟩⟩
              exact ih (a + 1) (bo_ (-1 - I 93 a) y b :: r) _ (by omega) (fr_putn rfl (by omega) o) (sk_put k.2.2) (by simp; omega) E
  exact key m0 a0 [] J h0 fr_refl trivial (by simp) hE
theorem lp_work {V : Nat → Int64} {x : Int64} {e : Nat} (he : e ≤ 3000) {I : Nat → Nat → Int32} {J : Nat → Nat → Int64} {T : Option Nat} {P : Int64 → (Nat → Nat → Int32) → (Nat → Nat → Int64) → Option Nat → Prop} (hv : ∀ k, k < 7 → J 241 k = V k) (hP : ∀ J2, fr_off [(242, 243, 0, 2147483648)] J J2 → P x I J2 T) {a0 m0 : Nat} (h0 : a0 + m0 = e) (hw : ∀ j, a0 ≤ j → j < e → tc_wf (I 232 j) (J 233 j)) (hE : ed_ V (tc_sig (I 232) (J 233) a0 m0) [] = some [x]) : wl_X12_work_5 (nI e) 0 (nI a0) I J T P := by
  intro W hW
  have key : ∀ m a : Nat, ∀ (L : List Int64) (J1 : Nat → Nat → Int64), a + m = e → a0 ≤ a → fr_off [(242, 243, 0, 2147483648)] J J1 → sk_ (J1 242) L → L.length ≤ 48 → ed_ V (tc_sig (I 232) (J 233) a m) L = some [x] → W (nI e) (nI L.length) (nI a) I J1 T := by
    intro m
    induction m with
    | zero =>
      intro a L J1 ha _ o k l E
      have ha : a = e := by omega
      subst ha
      have E : L = [x] := Option.some.inj E
      subst E
      apply hW
      unfold wb_X12_work_5
      have hp := hP J1 o
      rw [← k.1] at hp
      exact ⟨fun q => absurd q (nI_nlt (Nat.le_refl _) (by omega)), fun _ => hp⟩
    | succ m ih =>
      intro a L J1 ha ha0 o k l E
      rw [ts_cons, ed_] at E
      have wf := hw a ha0 (by omega)
      have a5 : (nI a).toNatClampNeg = a := nI_clamp (by omega)
      have ia : ix_inb (nI a) 3500 = true := nI_in2 (by omega) (by decide)
      have ae : nI a < nI e := nI_lt (by omega) (by omega)
      have j3 : J1 233 = J 233 := fr_rw1 o 233 rfl
      have j4 : J1 241 = J 241 := fr_rw1 o 241 rfl
      apply hW
      unfold wb_X12_work_5
      rw [a5, j3, j4]
      refine ⟨fun _ => ⟨ia, ?_⟩, fun q => absurd ae q⟩
      have two : ∀ c : Int32, (¬ 0 ≤ c) → tc_push c = false → ¬ c = -9 → tc_enc (I 232 a) (J 233 a) = c → ∃ b y r, L = b :: y :: r ∧ ed_ V (tc_sig (I 232) (J 233) (a + 1) m) (bo_ (-1 - c) y b :: r) = some [x] := by
        intro c c1 c2 c3 c4
        rw [c4] at E
        unfold es_ at E
        rw [if_neg c1, c2, if_neg (by decide), if_neg c3] at E
        match L, E with
        | [], E => cases E
        | [y], E => cases E
        | b :: y :: r, E => exact ⟨b, y, r, rfl, E⟩
      rcases wf with ⟨s0, n, hn, on⟩ | ⟨s1, n, hn, on⟩ | s2 | s2 | s2 | s2 | s2 | s2
      · have ee : tc_enc (I 232 a) (J 233 a) = nI n := by
          unfold tc_enc
          rw [if_pos s0, on, lZ_32, nI_iZ]
        rw [ee] at E
        unfold es_ at E
        have z : (0 : Int32) ≤ nI n := Int32.le_iff_toInt_le.mpr (by rw [nI_toInt (by omega)]; show (0 : Int) ≤ n; omega)
        rw [if_pos z] at E
        by_cases l8 : L.length < 48
        · rw [if_pos l8, Option.bind_some, show (nI n).toInt64 = J 233 a by rw [on, nI_iZ, iZ_64 (by omega)]] at E
          rw [s0]
          refine ⟨fun _ => ⟨fun _ => ⟨ia, nI_in2 (by omega) (by decide), ?_⟩, fun q => absurd rfl q⟩, fun q => absurd (by decide) q⟩
          rw [nI_clamp (show L.length < 2 ^ 31 by omega), nI_1, nI_1]
          exact ih (a + 1) (_ :: L) _ (by omega) (by omega) (fr_putn rfl (by omega) o) (sk_put k) (by simp; omega) E
        · rw [if_neg l8] at E; cases E
      · have ee : tc_enc (I 232 a) (J 233 a) = iZ (-12 - n) := by
          unfold tc_enc
          rw [s1, if_neg (by decide), if_pos rfl, on, lZ_32, show (-12 : Int32) = iZ (-12) from rfl, iZ_sub]
        rw [ee] at E
        unfold es_ at E
        have t : (iZ (-12 - (n : Int))).toInt = -12 - n := iZ_toInt (by omega) (by omega)
        have z : ¬ (0 : Int32) ≤ iZ (-12 - n) := fun q => by
          have q := Int32.le_iff_toInt_le.mp q
          rw [t] at q
          have q : (0 : Int) ≤ -12 - n := q
          omega
        have p : tc_push (iZ (-12 - n)) = true := by
          unfold tc_push
          rw [decide_eq_false z, Bool.false_or, Bool.and_eq_true, decide_eq_true_eq, decide_eq_true_eq, Int32.le_iff_toInt_le, Int32.le_iff_toInt_le, t]
          show (-18 : Int) ≤ -12 - n ∧ -12 - (n : Int) ≤ -12
          omega
        rw [if_neg z, if_pos p] at E
        by_cases l8 : L.length < 48
        · have ki : (-1 - iZ (-12 - n) - 11 : Int32) = nI n := by
            rw [iZ_m1, iZ_sub, show (11 : Int32) = iZ 11 from rfl, iZ_sub, nI_iZ]
            exact congrArg iZ (by omega)
          rw [if_pos l8, Option.bind_some, ki, nI_clamp (show n < 2 ^ 31 by omega)] at E
          have oi : (J 233 a).toInt32 = nI n := by rw [on, lZ_32, nI_iZ]
          rw [s1, oi]
          refine ⟨fun _ => ⟨fun q => absurd q (by decide), fun _ => ⟨ia, nI_in2 (by omega) (by decide), nI_in2 (by omega) (by decide), ?_⟩⟩, fun q => absurd (by decide) q⟩
          rw [nI_clamp (show L.length < 2 ^ 31 by omega), nI_clamp (show n < 2 ^ 31 by omega), nI_1, nI_1, hv n (by omega)]
          exact ih (a + 1) (_ :: L) _ (by omega) (by omega) (fr_putn rfl (by omega) o) (sk_put k) (by simp; omega) E
        · rw [if_neg l8] at E; cases E
      · have ee : tc_enc (I 232 a) (J 233 a) = -43 := by unfold tc_enc; rw [s2]; rfl
        obtain ⟨b, y, r, rfl, E2⟩ := two (-43) (by decide) (by decide) (by decide) ee
        have l : r.length + 1 + 1 ≤ 48 := l
        have ir : ix_inb (nI r.length) 700 = true := nI_in2 (by omega) (by decide)
        have ir1 : ix_inb (nI (r.length + 1)) 700 = true := nI_in2 (by omega) (by decide)
        have k1 : J1 242 (r.length + 1) = b := k.1
        have k2 : J1 242 r.length = y := k.2.1
        have fin : W (nI e) (nI (r.length + 1)) (nI (a + 1)) I (ix_u2 J1 242 r.length (bo_ (-1 - (-43)) y b)) T := ih (a + 1) (bo_ (-1 - (-43)) y b :: r) _ (by omega) (by omega) (fr_putn rfl (by omega) o) (sk_put k.2.2) (by simp; omega) E2
        rw [s2]
        simp only [List.length_cons, nI_p1, nI_s1, nI_s2, nI_1, nI_clamp (show r.length < 2 ^ 31 by omega), nI_clamp (show r.length + 1 < 2 ^ 31 by omega), k1, k2]
        refine ⟨fun q => absurd q (by decide), fun _ => ⟨ir, ir1, ?_⟩⟩
        refine ⟨fun q => absurd q (by decide), fun _ => ?_⟩
        refine ⟨fun q => absurd q (by decide), fun _ => ?_⟩
        exact ⟨fun _ => ⟨ir, fin⟩, fun q => absurd trivial q⟩
      · have ee : tc_enc (I 232 a) (J 233 a) = -44 := by unfold tc_enc; rw [s2]; rfl
        obtain ⟨b, y, r, rfl, E2⟩ := two (-44) (by decide) (by decide) (by decide) ee
        have l : r.length + 1 + 1 ≤ 48 := l
        have ir : ix_inb (nI r.length) 700 = true := nI_in2 (by omega) (by decide)
        have ir1 : ix_inb (nI (r.length + 1)) 700 = true := nI_in2 (by omega) (by decide)
        have k1 : J1 242 (r.length + 1) = b := k.1
        have k2 : J1 242 r.length = y := k.2.1
        have fin : W (nI e) (nI (r.length + 1)) (nI (a + 1)) I (ix_u2 J1 242 r.length (bo_ (-1 - (-44)) y b)) T := ih (a + 1) (bo_ (-1 - (-44)) y b :: r) _ (by omega) (by omega) (fr_putn rfl (by omega) o) (sk_put k.2.2) (by simp; omega) E2
        rw [s2]
        simp only [List.length_cons, nI_p1, nI_s1, nI_s2, nI_1, nI_clamp (show r.length < 2 ^ 31 by omega), nI_clamp (show r.length + 1 < 2 ^ 31 by omega), k1, k2]
        refine ⟨fun q => absurd q (by decide), fun _ => ⟨ir, ir1, ?_⟩⟩
        exact ⟨fun _ => ⟨ir, fin⟩, fun q => absurd trivial q⟩
      · have ee : tc_enc (I 232 a) (J 233 a) = -46 := by unfold tc_enc; rw [s2]; rfl
        obtain ⟨b, y, r, rfl, E2⟩ := two (-46) (by decide) (by decide) (by decide) ee
        have l : r.length + 1 + 1 ≤ 48 := l
        have ir : ix_inb (nI r.length) 700 = true := nI_in2 (by omega) (by decide)
        have ir1 : ix_inb (nI (r.length + 1)) 700 = true := nI_in2 (by omega) (by decide)
        have k1 : J1 242 (r.length + 1) = b := k.1
        have k2 : J1 242 r.length = y := k.2.1
        have fin : W (nI e) (nI (r.length + 1)) (nI (a + 1)) I (ix_u2 J1 242 r.length (bo_ (-1 - (-46)) y b)) T := ih (a + 1) (bo_ (-1 - (-46)) y b :: r) _ (by omega) (by omega) (fr_putn rfl (by omega) o) (sk_put k.2.2) (by simp; omega) E2
        rw [s2]
        simp only [List.length_cons, nI_p1, nI_s1, nI_s2, nI_1, nI_clamp (show r.length < 2 ^ 31 by omega), nI_clamp (show r.length + 1 < 2 ^ 31 by omega), k1, k2]
        refine ⟨fun q => absurd q (by decide), fun _ => ⟨ir, ir1, ?_⟩⟩
        refine ⟨fun q => absurd q (by decide), fun _ => ?_⟩
        exact ⟨fun _ => ⟨ir, fin⟩, fun q => absurd trivial q⟩
      · have ee : tc_enc (I 232 a) (J 233 a) = -48 := by unfold tc_enc; rw [s2]; rfl
        obtain ⟨b, y, r, rfl, E2⟩ := two (-48) (by decide) (by decide) (by decide) ee
        have l : r.length + 1 + 1 ≤ 48 := l
        have ir : ix_inb (nI r.length) 700 = true := nI_in2 (by omega) (by decide)
        have ir1 : ix_inb (nI (r.length + 1)) 700 = true := nI_in2 (by omega) (by decide)
        have k1 : J1 242 (r.length + 1) = b := k.1
        have k2 : J1 242 r.length = y := k.2.1
        have fin : W (nI e) (nI (r.length + 1)) (nI (a + 1)) I (ix_u2 J1 242 r.length (bo_ (-1 - (-48)) y b)) T := ih (a + 1) (bo_ (-1 - (-48)) y b :: r) _ (by omega) (by omega) (fr_putn rfl (by omega) o) (sk_put k.2.2) (by simp; omega) E2
        rw [s2]
        simp only [List.length_cons, nI_p1, nI_s1, nI_s2, nI_1, nI_clamp (show r.length < 2 ^ 31 by omega), nI_clamp (show r.length + 1 < 2 ^ 31 by omega), k1, k2]
        refine ⟨fun q => absurd q (by decide), fun _ => ⟨ir, ir1, ?_⟩⟩
        refine ⟨fun q => absurd q (by decide), fun _ => ?_⟩
        refine ⟨fun q => absurd q (by decide), fun _ => ?_⟩
        refine ⟨fun q => absurd q (by decide), fun _ => ?_⟩
        refine ⟨fun _ => ⟨fun d => ⟨ir, ?_⟩, fun d => ⟨nzl_c d, ir, ?_⟩⟩, fun q => absurd trivial q⟩
        · rw [show bo_ (-1 - (-48)) y b = 0 by show bo_ 47 y b = 0; simp [bo_, d]] at fin
          exact fin
        · rw [show bo_ (-1 - (-48)) y b = y / b by show bo_ 47 y b = y / b; simp [bo_, d]] at fin
          exact fin
      · have ee : tc_enc (I 232 a) (J 233 a) = -10 := by unfold tc_enc; rw [s2]; rfl
        obtain ⟨b, y, r, rfl, E2⟩ := two (-10) (by decide) (by decide) (by decide) ee
        have l : r.length + 1 + 1 ≤ 48 := l
        have ir : ix_inb (nI r.length) 700 = true := nI_in2 (by omega) (by decide)
        have ir1 : ix_inb (nI (r.length + 1)) 700 = true := nI_in2 (by omega) (by decide)
        have k1 : J1 242 (r.length + 1) = b := k.1
        have k2 : J1 242 r.length = y := k.2.1
        have fin : W (nI e) (nI (r.length + 1)) (nI (a + 1)) I (ix_u2 J1 242 r.length (bo_ (-1 - (-10)) y b)) T := ih (a + 1) (bo_ (-1 - (-10)) y b :: r) _ (by omega) (by omega) (fr_putn rfl (by omega) o) (sk_put k.2.2) (by simp; omega) E2
        rw [s2]
        simp only [List.length_cons, nI_p1, nI_s1, nI_s2, nI_1, nI_clamp (show r.length < 2 ^ 31 by omega), nI_clamp (show r.length + 1 < 2 ^ 31 by omega), k1, k2]
        refine ⟨fun q => absurd q (by decide), fun _ => ⟨ir, ir1, ?_⟩⟩
        refine ⟨fun q => absurd q (by decide), fun _ => ?_⟩
        refine ⟨fun q => absurd q (by decide), fun _ => ?_⟩
        refine ⟨fun q => absurd q (by decide), fun _ => ?_⟩
        refine ⟨fun q => absurd q (by decide), fun _ => ?_⟩
        exact ⟨fun _ => fn_mn ⟨ir, fin⟩, fun q => absurd trivial q⟩
      · have ee : tc_enc (I 232 a) (J 233 a) = -11 := by unfold tc_enc; rw [s2]; rfl
        obtain ⟨b, y, r, rfl, E2⟩ := two (-11) (by decide) (by decide) (by decide) ee
        have l : r.length + 1 + 1 ≤ 48 := l
        have ir : ix_inb (nI r.length) 700 = true := nI_in2 (by omega) (by decide)
        have ir1 : ix_inb (nI (r.length + 1)) 700 = true := nI_in2 (by omega) (by decide)
        have k1 : J1 242 (r.length + 1) = b := k.1
        have k2 : J1 242 r.length = y := k.2.1
        have fin : W (nI e) (nI (r.length + 1)) (nI (a + 1)) I (ix_u2 J1 242 r.length (bo_ (-1 - (-11)) y b)) T := ih (a + 1) (bo_ (-1 - (-11)) y b :: r) _ (by omega) (by omega) (fr_putn rfl (by omega) o) (sk_put k.2.2) (by simp; omega) E2
        rw [s2]
        simp only [List.length_cons, nI_p1, nI_s1, nI_s2, nI_1, nI_clamp (show r.length < 2 ^ 31 by omega), nI_clamp (show r.length + 1 < 2 ^ 31 by omega), k1, k2]
        refine ⟨fun q => absurd q (by decide), fun _ => ⟨ir, ir1, ?_⟩⟩
        refine ⟨fun q => absurd q (by decide), fun _ => ?_⟩
        refine ⟨fun q => absurd q (by decide), fun _ => ?_⟩
        refine ⟨fun q => absurd q (by decide), fun _ => ?_⟩
        refine ⟨fun q => absurd q (by decide), fun _ => ?_⟩
        refine ⟨fun q => absurd q (by decide), fun _ => ?_⟩
        exact fn_mx ⟨ir, fin⟩
  exact key m0 a0 [] J h0 (Nat.le_refl _) fr_refl trivial (by simp) hE
