/-! even, uneven -/
def ev_ (X : Nat → Nat → Nat) (R : Nat → Nat → Int32) (i j : Nat) : Nat → Int32
  | 0 => R i j
  | k + 1 => if k = j then ev_ X R i j k else if X i k = 1000000 then ev_ X R i j k else if ev_ X R i j k ≤ nI (X i k) + R k j then ev_ X R i j k else nI (X i k) + R k j
theorem fn_evC {i j n : Nat} {X : Nat → Nat → Nat} {R : Nat → Nat → Int32} (hi : i < 7) (hj : j < 7) (hn : n ≤ 7) {I : Nat → Nat → Int32} {J : Nat → Nat → Int64} {T : Option Nat} {P : Int32 → (Nat → Nat → Int32) → (Nat → Nat → Int64) → Option Nat → Prop} (n1 : I 8 0 = nI n) (hX : ∀ k, k < 7 → I (29 + i) k = nI (X i k) ∧ X i k ≤ 1000000) (hR : ∀ a b, a < 7 → b < 7 → I (37 + a) b = R a b) (hP : P (ev_ X R i j n) I J T) : wp_X5_evenRate (nI i) (nI j) I J T P := by
  have i5 : (nI i).toNatClampNeg = i := nI_clamp (by omega)
  have j5 : (nI j).toNatClampNeg = j := nI_clamp (by omega)
  have hi9 : ix_inb (nI i) 7 = true := nI_in2 hi (by decide)
  have hj9 : ix_inb (nI j) 7 = true := nI_in2 hj (by decide)
  unfold wp_X5_evenRate
  rw [re_36 hi, j5, hR i j hi hj]
  refine ⟨hi9, hj9, ?_⟩
  intro V hV
  have key : ∀ m k : Nat, k + m = n → V (nI i) (nI j) (ev_ X R i j k) (nI k) I J T := by
    intro m
    induction m with
    | zero =>
      intro k hk
      have hk : k = n := by omega
      subst hk
      apply hV
      unfold wb_X5_evenRate_12
      rw [n1]
      exact ⟨fun z => absurd z (nI_nlt (Nat.le_refl _) (by omega)), fun _ => hP⟩
    | succ m ih =>
      intro k hk
      have nxt := ih (k + 1) (by omega)
      have hk9 : ix_inb (nI k) 7 = true := nI_in2 (by omega) (by decide)
      have kj : nI k = nI j ↔ k = j := nI_eq (by omega) (by omega)
      have hx := hX k (by omega)
      have lt : (nI (X i k) < 1000000) ↔ ¬ X i k = 1000000 := by
        rw [show (1000000 : Int32) = nI 1000000 from rfl, nI_ltI (by omega) (by omega)]
        omega
      rw [ev_] at nxt
      apply hV
      unfold wb_X5_evenRate_12 wp_X5_isReached wp_J9_min_7cf53
      dsimp only
      rw [n1, re_28 hi, re_36 (show k < 7 by omega), nI_clamp (show k < 2 ^ 31 by omega), j5, hx.1, hR k j (by omega) hj, nI_1, kj, lt]
      refine ⟨fun _ => ⟨fun z => ?_, fun z => ⟨hi9, hk9, fun w => ⟨fun y => absurd y (by decide), fun _ => ⟨hi9, hk9, hk9, hj9, fun y => ?_, fun y => ?_⟩⟩, fun w => ⟨fun _ => ?_, fun y => absurd rfl y⟩⟩⟩, fun z => absurd (nI_lt (by omega) (by omega)) z⟩
      · rw [if_pos z] at nxt; exact nxt
      · rw [if_neg z, if_neg w, if_pos y] at nxt; exact nxt
      · rw [if_neg z, if_neg w, if_neg y] at nxt; exact nxt
      · rw [if_neg z, if_pos (Decidable.of_not_not w)] at nxt; exact nxt
  exact key n 0 (by omega)
theorem fn_evM {i j n : Nat} {X : Nat → Nat → Nat} {R : Nat → Nat → Int32} (hi : i < n) (hj : j < n) (hn : n ≤ 7) {I : Nat → Nat → Int32} {J : Nat → Nat → Int64} {T : Option Nat} {P : Int32 → (Nat → Nat → Int32) → (Nat → Nat → Int64) → Option Nat → Prop} (n2 : I 204 6 = nI n) (hX : ∀ k, k < n → I 245 (7 * i + k) = en_ (X i k) ∧ X i k ≤ 1000000) (hR : ∀ a b, a < 7 → b < 7 → I 246 (7 * a + b) = R a b) (hP : P (ev_ X R i j n) I J T) : wp_X12_evenOf (nI i) (nI j) I J T P := by
  unfold wp_X12_evenOf wp_X12_pair
  dsimp only
  rw [pr_7, nI_clamp (show 7 * i + j < 2 ^ 31 by omega), hR i j (by omega) (by omega)]
  refine ⟨nI_in2 (by omega) (by decide), ?_⟩
  intro V hV
  have key : ∀ m k : Nat, k + m = n → V (nI i) (nI j) (ev_ X R i j k) (nI k) I J T := by
    intro m
    induction m with
    | zero =>
      intro k hk
      have hk : k = n := by omega
      subst hk
      apply hV
      unfold wb_X12_evenOf_14
      rw [n2]
      exact ⟨fun z => absurd z (nI_nlt (Nat.le_refl _) (by omega)), fun _ => hP⟩
    | succ m ih =>
      intro k hk
      have nxt := ih (k + 1) (by omega)
      have iA : ix_inb (nI (7 * i + k)) 49 = true := nI_in2 (by omega) (by decide)
      have iB : ix_inb (nI (7 * k + j)) 49 = true := nI_in2 (by omega) (by decide)
      have kj : nI k = nI j ↔ k = j := nI_eq (by omega) (by omega)
      have hx := hX k (by omega)
      rw [ev_] at nxt
      apply hV
      unfold wb_X12_evenOf_14 wp_X12_pair wp_J9_min_7cf53
      dsimp only
      rw [n2, pr_7, pr_7, nI_clamp (show 7 * i + k < 2 ^ 31 by omega), nI_clamp (show 7 * k + j < 2 ^ 31 by omega), hx.1, hR k j (by omega) (by omega), nI_1, kj, en_m1 hx.2]
      refine ⟨fun _ => ⟨fun z => ?_, fun z => ⟨iA, fun w => ?_, fun w => ⟨iA, iB, ?_⟩⟩⟩, fun z => absurd (nI_lt (by omega) (by omega)) z⟩
      · rw [if_pos z] at nxt; exact nxt
      · rw [if_neg z, if_pos w] at nxt; exact nxt
      · rw [en_fin w]
        refine ⟨fun y => ?_, fun y => ?_⟩
        · rw [if_neg z, if_neg w, if_pos y] at nxt; exact nxt
        · rw [if_neg z, if_neg w, if_neg y] at nxt; exact nxt
  exact key n 0 (by omega)
/-- the rates -/
def rt_ (I : Nat → Nat → Int32) (a b : Nat) : Int32 := I (37 + a) b
theorem rt_M {I : Nat → Nat → Int32} {J : Nat → Nat → Int64} (h : RR I J) : ∀ a b, a < 7 → b < 7 → I 246 (7 * a + b) = rt_ I a b := fun a b ha hb => by
  obtain ⟨p, -, e1, e2⟩ := h.rate a b ha hb
  rw [bI_lt ha] at e1
  rw [rt_, e1, e2]
def ub_ (X : Nat → Nat → Nat) (R : Nat → Nat → Int32) (n i j : Nat) : Bool := !(decide (i = j)) && !(decide (R i j ≤ ev_ X R i j n))
def uc_ (b : Nat → Nat → Bool) (i : Nat) : Nat → Nat
  | 0 => 0
  | k + 1 => uc_ b i k + (if b i k = true then 1 else 0)
def us_ (b : Nat → Nat → Bool) (n : Nat) : Nat → Nat
  | 0 => 0
  | i + 1 => us_ b n i + uc_ b i n
theorem lp_urC {n i : Nat} {X : Nat → Nat → Nat} {R : Nat → Nat → Int32} (hn : n ≤ 7) (hi : i < n) {I : Nat → Nat → Int32} {J : Nat → Nat → Int64} {T : Option Nat} {P : Int32 → (Nat → Nat → Int32) → (Nat → Nat → Int64) → Option Nat → Prop} {VO : Int32 → Int32 → (Nat → Nat → Int32) → (Nat → Nat → Int64) → Option Nat → Prop} (n1 : I 8 0 = nI n) (hX : ∀ i k, i < 7 → k < 7 → I (29 + i) k = nI (X i k) ∧ X i k ≤ 1000000) (hR : ∀ a b, a < 7 → b < 7 → I (37 + a) b = R a b) (nx : VO (nI (us_ (ub_ X R n) n (i + 1))) (nI (i + 1)) I J T) : wl_X5_countUneven_14_4 (nI (us_ (ub_ X R n) n i)) (nI i) 0 I J T VO P := by
  intro V hV
  have key : ∀ m j : Nat, j + m = n → V (nI (us_ (ub_ X R n) n i + uc_ (ub_ X R n) i j)) (nI i) (nI j) I J T := by
    intro m
    induction m with
    | zero =>
      intro j hj
      have hj : j = n := by omega
      subst hj
      apply hV
      unfold wb_X5_countUneven_14_4
      simp only [nI_1]
      rw [n1]
      exact ⟨fun z => absurd z (nI_nlt (Nat.le_refl _) (by omega)), fun _ => nx⟩
    | succ m ih =>
      intro j hj
      have nxt := ih (j + 1) (by omega)
      have ij : nI i = nI j ↔ i = j := nI_eq (by omega) (by omega)
      have hub : ub_ X R n i j = (!(decide (i = j)) && !(decide (R i j ≤ ev_ X R i j n))) := rfl
      rw [uc_] at nxt
      apply hV
      unfold wb_X5_countUneven_14_4
      try dsimp only
      simp only [nI_1]
      rw [n1, re_36 (show i < 7 by omega), nI_clamp (show j < 2 ^ 31 by omega), hR i j (by omega) (by omega), ij]
      refine ⟨fun _ => ⟨fun z => ?_, fun z => ⟨nI_in2 (by omega) (by decide), nI_in2 (by omega) (by decide), ?_⟩⟩, fun z => absurd (nI_lt (by omega) (by omega)) z⟩
      · rw [if_neg (by rw [hub]; simp [z])] at nxt; exact nxt
      · refine fn_evC (by omega) (by omega) hn n1 (fun k hk => hX i k (by omega) hk) hR ?_
        refine ⟨fun y => ?_, fun y => ?_⟩
        · rw [if_neg (by rw [hub]; simp [z, y])] at nxt; exact nxt
        · rw [if_pos (by rw [hub]; simp [z, y]), ← Nat.add_assoc] at nxt; exact nxt
  exact key n 0 (by omega)
theorem lp_usC {n : Nat} {X : Nat → Nat → Nat} {R : Nat → Nat → Int32} (hn : n ≤ 7) {I : Nat → Nat → Int32} {J : Nat → Nat → Int64} {T : Option Nat} {P : Int32 → (Nat → Nat → Int32) → (Nat → Nat → Int64) → Option Nat → Prop} (n1 : I 8 0 = nI n) (hX : ∀ i k, i < 7 → k < 7 → I (29 + i) k = nI (X i k) ∧ X i k ≤ 1000000) (hR : ∀ a b, a < 7 → b < 7 → I (37 + a) b = R a b) (hP : P (nI (us_ (ub_ X R n) n n)) I J T) : wl_X5_countUneven_4 0 0 I J T P := by
  intro V hV
  have key : ∀ m i : Nat, i + m = n → V (nI (us_ (ub_ X R n) n i)) (nI i) I J T := by
    intro m
    induction m with
    | zero =>
      intro i hi
      have hi : i = n := by omega
      subst hi
      apply hV
      unfold wb_X5_countUneven_4
      rw [n1]
      exact ⟨fun z => absurd z (nI_nlt (Nat.le_refl _) (by omega)), fun _ => hP⟩
    | succ m ih =>
      intro i hi
      apply hV
      unfold wb_X5_countUneven_4
      rw [n1]
      exact ⟨fun _ => lp_urC hn (by omega) n1 hX hR (ih (i + 1) (by omega)), fun z => absurd (nI_lt (by omega) (by omega)) z⟩
  exact key n 0 (by omega)
theorem lp_urM {n i : Nat} {X : Nat → Nat → Nat} {R : Nat → Nat → Int32} (hn : n ≤ 7) (hi : i < n) {I : Nat → Nat → Int32} {J : Nat → Nat → Int64} {T : Option Nat} {P : Int32 → (Nat → Nat → Int32) → (Nat → Nat → Int64) → Option Nat → Prop} {VO : Int32 → Int32 → (Nat → Nat → Int32) → (Nat → Nat → Int64) → Option Nat → Prop} (n1 : I 204 6 = nI n) (hX : ∀ i k, i < n → k < n → I 245 (7 * i + k) = en_ (X i k) ∧ X i k ≤ 1000000) (hR : ∀ a b, a < 7 → b < 7 → I 246 (7 * a + b) = R a b) (nx : VO (nI (us_ (ub_ X R n) n (i + 1))) (nI (i + 1)) I J T) : wl_X12_uneven_18_8 (nI (us_ (ub_ X R n) n i)) (nI i) 0 I J T VO P := by
  intro V hV
  have key : ∀ m j : Nat, j + m = n → V (nI (us_ (ub_ X R n) n i + uc_ (ub_ X R n) i j)) (nI i) (nI j) I J T := by
    intro m
    induction m with
    | zero =>
      intro j hj
      have hj : j = n := by omega
      subst hj
      apply hV
      unfold wb_X12_uneven_18_8
      simp only [nI_1]
      rw [n1]
      exact ⟨fun z => absurd z (nI_nlt (Nat.le_refl _) (by omega)), fun _ => nx⟩
    | succ m ih =>
      intro j hj
      have nxt := ih (j + 1) (by omega)
      have ij : nI i = nI j ↔ i = j := nI_eq (by omega) (by omega)
      have hub : ub_ X R n i j = (!(decide (i = j)) && !(decide (R i j ≤ ev_ X R i j n))) := rfl
      have a0 : nI (us_ (ub_ X R n) n i + uc_ (ub_ X R n) i j) + 0 = nI (us_ (ub_ X R n) n i + uc_ (ub_ X R n) i j) := by simp
      rw [uc_] at nxt
      apply hV
      unfold wb_X12_uneven_18_8 wp_X12_pair
      try dsimp only
      simp only [nI_1]
      rw [n1, pr_7, nI_clamp (show 7 * i + j < 2 ^ 31 by omega), hR i j (by omega) (by omega), ij, a0]
      refine ⟨fun _ => ⟨fun z => ?_, fun z => ⟨nI_in2 (by omega) (by decide), ?_⟩⟩, fun z => absurd (nI_lt (by omega) (by omega)) z⟩
      · rw [if_neg (by rw [hub]; simp [z])] at nxt; exact nxt
      · refine fn_evM (by omega) (by omega) hn n1 (fun k hk => hX i k (by omega) hk) hR ?_
        refine ⟨fun y => ?_, fun y => ?_⟩
        · rw [if_neg (by rw [hub]; simp [z, y])] at nxt; exact nxt
        · rw [if_pos (by rw [hub]; simp [z, y]), ← Nat.add_assoc] at nxt; exact nxt
  exact key n 0 (by omega)
theorem lp_usM {n : Nat} {X : Nat → Nat → Nat} {R : Nat → Nat → Int32} (hn : n ≤ 7) {I : Nat → Nat → Int32} {J : Nat → Nat → Int64} {T : Option Nat} {P : Int32 → (Nat → Nat → Int32) → (Nat → Nat → Int64) → Option Nat → Prop} (n1 : I 204 6 = nI n) (hX : ∀ i k, i < n → k < n → I 245 (7 * i + k) = en_ (X i k) ∧ X i k ≤ 1000000) (hR : ∀ a b, a < 7 → b < 7 → I 246 (7 * a + b) = R a b) (hP : P (nI (us_ (ub_ X R n) n n)) (ix_u2 I 204 0 0) J T) : wl_X12_uneven_8 0 0 I J T P := by
  intro V hV
  have key : ∀ m i : Nat, i + m = n → V (nI (us_ (ub_ X R n) n i)) (nI i) I J T := by
    intro m
    induction m with
    | zero =>
      intro i hi
      have hi : i = n := by omega
      subst hi
      apply hV
      unfold wb_X12_uneven_8
      rw [n1]
      exact ⟨fun z => absurd z (nI_nlt (Nat.le_refl _) (by omega)), fun _ => hP⟩
    | succ m ih =>
      intro i hi
      apply hV
      unfold wb_X12_uneven_8
      rw [n1]
      exact ⟨fun _ => lp_urM hn (by omega) n1 hX hR (ih (i + 1) (by omega)), fun z => absurd (nI_lt (by omega) (by omega)) z⟩
  exact key n 0 (by omega)
theorem rp_uneven {I : Nat → Nat → Int32} {J : Nat → Nat → Int64} {T : Option Nat} {P : Int32 → Int32 → (Nat → Nat → Int32) → (Nat → Nat → Int64) → Option Nat → Prop} (h : RR I J) (hP : ∀ v I2 J2 T2, RR I2 J2 → P v v I2 J2 T2) : wp_X11_uneven I J T (fun v I1 J1 T1 => wp_X12_uneven I1 J1 T1 (fun w I2 J2 T2 => P v w I2 J2 T2)) := by
  obtain ⟨n, hn, n1, n2⟩ := h.land
  have n3 : (nI n - 1).toInt = (n : Int) - 1 := nI_pm1 (by omega)
  have n4 : (nI n).toInt = (n : Int) := nI_toInt (by omega)
  have hX : ∀ i k, i < 7 → k < 7 → I (29 + i) k = nI (fwN 7 (mN_ I) i k) ∧ fwN 7 (mN_ I) i k ≤ 1000000 := fun i k hi hk => ⟨ca_ok h n1 hn hi hk, by
    have := fwN_le (mN_bd h n1 hn) (v := 7) (by omega) hi hk
    omega⟩
  have oS : fr_off [(0, 1, 0, 1)] I (ix_u2 I 0 0 0) := fr_put rfl fr_refl
  have rS : ∀ a, a ≠ 0 → (ix_u2 I 0 0 0) a = I a := fun a ha => u2_r ha
  have fin : ∀ {I2 : Nat → Nat → Int32}, fr_off [(245, 246, 0, 2147483648)] (ix_u2 I 0 0 0) I2 → RR (ix_u2 I2 204 0 0) J := fun {I2} o2 => by
    have o1 : fr_off [(0, 1, 0, 1), (204, 205, 0, 1), (245, 246, 0, 2147483648)] I (ix_u2 I 0 0 0) := fr_put rfl fr_refl
    refine rk_carry h (fr_trans o1 (fr_put rfl (fr_mono (by decide) o2))) ?_
    show (ix_u2 I2 204 0 0) 0 0 = (ix_u2 I2 204 0 0) 204 0
    have : I2 0 0 = 0 := by rw [fr_at 0 0 o2 rfl]; simp [u2_e]
    simp [u2_e, this]
  unfold wp_X11_uneven wp_X5_countUneven
  refine lp_usC (X := fwN 7 (mN_ I)) (R := rt_ I) hn n1 (fun i k hi hk => by rw [rS _ (by omega)]; exact hX i k hi hk) (fun a b _ _ => by rw [rS _ (by omega)]; rfl) ?_
  unfold wp_X12_uneven
  refine fn_carryR h hn n1 n2 oS (fun I2 o2 q2 => ?_)
  refine lp_usM (X := fwN 7 (mN_ I)) (R := rt_ I) hn (by rw [fr_at 204 6 o2 rfl]; exact n2) (fun i k hi hk => ⟨q2 i k hi hk, (hX i k (by omega) (by omega)).2⟩) (fun a b ha hb => by rw [fr_rw1 o2 246 rfl]; exact rt_M h a b ha hb) ?_
  exact hP _ _ _ _ (fin o2)
theorem rp_even (a : Int32) (b : Int32) {I : Nat → Nat → Int32} {J : Nat → Nat → Int64} {T : Option Nat} {P : Int32 → Int32 → (Nat → Nat → Int32) → (Nat → Nat → Int64) → Option Nat → Prop} (h : RR I J) (hP : ∀ v I2 J2 T2, RR I2 J2 → P v v I2 J2 T2) : wp_X11_even a b I J T (fun v I1 J1 T1 => wp_X12_even a b I1 J1 T1 (fun w I2 J2 T2 => P v w I2 J2 T2)) := by
  obtain ⟨n, hn, n1, n2⟩ := h.land
  have n3 : (nI n - 1).toInt = (n : Int) - 1 := nI_pm1 (by omega)
  have n4 : (nI n).toInt = (n : Int) := nI_toInt (by omega)
  have hX : ∀ i k, i < 7 → k < 7 → I (29 + i) k = nI (fwN 7 (mN_ I) i k) ∧ fwN 7 (mN_ I) i k ≤ 1000000 := fun i k hi hk => ⟨ca_ok h n1 hn hi hk, by
    have := fwN_le (mN_bd h n1 hn) (v := 7) (by omega) hi hk
    omega⟩
  have oS : fr_off [(0, 1, 0, 1)] I (ix_u2 I 0 0 0) := fr_put rfl fr_refl
  have rS : ∀ a, a ≠ 0 → (ix_u2 I 0 0 0) a = I a := fun a ha => u2_r ha
  have fin : ∀ {I2 : Nat → Nat → Int32}, fr_off [(245, 246, 0, 2147483648)] (ix_u2 I 0 0 0) I2 → RR (ix_u2 I2 204 0 0) J := fun {I2} o2 => by
    have o1 : fr_off [(0, 1, 0, 1), (204, 205, 0, 1), (245, 246, 0, 2147483648)] I (ix_u2 I 0 0 0) := fr_put rfl fr_refl
    refine rk_carry h (fr_trans o1 (fr_put rfl (fr_mono (by decide) o2))) ?_
    show (ix_u2 I2 204 0 0) 0 0 = (ix_u2 I2 204 0 0) 204 0
    have : I2 0 0 = 0 := by rw [fr_at 0 0 o2 rfl]; simp [u2_e]
    simp [u2_e, this]
  by_cases qab : a = b
  · subst qab
    simp only [wp_X11_even, wp_X12_even, wp_X11_isPair, wp_X11_refuse, wp_X12_areTwo, wp_X12_gives, wp_X12_refuse, wp_X11_isLand, wp_X12_isLand, wp_X11_outside, wp_X5_count, lgc_lt, lgc_le, lgc_eq, cmp_s, cmp_t, u2_e]
    try simp only [Int32.lt_iff_toInt_lt, Int32.le_iff_toInt_le]
    simp [n1, n2, n3, n4]
    repeat' (first | with_reducible refine And.intro ?_ ?_ | with_reducible intro _)
    all_goals try first | rfl | (exfalso; omega) | exact inb_of (by omega) (by omega) | exact hP _ _ _ _ (RR_st h 1) | with_reducible exact nI_in2 (by omega) (by omega)
  by_cases q : (0 ≤ a.toInt ∧ a.toInt < n) ∧ (0 ≤ b.toInt ∧ b.toInt < n)
  · obtain ⟨i, hi, rfl⟩ := ii_at q.1.1 q.1.2 (by omega)
    obtain ⟨j, hj, rfl⟩ := ii_at q.2.1 q.2.2 (by omega)
    have i4 : (nI i).toInt = (i : Int) := nI_toInt (by omega)
    have j4 : (nI j).toInt = (j : Int) := nI_toInt (by omega)
    have p0 : ∀ {R : Int32 → (Nat → Nat → Int32) → (Nat → Nat → Int64) → Option Nat → Prop}, R 1 I J T → wp_X11_isPair (nI i) (nI j) I J T R := by
      intro R hR
      simp only [wp_X11_isPair, wp_X11_isLand, wp_X11_outside, wp_X5_count, lgc_lt, lgc_le, lgc_eq, cmp_s, cmp_t, u2_e]
      try simp only [Int32.lt_iff_toInt_lt, Int32.le_iff_toInt_le]
      simp [n1, n3, n4, i4, j4, qab]
      repeat' (first | with_reducible refine And.intro ?_ ?_ | with_reducible intro _)
      all_goals try first | rfl | (exfalso; omega) | exact inb_of (by omega) (by omega) | with_reducible exact nI_in2 (by omega) (by omega) | exact hR
    have p1 : ∀ {R : Int32 → (Nat → Nat → Int32) → (Nat → Nat → Int64) → Option Nat → Prop}, R 1 (ix_u2 I 0 0 0) J T → wp_X12_areTwo (nI i) (nI j) (ix_u2 I 0 0 0) J T R := by
      intro R hR
      simp only [wp_X12_areTwo, wp_X12_isLand, lgc_lt, lgc_le, lgc_eq, cmp_s, cmp_t, u2_e]
      try simp only [Int32.lt_iff_toInt_lt, Int32.le_iff_toInt_le]
      simp [n2, n4, i4, j4, qab]
      repeat' (first | with_reducible refine And.intro ?_ ?_ | with_reducible intro _)
      all_goals try first | rfl | (exfalso; omega) | exact inb_of (by omega) (by omega) | with_reducible exact nI_in2 (by omega) (by omega) | exact hR
    unfold wp_X11_even
    refine p0 ⟨fun z => absurd z (by decide), fun _ => ?_⟩
    refine fn_evC (X := fwN 7 (mN_ I)) (R := rt_ I) (by omega) (by omega) hn n1 (fun k hk => by rw [rS _ (by omega)]; exact hX i k (by omega) hk) (fun a b _ _ => by rw [rS _ (by omega)]; rfl) ?_
    unfold wp_X12_even
    refine p1 ⟨fun z => absurd z (by decide), fun _ => ?_⟩
    refine fn_carryR h hn n1 n2 oS (fun I2 o2 q2 => ?_)
    refine fn_evM (X := fwN 7 (mN_ I)) (R := rt_ I) hi hj hn (by rw [fr_at 204 6 o2 rfl]; exact n2) (fun k hk => ⟨q2 i k hi hk, (hX i k (by omega) (by omega)).2⟩) (fun a b ha hb => by rw [fr_rw1 o2 246 rfl]; exact rt_M h a b ha hb) ?_
    unfold wp_X12_gives
    exact hP _ _ _ _ (fin o2)
  · skip
    simp only [wp_X11_even, wp_X12_even, wp_X11_isPair, wp_X11_refuse, wp_X12_areTwo, wp_X12_gives, wp_X12_refuse, wp_X11_isLand, wp_X12_isLand, wp_X11_outside, wp_X5_count, lgc_lt, lgc_le, lgc_eq, cmp_s, cmp_t, u2_e]
    try simp only [Int32.lt_iff_toInt_lt, Int32.le_iff_toInt_le]
    simp [n1, n2, n3, n4, qab]
    repeat' (first | with_reducible refine And.intro ?_ ?_ | with_reducible intro _)
    all_goals try first | rfl | (exfalso; omega) | exact inb_of (by omega) (by omega) | exact hP _ _ _ _ (RR_st h 1) | with_reducible exact nI_in2 (by omega) (by omega)

