/-! interest -/
def lM (n : Nat) : Int64 := lZ (n : Int)
theorem lM_toInt {n : Nat} (h : n < 9223372036854775808) : (lM n).toInt = (n : Int) := lZ_toInt (by omega) (by omega)
theorem lM_mod {a b : Nat} (ha : a < 9223372036854775808) (hb : 0 < b) (hb2 : b < 9223372036854775808) : lM a - lM a / lM b * lM b = lM (a % b) := by
  unfold lM
  rw [lZ_div (by omega) (by omega), lZ_mul, lZ_sub]
  refine congrArg lZ ?_
  have e : ((a : Int).tdiv b) = ((a / b : Nat) : Int) := rfl
  rw [e]
  have h1 := Nat.div_add_mod a b
  have h2 : ((b * (a / b) + a % b : Nat) : Int) = a := by rw [h1]
  rw [Int.natCast_add, Int.natCast_mul, Int.mul_comm] at h2
  omega
theorem lM_div {a b : Nat} (ha : a < 9223372036854775808) (hb : 0 < b) (hb2 : b < 9223372036854775808) : lM a / lM b = lM (a / b) := by
  unfold lM
  rw [lZ_div (by omega) (by omega)]
  rfl
theorem lM_0 {b : Nat} (h : b < 9223372036854775808) : (lM b = 0) ↔ b = 0 := by
  rw [show (0 : Int64) = lM 0 from rfl, ← Int64.toInt_inj, lM_toInt h, lM_toInt (by omega)]
  omega
theorem lM_le0 {b : Nat} (h : b < 9223372036854775808) : (lM b ≤ 0) ↔ b = 0 := by
  rw [Int64.le_iff_toInt_le, lM_toInt h]
  show ((b : Int) ≤ 0) ↔ _
  omega
theorem lM_nz {b : Nat} (h : b < 9223372036854775808) (h0 : 0 < b) : ix_nzl (lM b) = true := by
  unfold ix_nzl
  have : ¬ lM b = 0 := fun e => by
    have := (lM_0 h).mp e
    omega
  simp [this]
theorem eu_half {b r : Nat} (hr : 0 < r) (h : r ≤ b) {k : Nat} (hb : b < 2 ^ (k + 1)) : b % r < 2 ^ k := by
  have h1 := Nat.mod_lt b hr
  have h2 : b % r + r ≤ b := by
    have := Nat.div_add_mod b r
    have h3 : 1 ≤ b / r := (Nat.one_le_div_iff hr).mpr h
    have h4 : r * 1 ≤ r * (b / r) := Nat.mul_le_mul_left r h3
    omega
  rw [Nat.pow_succ] at hb
  omega
theorem lp_fracC {n d : Nat} (hn : n < 2 ^ 54) (hd : 0 < d) (hd2 : d < 2 ^ 54) {I : Nat → Nat → Int32} {J : Nat → Nat → Int64} {T : Option Nat} {P : (Nat → Nat → Int32) → (Nat → Nat → Int64) → Option Nat → Prop} (hP : P I (ix_u2 (ix_u2 J 0 1 (lM (n / Nat.gcd n d))) 0 2 (lM (d / Nat.gcd n d))) T) : wl_X11_setFraction_9 (lM n) (lM d) (lM d) (lM n) 0 I J T P := by
  intro V hV
  have fin : ∀ a i : Nat, a = Nat.gcd n d → i < 128 → V (lM n) (lM d) (lM a) (lM 0) (nI i) I J T := by
    intro a i ea hi
    have ga : 0 < Nat.gcd n d := Nat.gcd_pos_of_pos_right n hd
    have gl : Nat.gcd n d ≤ d := Nat.gcd_le_right n hd
    subst ea
    apply hV
    unfold wb_X11_setFraction_9
    rw [lgc_eq, lgc_le, lM_div (by omega) ga (by omega), lM_div (by omega) ga (by omega)]
    exact ⟨fun _ => ⟨fun _ => ⟨fun z => absurd ((lM_le0 (by omega)).mp z) (by omega), fun _ => ⟨lM_nz (by omega) ga, lM_nz (by omega) ga, hP⟩⟩, fun z => absurd rfl z⟩, fun z => absurd (nI_lt (a := i) (b := 128) hi (by omega)) z⟩
  have step : ∀ a b i : Nat, a < 2 ^ 54 → 0 < b → b < 2 ^ 54 → i < 128 → V (lM n) (lM d) (lM b) (lM (a % b)) (nI (i + 1)) I J T → V (lM n) (lM d) (lM a) (lM b) (nI i) I J T := by
    intro a b i ha hb hb2 hi nx
    apply hV
    unfold wb_X11_setFraction_9
    rw [lgc_eq, lM_mod (by omega) hb (by omega), nI_1]
    exact ⟨fun _ => ⟨fun z => absurd ((lM_0 (by omega)).mp z) (by omega), fun _ => ⟨lM_nz (by omega) hb, nx⟩⟩, fun z => absurd (nI_lt (a := i) (b := 128) hi (by omega)) z⟩
  have key : ∀ k a b i : Nat, b < 2 ^ k → k ≤ 54 → a < 2 ^ 54 → b < 2 ^ 54 → i + 2 * k < 128 → Nat.gcd a b = Nat.gcd n d → V (lM n) (lM d) (lM a) (lM b) (nI i) I J T := by
    intro k
    induction k with
    | zero =>
      intro a b i h1 h2 h3 h4 h5 h6
      have hb : b = 0 := by omega
      subst hb
      rw [Nat.gcd_zero_right] at h6
      exact fin a i h6 (by omega)
    | succ k ih =>
      intro a b i h1 h2 h3 h4 h5 h6
      by_cases hb : b = 0
      · subst hb
        rw [Nat.gcd_zero_right] at h6
        exact fin a i h6 (by omega)
      · refine step a b i h3 (by omega) h4 (by omega) ?_
        have hr := Nat.mod_lt a (show 0 < b by omega)
        have g1 : Nat.gcd b (a % b) = Nat.gcd n d := by rw [Nat.gcd_comm, ← Nat.gcd_rec, Nat.gcd_comm]; exact h6
        by_cases hr0 : a % b = 0
        · rw [hr0] at g1 ⊢
          rw [Nat.gcd_zero_right] at g1
          exact fin b (i + 1) g1 (by omega)
        · refine step b (a % b) (i + 1) h4 (by omega) (by omega) (by omega) ?_
          have hh := Nat.mod_lt b (show 0 < a % b by omega)
          exact ih (a % b) (b % (a % b)) (i + 1 + 1) (eu_half (by omega) (by omega) h1) (by omega) (by omega) (by omega) (by omega) (by rw [Nat.gcd_comm, ← Nat.gcd_rec, Nat.gcd_comm]; exact g1)
  exact key 54 d n 0 hn (by omega) hd2 hn (by omega) (Nat.gcd_comm d n)
theorem lp_fracM {n : Nat} (hn : n < 2 ^ 54) {I : Nat → Nat → Int32} {J : Nat → Nat → Int64} {T : Option Nat} {P : Int32 → (Nat → Nat → Int32) → (Nat → Nat → Int64) → Option Nat → Prop} (hP : P (if n = 0 then 0 else 1) (ix_u2 I 204 0 0) (ix_u2 (ix_u2 J 204 1 (lM (n / Nat.gcd n 365000))) 204 2 (lM (365000 / Nat.gcd n 365000))) T) : wl_X12_interest_58 (lM n) (lM n) (lM 365000) I J T P := by
  intro V hV
  have key : ∀ m a b : Nat, b < m → a < 2 ^ 54 → b < 2 ^ 54 → Nat.gcd a b = Nat.gcd n 365000 → V (lM n) (lM a) (lM b) I J T := by
    intro m
    induction m with
    | zero => intro a b h1; omega
    | succ m ih =>
      intro a b h1 h2 h3 h4
      apply hV
      unfold wb_X12_interest_58 wp_X12_gives
      rw [lgc_eq, lgc_le]
      refine ⟨fun z => ?_, fun z => ?_⟩
      · have hb := (lM_0 (by omega)).mp z
        subst hb
        rw [Nat.gcd_zero_right] at h4
        have ga : 0 < Nat.gcd n 365000 := Nat.gcd_pos_of_pos_right n (by omega)
        subst h4
        rw [lM_div (by omega) ga (by omega), show (365000 : Int64) = lM 365000 from rfl, lM_div (by omega) ga (by omega)]
        refine ⟨lM_nz (by omega) ga, lM_nz (by omega) ga, fun c => ?_, fun c => ?_⟩
        · rw [if_pos ((lM_le0 (by omega)).mp c)] at hP; exact hP
        · rw [if_neg (fun w => c ((lM_le0 (by omega)).mpr w))] at hP; exact hP
      · have hb : 0 < b := by
          rcases Nat.eq_zero_or_pos b with e | e
          · exact absurd ((lM_0 (by omega)).mpr e) z
          · exact e
        have hr := Nat.mod_lt a hb
        rw [lM_mod (by omega) hb (by omega)]
        exact ⟨lM_nz (by omega) hb, ih b (a % b) (by omega) h3 (by omega) (by rw [Nat.gcd_comm, ← Nat.gcd_rec, Nat.gcd_comm]; exact h4)⟩
  exact key (365000 + 1) n 365000 (by omega) hn (by omega) rfl
theorem rk_interest {I I2 : Nat → Nat → Int32} {J : Nat → Nat → Int64} {J2 : Nat → Nat → Int64} (h : RR I J) (o : fr_off [(0, 1, 0, 1), (204, 205, 0, 1)] I I2) (oj : fr_off [(0, 1, 1, 3), (204, 205, 1, 3)] J J2) (p0 : RL_stat I2) (p1 : RL_frac J2) : RR I2 J2 := ⟨p0, p1, fr_tray o oj rfl h.tray, fr_land o rfl h.land, fr_gold o rfl h.gold, fr_road o rfl h.road, fr_carr o rfl h.carr, fr_rate o rfl h.rate, fr_tape o rfl h.tape, fr_falt o rfl h.falt, fr_resv o rfl h.resv, fr_flow o rfl h.flow, fr_draw o rfl h.draw, fr_tell o rfl h.tell, fr_acct o oj rfl h.acct, fr_rule o rfl h.rule, fr_bags o rfl h.bags, fr_hand o rfl h.hand, fr_book o rfl h.book, fr_figs oj rfl h.figs, fr_case o rfl h.case, fr_wght o rfl h.wght, fr_trty o oj rfl h.trty⟩
theorem rp_interest (a : Int32) (b : Int32) (c : Int32) {I : Nat → Nat → Int32} {J : Nat → Nat → Int64} {T : Option Nat} {P : Int32 → Int32 → (Nat → Nat → Int32) → (Nat → Nat → Int64) → Option Nat → Prop} (h : RR I J) (hP : ∀ v I2 J2 T2, RR I2 J2 → P v v I2 J2 T2) : wp_X11_interest a b c I J T (fun v I1 J1 T1 => wp_X12_interest a b c I1 J1 T1 (fun w I2 J2 T2 => P v w I2 J2 T2)) := by
  by_cases q : (0 ≤ a.toInt ∧ a.toInt ≤ 1000000000) ∧ (0 ≤ b.toInt ∧ b.toInt ≤ 1000) ∧ (0 ≤ c.toInt ∧ c.toInt ≤ 10000)
  · obtain ⟨i, hi, rfl⟩ := ii_at (n := 1000000001) q.1.1 (by omega) (by omega)
    obtain ⟨j, hj, rfl⟩ := ii_at (n := 1001) q.2.1.1 (by omega) (by omega)
    obtain ⟨k, hk, rfl⟩ := ii_at (n := 10001) q.2.2.1 (by omega) (by omega)
    have i4 : (nI i).toInt = (i : Int) := nI_toInt (by omega)
    have j4 : (nI j).toInt = (j : Int) := nI_toInt (by omega)
    have k4 : (nI k).toInt = (k : Int) := nI_toInt (by omega)
    have en : (nI i).toInt64 * (nI j).toInt64 * (nI k).toInt64 = lM (i * j * k) := by
      rw [nI_iZ, nI_iZ, nI_iZ, iZ_64 (by omega), iZ_64 (by omega), iZ_64 (by omega), lZ_mul, lZ_mul]
      unfold lM
      rw [Int.natCast_mul, Int.natCast_mul]
    have hN : i * j * k < 2 ^ 54 := by
      have h1 : i * j ≤ 1000000000 * 1000 := Nat.mul_le_mul (by omega) (by omega)
      have h2 : i * j * k ≤ 1000000000 * 1000 * 10000 := Nat.mul_le_mul h1 (by omega)
      omega
    generalize i * j * k = N at en hN
    have g0 : 0 < Nat.gcd N 365000 := Nat.gcd_pos_of_pos_right N (by omega)
    have gN : N / Nat.gcd N 365000 = 0 ↔ N = 0 := by
      have hd := Nat.gcd_dvd_left N 365000
      constructor
      · intro e
        have := Nat.div_mul_cancel hd
        rw [e] at this
        omega
      · intro e; rw [e]; exact Nat.zero_div _
    have gb : N / Nat.gcd N 365000 < 9223372036854775808 := Nat.lt_of_le_of_lt (Nat.div_le_self _ _) (by omega)
    have d6 : (365000 : Int64) = lM 365000 := rfl
    have fm : ∀ {J9 : Nat → Nat → Int64} {Q : Int32 → (Nat → Nat → Int32) → (Nat → Nat → Int64) → Option Nat → Prop}, Q (if N = 0 then 0 else 1) (ix_u2 (ix_u2 I 0 0 0) 204 0 0) (ix_u2 (ix_u2 J9 204 1 (lM (N / Nat.gcd N 365000))) 204 2 (lM (365000 / Nat.gcd N 365000))) T → wp_X12_interest (nI i) (nI j) (nI k) (ix_u2 I 0 0 0) J9 T Q := by
      intro J9 Q hQ
      have fin : wl_X12_interest_58 (lM N) (lM N) 365000 (ix_u2 I 0 0 0) J9 T Q := lp_fracM (I := ix_u2 I 0 0 0) (J := J9) (T := T) (P := Q) hN hQ
      unfold wp_X12_interest
      rw [en]
      simp only [wp_X12_refuse, lgc_lt, lgc_le, lgc_eq, cmp_s, cmp_t, u2_e]
      try simp only [Int32.lt_iff_toInt_lt, Int32.le_iff_toInt_le]
      simp [i4, j4, k4]
      repeat' (first | with_reducible exact fin | with_reducible refine And.intro ?_ ?_ | with_reducible intro _)
      all_goals try first | rfl | (exfalso; omega) | exact inb_of (by omega) (by omega) | with_reducible exact nI_in2 (by omega) (by omega)
    have p0 : ∀ {R : Int32 → (Nat → Nat → Int32) → (Nat → Nat → Int64) → Option Nat → Prop}, R 0 I J T → wp_X11_outside (nI i).toInt64 0 1000000000 I J T R := by
      intro R hR
      simp only [wp_X11_outside, lgc_lt, lgc_le, lgc_eq, cmp_s, cmp_t, u2_e]
      try simp only [Int32.lt_iff_toInt_lt, Int32.le_iff_toInt_le]
      simp [i4]
      repeat' (first | with_reducible refine And.intro ?_ ?_ | with_reducible intro _)
      all_goals try first | rfl | (exfalso; omega) | exact inb_of (by omega) (by omega) | with_reducible exact nI_in2 (by omega) (by omega) | exact hR
    have p1 : ∀ {R : Int32 → (Nat → Nat → Int32) → (Nat → Nat → Int64) → Option Nat → Prop}, R 0 I J T → wp_X11_outside (nI j).toInt64 0 1000 I J T R := by
      intro R hR
      simp only [wp_X11_outside, lgc_lt, lgc_le, lgc_eq, cmp_s, cmp_t, u2_e]
      try simp only [Int32.lt_iff_toInt_lt, Int32.le_iff_toInt_le]
      simp [j4]
      repeat' (first | with_reducible refine And.intro ?_ ?_ | with_reducible intro _)
      all_goals try first | rfl | (exfalso; omega) | exact inb_of (by omega) (by omega) | with_reducible exact nI_in2 (by omega) (by omega) | exact hR
    have p2 : ∀ {R : Int32 → (Nat → Nat → Int32) → (Nat → Nat → Int64) → Option Nat → Prop}, R 0 I J T → wp_X11_outside (nI k).toInt64 0 10000 I J T R := by
      intro R hR
      simp only [wp_X11_outside, lgc_lt, lgc_le, lgc_eq, cmp_s, cmp_t, u2_e]
      try simp only [Int32.lt_iff_toInt_lt, Int32.le_iff_toInt_le]
      simp [k4]
      repeat' (first | with_reducible refine And.intro ?_ ?_ | with_reducible intro _)
      all_goals try first | rfl | (exfalso; omega) | exact inb_of (by omega) (by omega) | with_reducible exact nI_in2 (by omega) (by omega) | exact hR
    unfold wp_X11_interest
    refine p0 ⟨fun _ => p1 ⟨fun _ => p2 ⟨fun _ => ?_, fun z => absurd rfl z⟩, fun z => absurd rfl z⟩, fun z => absurd rfl z⟩
    rw [en, d6]
    unfold wp_X11_setFraction
    refine lp_fracC hN (by omega) (by omega) ?_
    have oI : fr_off [(0, 1, 0, 1), (204, 205, 0, 1)] I (ix_u2 (ix_u2 I 0 0 0) 204 0 0) := fr_put rfl (fr_put rfl fr_refl)
    have oJ : fr_off [(0, 1, 1, 3), (204, 205, 1, 3)] J (ix_u2 (ix_u2 (ix_u2 (ix_u2 J 0 1 (lM (N / Nat.gcd N 365000))) 0 2 (lM (365000 / Nat.gcd N 365000))) 204 1 (lM (N / Nat.gcd N 365000))) 204 2 (lM (365000 / Nat.gcd N 365000))) := fr_put rfl (fr_put rfl (fr_put rfl (fr_put rfl fr_refl)))
    have rr := rk_interest h oI oJ (by simp [rl_stat, u2_e]) (by simp [rl_frac, u2_e])
    have e1 : (ix_u2 (ix_u2 J 0 1 (lM (N / Nat.gcd N 365000))) 0 2 (lM (365000 / Nat.gcd N 365000))) 0 1 = lM (N / Nat.gcd N 365000) := by simp [u2_e]
    rw [e1, lgc_le]
    refine ⟨fun c => fm ?_, fun c => fm ?_⟩
    · rw [if_pos (gN.mp ((lM_le0 gb).mp c))]
      exact hP _ _ _ _ rr
    · rw [if_neg (fun w => c ((lM_le0 gb).mpr (gN.mpr w)))]
      exact hP _ _ _ _ rr
  · skip
    simp only [wp_X11_interest, wp_X12_interest, wp_X11_outside, wp_X11_refuse, wp_X12_refuse, lgc_lt, lgc_le, lgc_eq, cmp_s, cmp_t, u2_e]
    try simp only [Int32.lt_iff_toInt_lt, Int32.le_iff_toInt_le]
    simp
    repeat' (first | with_reducible refine And.intro ?_ ?_ | with_reducible intro _)
    all_goals try first | rfl | (exfalso; omega) | exact inb_of (by omega) (by omega) | exact hP _ _ _ _ (RR_st h 1) | with_reducible exact nI_in2 (by omega) (by omega)

