/-! draw -/
def dr_n (s : Int64) : Int64 := ((s * 1103515245) + 12345) &&& 2147483647
def dr_k (a : Int32) (s : Int64) (i c : Int32) : Bool := decide (lg_cmp ((dr_n s / 65536) - (dr_n s / 65536) / ((52 - i).toInt64) * ((52 - i).toInt64)) ((a - c).toInt64) < 0)
def dr_s (s : Int64) : Nat → Int64
  | 0 => s
  | i + 1 => dr_n (dr_s s i)
def dr_c (a : Int32) (s : Int64) : Nat → Nat
  | 0 => 0
  | i + 1 => if dr_k a (dr_s s i) (nI i) (nI (dr_c a s i)) = true then dr_c a s i + 1 else dr_c a s i
def dr_a (a : Int32) (s : Int64) : Nat → Nat → Int32
  | 0 => fun _ => 0
  | i + 1 => if dr_k a (dr_s s i) (nI i) (nI (dr_c a s i)) = true then fun j => if j = dr_c a s i then nI i else dr_a a s i j else dr_a a s i
theorem dr_le {a : Int32} {s : Int64} : ∀ {i : Nat}, dr_c a s i ≤ i
  | 0 => by rw [dr_c]; omega
  | i + 1 => by
    have := dr_le (a := a) (s := s) (i := i)
    rw [dr_c]
    split <;> omega
theorem dr_wk {a : Int32} {s : Int64} : ∀ {i : Nat}, i ≤ 52 → ∀ j, j < dr_c a s i → ∃ w : Nat, w < 52 ∧ dr_a a s i j = nI w
  | 0, _, j, h => by rw [dr_c] at h; omega
  | i + 1, hi, j, h => by
    have ih := dr_wk (a := a) (s := s) (i := i) (by omega)
    rw [dr_c] at h
    rw [dr_a]
    by_cases c : dr_k a (dr_s s i) (nI i) (nI (dr_c a s i)) = true
    · rw [if_pos c] at h ⊢
      by_cases e : j = dr_c a s i
      · exact ⟨i, by omega, by simp [e]⟩
      · obtain ⟨w, h1, h2⟩ := ih j (by omega)
        exact ⟨w, h1, by simp [e, h2]⟩
    · rw [if_neg c] at h ⊢
      exact ih j h
theorem nzl_nI {n : Nat} (h : 0 < n) (h2 : n < 2147483648) : ix_nzl (nI n).toInt64 = true := by
  unfold ix_nzl
  have : ¬ (nI n).toInt64 = 0 := fun e => by
    have := congrArg Int64.toInt e
    rw [Int32.toInt_toInt64, nI_toInt (by omega)] at this
    have e0 : (0 : Int64).toInt = 0 := rfl
    omega
  simp [this]
theorem lp_drawC {a : Int32} {s : Int64} {I0 : Nat → Nat → Int32} {I : Nat → Nat → Int32} {J : Nat → Nat → Int64} {T : Option Nat} {P : (Nat → Nat → Int32) → (Nat → Nat → Int64) → Option Nat → Prop} (o0 : fr_off [(106, 107, 7, 8), (121, 122, 0, 2147483648)] I I0) (z0 : I0 106 7 = 0) (hP : ∀ I2, fr_off [(106, 107, 7, 8), (121, 122, 0, 2147483648)] I I2 → I2 106 7 = nI (dr_c a s 52) → (∀ j, j < dr_c a s 52 → I2 121 j = dr_a a s 52 j) → P I2 J T) : wl_X4_drawWeeks_11 a s 0 I0 J T P := by
  intro V hV
  have key : ∀ m i : Nat, ∀ I1 : Nat → Nat → Int32, i + m = 52 → fr_off [(106, 107, 7, 8), (121, 122, 0, 2147483648)] I I1 → I1 106 7 = nI (dr_c a s i) → (∀ j, j < dr_c a s i → I1 121 j = dr_a a s i j) → V a (dr_s s i) (nI i) I1 J T := by
    intro m
    induction m with
    | zero =>
      intro i I1 hi o e1 e2
      have hi : i = 52 := by omega
      subst hi
      apply hV
      unfold wb_X4_drawWeeks_11
      exact ⟨fun q => absurd q (by decide), fun _ => hP I1 o e1 e2⟩
    | succ m ih =>
      intro i I1 hi o e1 e2
      have nxt := ih (i + 1)
      have le := dr_le (a := a) (s := s) (i := i)
      have c5 : (nI (dr_c a s i)).toNatClampNeg = dr_c a s i := nI_clamp (by omega)
      rw [dr_c, dr_a, dr_s] at nxt
      apply hV
      unfold wb_X4_drawWeeks_11
      
      rw [e1, c5, nI_1, nI_1]
      refine ⟨fun _ => ⟨?_, fun c => ⟨nI_in2 (by omega) (by decide), ?_⟩, fun c => ?_⟩, fun q => absurd (nI_lt (a := i) (b := 52) (by omega) (by omega)) q⟩
      · rw [show (52 : Int32) = nI 52 from rfl, nI_sub (by omega) (by omega)]
        exact nzl_nI (by omega) (by omega)
      · have ck : dr_k a (dr_s s i) (nI i) (nI (dr_c a s i)) = true := decide_eq_true c
        rw [if_pos ck, if_pos ck] at nxt
        refine nxt _ (by omega) (fr_put rfl (fr_putn rfl (by omega) o)) (by simp [u2_e]) (fun j hj => ?_)
        by_cases e : j = dr_c a s i
        · simp [u2_e, e]
        · have := e2 j (by omega)
          simp [u2_e, e, this]
      · have ck : ¬ dr_k a (dr_s s i) (nI i) (nI (dr_c a s i)) = true := fun z => c (of_decide_eq_true z)
        rw [if_neg ck, if_neg ck] at nxt
        exact nxt I1 (by omega) o e1 e2
  exact key 52 0 I0 (by omega) o0 z0 (fun j hj => by rw [dr_c] at hj; omega)
theorem lp_drawM {a : Int32} {s : Int64} {I0 : Nat → Nat → Int32} {I : Nat → Nat → Int32} {J : Nat → Nat → Int64} {T : Option Nat} {P : Int32 → (Nat → Nat → Int32) → (Nat → Nat → Int64) → Option Nat → Prop} (o0 : fr_off [(204, 205, 66, 67), (252, 253, 0, 2147483648), (204, 205, 0, 1)] I I0) (z0 : I0 204 66 = 0) (hP : ∀ I2, fr_off [(204, 205, 66, 67), (252, 253, 0, 2147483648), (204, 205, 0, 1)] I I2 → I2 204 66 = nI (dr_c a s 52) → (∀ j, j < dr_c a s 52 → I2 252 j = dr_a a s 52 j) → I2 204 0 = 0 → P a I2 J T) : wl_X12_draw_32 a s 0 I0 J T P := by
  intro V hV
  have key : ∀ m i : Nat, ∀ I1 : Nat → Nat → Int32, i + m = 52 → fr_off [(204, 205, 66, 67), (252, 253, 0, 2147483648), (204, 205, 0, 1)] I I1 → I1 204 66 = nI (dr_c a s i) → (∀ j, j < dr_c a s i → I1 252 j = dr_a a s i j) → V a (dr_s s i) (nI i) I1 J T := by
    intro m
    induction m with
    | zero =>
      intro i I1 hi o e1 e2
      have hi : i = 52 := by omega
      subst hi
      apply hV
      unfold wb_X12_draw_32
      exact ⟨fun q => absurd q (by decide), fun _ => (by unfold wp_X12_gives; exact hP _ (fr_put rfl o) (by simpa [u2_e] using e1) (fun j hj => by simpa [u2_e] using e2 j hj) (by simp [u2_e]))⟩
    | succ m ih =>
      intro i I1 hi o e1 e2
      have nxt := ih (i + 1)
      have le := dr_le (a := a) (s := s) (i := i)
      have c5 : (nI (dr_c a s i)).toNatClampNeg = dr_c a s i := nI_clamp (by omega)
      rw [dr_c, dr_a, dr_s] at nxt
      apply hV
      unfold wb_X12_draw_32
      rw [Int64.mul_comm 1103515245 (dr_s s i)]
      rw [e1, c5, nI_1, nI_1]
      refine ⟨fun _ => ⟨?_, fun c => ⟨nI_in2 (by omega) (by decide), ?_⟩, fun c => ?_⟩, fun q => absurd (nI_lt (a := i) (b := 52) (by omega) (by omega)) q⟩
      · rw [show (52 : Int32) = nI 52 from rfl, nI_sub (by omega) (by omega)]
        exact nzl_nI (by omega) (by omega)
      · have ck : dr_k a (dr_s s i) (nI i) (nI (dr_c a s i)) = true := decide_eq_true c
        rw [if_pos ck, if_pos ck] at nxt
        refine nxt _ (by omega) (fr_put rfl (fr_putn rfl (by omega) o)) (by simp [u2_e]) (fun j hj => ?_)
        by_cases e : j = dr_c a s i
        · simp [u2_e, e]
        · have := e2 j (by omega)
          simp [u2_e, e, this]
      · have ck : ¬ dr_k a (dr_s s i) (nI i) (nI (dr_c a s i)) = true := fun z => c (of_decide_eq_true z)
        rw [if_neg ck, if_neg ck] at nxt
        exact nxt I1 (by omega) o e1 e2
  exact key 52 0 I0 (by omega) o0 z0 (fun j hj => by rw [dr_c] at hj; omega)
theorem rk_draw {I I2 : Nat → Nat → Int32} {J : Nat → Nat → Int64} (h : RR I J) (o : fr_off [(0, 1, 0, 1), (204, 205, 0, 1), (106, 107, 7, 8), (121, 122, 0, 2147483648), (204, 205, 66, 67), (252, 253, 0, 2147483648)] I I2) (p0 : RL_stat I2) (p1 : RL_draw I2) : RR I2 J := ⟨p0, fr_frac (fr_refl (D := [])) rfl h.frac, fr_tray o (fr_refl (D := [])) rfl h.tray, fr_land o rfl h.land, fr_gold o rfl h.gold, fr_road o rfl h.road, fr_carr o rfl h.carr, fr_rate o rfl h.rate, fr_tape o rfl h.tape, fr_falt o rfl h.falt, fr_resv o rfl h.resv, fr_flow o rfl h.flow, p1, fr_tell o rfl h.tell, fr_acct o (fr_refl (D := [])) rfl h.acct, fr_rule o rfl h.rule, fr_bags o rfl h.bags, fr_hand o rfl h.hand, fr_book o rfl h.book, fr_figs (fr_refl (D := [])) rfl h.figs, fr_case o rfl h.case, fr_wght o rfl h.wght, fr_trty o (fr_refl (D := [])) rfl h.trty⟩
theorem rp_draw (a : Int32) (b : Int32) {I : Nat → Nat → Int32} {J : Nat → Nat → Int64} {T : Option Nat} {P : Int32 → Int32 → (Nat → Nat → Int32) → (Nat → Nat → Int64) → Option Nat → Prop} (h : RR I J) (hP : ∀ v I2 J2 T2, RR I2 J2 → P v v I2 J2 T2) : wp_X11_draw a b I J T (fun v I1 J1 T1 => wp_X12_draw a b I1 J1 T1 (fun w I2 J2 T2 => P v w I2 J2 T2)) := by
  by_cases q : 1 ≤ a.toInt ∧ a.toInt ≤ 52 ∧ 0 ≤ b.toInt
  · have oC : fr_off [(106, 107, 7, 8), (121, 122, 0, 2147483648)] I (ix_u2 I 106 7 0) := fr_put rfl fr_refl
    have fin : wl_X4_drawWeeks_11 a b.toInt64 0 (ix_u2 I 106 7 0) J T (fun I7 J7 T7 => wp_X12_draw a b (ix_u2 I7 0 0 0) J7 T7 (fun w I3 J3 T3 => P a w I3 J3 T3)) := lp_drawC oC (by simp [u2_e]) (fun I2 o2 c1 c2 => by
      have o3 : fr_off [(106, 107, 7, 8), (121, 122, 0, 2147483648), (0, 1, 0, 1)] I (ix_u2 I2 0 0 0) := fr_put rfl (fr_mono (by decide) o2)
      have o4 : fr_off [(204, 205, 66, 67), (252, 253, 0, 2147483648), (204, 205, 0, 1)] (ix_u2 I2 0 0 0) (ix_u2 (ix_u2 I2 0 0 0) 204 66 0) := fr_put rfl fr_refl
      have fM : wl_X12_draw_32 a b.toInt64 0 (ix_u2 (ix_u2 I2 0 0 0) 204 66 0) J T (fun w I3 J3 T3 => P a w I3 J3 T3) := lp_drawM o4 (by simp [u2_e]) (fun I5 o5 m1 m2 m3 => by
        refine hP _ _ _ _ (rk_draw h (fr_trans (fr_mono (by decide) o3) (fr_mono (by decide) o5)) ?_ ?_)
        · show I5 0 0 = I5 204 0
          rw [m3, fr_at 0 0 o5 rfl]; simp [u2_e]
        · refine ⟨dr_c a b.toInt64 52, dr_le, ?_, m1, fun k hk => ⟨?_, ?_⟩⟩
          · rw [fr_at 106 7 o5 rfl]; simpa [u2_e] using c1
          · rw [m2 k hk, fr_rw1 o5 121 rfl]; simpa [u2_e] using c2 k hk
          · obtain ⟨w, hw, e⟩ := dr_wk (a := a) (s := b.toInt64) (i := 52) (by omega) k hk
            refine ⟨w, hw, ?_⟩
            rw [fr_rw1 o5 121 rfl, ← e]; simpa [u2_e] using c2 k hk)
      simp only [wp_X12_draw, wp_X12_refuse, lgc_lt, lgc_le, lgc_eq, cmp_s, cmp_t, u2_e]
      try simp only [Int32.lt_iff_toInt_lt, Int32.le_iff_toInt_le]
      simp
      repeat' (first | with_reducible exact fM | with_reducible refine And.intro ?_ ?_ | with_reducible intro _)
      all_goals try first | rfl | (exfalso; omega) | exact inb_of (by omega) (by omega) | with_reducible exact nI_in2 (by omega) (by omega)
      )
    simp only [wp_X11_draw, wp_X11_outside, wp_X11_refuse, wp_X4_drawWeeks, lgc_lt, lgc_le, lgc_eq, cmp_s, cmp_t, u2_e]
    try simp only [Int32.lt_iff_toInt_lt, Int32.le_iff_toInt_le]
    simp
    repeat' (first | with_reducible exact fin | with_reducible refine And.intro ?_ ?_ | with_reducible intro _)
    all_goals try first | rfl | (exfalso; omega) | exact inb_of (by omega) (by omega) | with_reducible exact nI_in2 (by omega) (by omega)
  · skip
    simp only [wp_X11_draw, wp_X12_draw, wp_X11_outside, wp_X11_refuse, wp_X4_drawWeeks, wp_X12_refuse, lgc_lt, lgc_le, lgc_eq, cmp_s, cmp_t, u2_e]
    try simp only [Int32.lt_iff_toInt_lt, Int32.le_iff_toInt_le]
    simp
    repeat' (first | with_reducible refine And.intro ?_ ?_ | with_reducible intro _)
    all_goals try first | rfl | (exfalso; omega) | exact inb_of (by omega) (by omega) | exact hP _ _ _ _ (RR_st h 1) | with_reducible exact nI_in2 (by omega) (by omega)

