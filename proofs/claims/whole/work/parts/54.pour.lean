theorem nI_sub {a b : Nat} (h : b ≤ a) (ha : a < 2147483648) : nI a - nI b = nI (a - b) := by
  rw [nI_iZ, nI_iZ, iZ_sub, nI_iZ]
  congr 1
  omega
theorem lp_pourM {f p t q m : Nat} (hf : f < 4) (ht : t < 4) (hp : p + m ≤ 60) (hq : q + m ≤ 60) {I : Nat → Nat → Int32} {J : Nat → Nat → Int64} {T : Option Nat} {P : Int32 → (Nat → Nat → Int32) → (Nat → Nat → Int64) → Option Nat → Prop} (hP : ∀ J2, fr_off [(207, 208, 0, 2147483648)] J J2 → (∀ k, J2 207 k = if 60 * t + q ≤ k ∧ k < 60 * t + q + m then J 207 (60 * f + p + (k - (60 * t + q))) else J 207 k) → P 1 (ix_u2 I 204 0 0) J2 T) : wl_X12_pour_118 (nI f) (nI p) (nI t) (nI q) (nI m) 0 I J T P := by
  intro V hV
  have key : ∀ n i : Nat, ∀ J2 : Nat → Nat → Int64, i + n = m → fr_off [(207, 208, 0, 2147483648)] J J2 → (∀ k, J2 207 k = if (if p < q then 60 * t + q + m - i ≤ k ∧ k < 60 * t + q + m else 60 * t + q ≤ k ∧ k < 60 * t + q + i) then J 207 (60 * f + p + (k - (60 * t + q))) else J 207 k) → V (nI f) (nI p) (nI t) (nI q) (nI m) (nI i) I J2 T := by
    intro n
    induction n with
    | zero =>
      intro i J2 hi h0 h2
      apply hV
      have e : i = m := by omega
      subst e
      unfold wb_X12_pour_118 wp_X12_is
      refine ⟨fun q => absurd q (nI_nlt (by omega) (by omega)), fun _ => ⟨fun _ => ⟨rfl, hP J2 h0 (fun k => ?_)⟩, fun q => absurd rfl q⟩⟩
      rw [h2 k]
      by_cases e : p < q
      · simp only [e, if_true, show 60 * t + q + i - i = 60 * t + q by omega]
      · simp only [e, if_false]
    | succ n ih =>
      intro i J2 hi h0 h2
      apply hV
      have y1 : nI m - 1 - nI i = nI (m - 1 - i) := by rw [show (1 : Int32) = nI 1 from rfl, nI_sub (by omega) (by omega), nI_sub (by omega) (by omega)]
      have x5 : ∀ z, z < 240 → (nI z).toNatClampNeg = z := fun z hz => nI_clamp (by omega)
      simp only [wb_X12_pour_118, pr_60, y1, nI_add, nI_1]
      rw [x5 (60 * f + p + (m - 1 - i)) (by omega), x5 (60 * t + q + (m - 1 - i)) (by omega), x5 (60 * f + p + i) (by omega), x5 (60 * t + q + i) (by omega)]
      refine ⟨fun _ => ⟨fun e => ?_, fun e => ?_⟩, fun q => absurd (nI_lt (by omega) (by omega)) q⟩
      · have e : p < q := (nI_ltI (by omega) (by omega)).mp e
        simp only [e, if_true] at h2 ih
        refine ⟨nI_in2 (by omega) (by decide), nI_in2 (by omega) (by decide), ih (i + 1) _ (by omega) (fr_put (fr_in_row (a := 207) (b := 208) (by decide) (by omega) (by omega) (by omega)) h0) (fun k => ?_)⟩
        have r1 : J2 207 (60 * f + p + (m - 1 - i)) = J 207 (60 * f + p + (m - 1 - i)) := by
          rw [h2, if_neg]
          rcases Nat.lt_trichotomy f t with z | z | z <;> omega
        rw [r1]
        by_cases ek : k = 60 * t + q + (m - 1 - i)
        · subst ek
          rw [u2_s, if_pos (by omega)]
          congr 1
          omega
        · rw [u2_j ek, h2 k]
          by_cases e2 : 60 * t + q + m - i ≤ k ∧ k < 60 * t + q + m
          · rw [if_pos e2, if_pos (by omega)]
          · rw [if_neg e2, if_neg (by omega)]
      · have e : ¬ p < q := fun z => e (nI_lt z (by omega))
        simp only [e, if_false] at h2 ih
        refine ⟨nI_in2 (by omega) (by decide), nI_in2 (by omega) (by decide), ih (i + 1) _ (by omega) (fr_put (fr_in_row (a := 207) (b := 208) (by decide) (by omega) (by omega) (by omega)) h0) (fun k => ?_)⟩
        have r1 : J2 207 (60 * f + p + i) = J 207 (60 * f + p + i) := by
          rw [h2, if_neg]
          rcases Nat.lt_trichotomy f t with z | z | z <;> omega
        rw [r1]
        by_cases ek : k = 60 * t + q + i
        · subst ek
          rw [u2_s, if_pos (by omega)]
          congr 1
          omega
        · rw [u2_j ek, h2 k]
          by_cases e2 : 60 * t + q ≤ k ∧ k < 60 * t + q + i
          · rw [if_pos e2, if_pos (by omega)]
          · rw [if_neg e2, if_neg (by omega)]
  refine key m 0 J (by omega) fr_refl (fun k => ?_)
  rw [if_neg]
  by_cases e : p < q
  · simp only [e, if_true]; omega
  · simp only [e, if_false]; omega
theorem fs_pour {f p t q k s m l : Nat} (hf : f < 4) (ht : t < 4) (hs : s < 4) (hm : m ≤ 60) (hl : l ≤ 60) (hp : p + k ≤ m) (hq : q + k ≤ l) {I : Nat → Nat → Int32} {J : Nat → Nat → Int64} {T : Option Nat} {P : Int32 → (Nat → Nat → Int32) → (Nat → Nat → Int64) → Option Nat → Prop} (a1 : I 6 f = nI s) (a2 : I 6 t = nI s) (a3 : I 7 f = nI m) (a4 : I 7 t = nI l) (hP : P 1 (ix_u2 I 0 0 0) (ix_cpj J (2 + f) (2 + t) p q k) T) : wp_X11_pour (nI f) (nI p) (nI t) (nI q) (nI k) I J T P := by
  have f4 : (nI f).toInt = (f : Int) := nI_toInt (by omega)
  have f5 : (nI f).toNatClampNeg = f := nI_clamp (by omega)
  have t4 : (nI t).toInt = (t : Int) := nI_toInt (by omega)
  have t5 : (nI t).toNatClampNeg = t := nI_clamp (by omega)
  have p4 : (nI p).toInt = (p : Int) := nI_toInt (by omega)
  have q4 : (nI q).toInt = (q : Int) := nI_toInt (by omega)
  have k4 : (nI k).toInt = (k : Int) := nI_toInt (by omega)
  have p5 : (nI p).toNatClampNeg = p := nI_clamp (by omega)
  have q5 : (nI q).toNatClampNeg = q := nI_clamp (by omega)
  have k5 : (nI k).toNatClampNeg = k := nI_clamp (by omega)
  have s4 : (nI s).toInt = (s : Int) := nI_toInt (by omega)
  have s6 : ¬ nI s = -1 := fun e => by have := congrArg Int32.toInt e; rw [s4] at this; simp at this
  have m4 : (nI m).toInt = (m : Int) := nI_toInt (by omega)
  have m6 : ¬ nI m = -1 := fun e => by have := congrArg Int32.toInt e; rw [m4] at this; simp at this
  have l4 : (nI l).toInt = (l : Int) := nI_toInt (by omega)
  have l6 : ¬ nI l = -1 := fun e => by have := congrArg Int32.toInt e; rw [l4] at this; simp at this
  have mk : (nI m - nI k).toInt = (m : Int) - k := by rw [nI_iZ, nI_iZ, iZ_sub, iZ_toInt (by omega) (by omega)]
  have lk : (nI l - nI k).toInt = (l : Int) - k := by rw [nI_iZ, nI_iZ, iZ_sub, iZ_toInt (by omega) (by omega)]
  have mp : (nI m - nI p).toInt = (m : Int) - p := by rw [nI_iZ, nI_iZ, iZ_sub, iZ_toInt (by omega) (by omega)]
  have lq : (nI l - nI q).toInt = (l : Int) - q := by rw [nI_iZ, nI_iZ, iZ_sub, iZ_toInt (by omega) (by omega)]
  simp only [wp_X11_pour, wp_X11_accepted, wp_X11_pourStatus, wp_X11_refused, wp_X11_outside, lgc_lt, lgc_le, lgc_eq, cmp_s, cmp_t, u2_e]
  try simp only [Int32.lt_iff_toInt_lt, Int32.le_iff_toInt_le]
  simp [f4, f5, t4, t5, p4, q4, k4, p5, q5, k5, s6, m4, l4, mk, lk, a1, a2, a3, a4, re_1 hf, re_1 ht, hP]
  repeat' (first | refine And.intro ?_ ?_ | intro _)
  all_goals try first | rfl | (exfalso; omega) | exact inb_of (by omega) (by omega) | exact nI_in2 (by omega) (by omega) | omega

theorem fm_pour {f p t q k s m l : Nat} (hf : f < 4) (ht : t < 4) (hs : s < 4) (hm : m ≤ 60) (hl : l ≤ 60) (hp : p + k ≤ m) (hq : q + k ≤ l) {I : Nat → Nat → Int32} {J : Nat → Nat → Int64} {T : Option Nat} {P : Int32 → (Nat → Nat → Int32) → (Nat → Nat → Int64) → Option Nat → Prop} (a1 : I 205 f = nI s) (a2 : I 205 t = nI s) (a3 : I 206 f = nI m) (a4 : I 206 t = nI l) (hP : ∀ J2, fr_off [(207, 208, 0, 2147483648)] J J2 → (∀ y, J2 207 y = if 60 * t + q ≤ y ∧ y < 60 * t + q + k then J 207 (60 * f + p + (y - (60 * t + q))) else J 207 y) → P 1 (ix_u2 I 204 0 0) J2 T) : wp_X12_pour (nI f) (nI p) (nI t) (nI q) (nI k) I J T P := by
  have f4 : (nI f).toInt = (f : Int) := nI_toInt (by omega)
  have f5 : (nI f).toNatClampNeg = f := nI_clamp (by omega)
  have t4 : (nI t).toInt = (t : Int) := nI_toInt (by omega)
  have t5 : (nI t).toNatClampNeg = t := nI_clamp (by omega)
  have p4 : (nI p).toInt = (p : Int) := nI_toInt (by omega)
  have q4 : (nI q).toInt = (q : Int) := nI_toInt (by omega)
  have k4 : (nI k).toInt = (k : Int) := nI_toInt (by omega)
  have p5 : (nI p).toNatClampNeg = p := nI_clamp (by omega)
  have q5 : (nI q).toNatClampNeg = q := nI_clamp (by omega)
  have k5 : (nI k).toNatClampNeg = k := nI_clamp (by omega)
  have s4 : (nI s).toInt = (s : Int) := nI_toInt (by omega)
  have s6 : ¬ nI s = -1 := fun e => by have := congrArg Int32.toInt e; rw [s4] at this; simp at this
  have m4 : (nI m).toInt = (m : Int) := nI_toInt (by omega)
  have m6 : ¬ nI m = -1 := fun e => by have := congrArg Int32.toInt e; rw [m4] at this; simp at this
  have l4 : (nI l).toInt = (l : Int) := nI_toInt (by omega)
  have l6 : ¬ nI l = -1 := fun e => by have := congrArg Int32.toInt e; rw [l4] at this; simp at this
  have mk : (nI m - nI k).toInt = (m : Int) - k := by rw [nI_iZ, nI_iZ, iZ_sub, iZ_toInt (by omega) (by omega)]
  have lk : (nI l - nI k).toInt = (l : Int) - k := by rw [nI_iZ, nI_iZ, iZ_sub, iZ_toInt (by omega) (by omega)]
  have mp : (nI m - nI p).toInt = (m : Int) - p := by rw [nI_iZ, nI_iZ, iZ_sub, iZ_toInt (by omega) (by omega)]
  have lq : (nI l - nI q).toInt = (l : Int) - q := by rw [nI_iZ, nI_iZ, iZ_sub, iZ_toInt (by omega) (by omega)]
  simp only [wp_X12_pour, wp_X12_is, wp_X12_isTray, lgc_lt, lgc_le, lgc_eq, cmp_s, cmp_t, u2_e]
  try simp only [Int32.lt_iff_toInt_lt, Int32.le_iff_toInt_le]
  simp [f4, f5, t4, t5, p4, q4, k4, p5, q5, k5, s6, m4, l4, m6, l6, mp, lq, a1, a2, a3, a4]
  repeat' (first | exact lp_pourM hf ht (by omega) (by omega) hP | refine And.intro ?_ ?_ | intro _)
  all_goals try first | rfl | (exfalso; omega) | exact inb_of (by omega) (by omega) | exact nI_in2 (by omega) (by omega)

