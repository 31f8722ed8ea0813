/-! what a land owes for bags that are lost -/
def bp_ (I : Nat → Nat → Int32) (k : Nat) (kn : Int32) : Int32 × Int32 := sc_find (I 177) (I 178) (I 179) (I 180) (nI k) kn (I 144 k) (I 142 8).toNatClampNeg
def bl_ (I : Nat → Nat → Int32) (k : Nat) (day : Int32) : Int32 := la_ (bp_ I k day).1.toNatClampNeg (I 145 k).toNatClampNeg day (bp_ I k day).2 (I (13 + (I (147 + k) (bp_ I k day).1.toNatClampNeg).toNatClampNeg) (I (147 + k) ((bp_ I k day).1.toNatClampNeg + 1)).toNatClampNeg) (I 142 0) (I 142 1)
def lo_ (I : Nat → Nat → Int32) (day land : Int32) (k : Nat) : Bool := decide (I 144 k ≤ day) && (decide (I (147 + k) (bp_ I k day).1.toNatClampNeg = land) && decide (bl_ I k day = 2))
def ls_ (I : Nat → Nat → Int32) (day land : Int32) : Nat → Int64
  | 0 => 0
  | k + 1 => if lo_ I day land k then ls_ I day land k + (I 143 k).toInt64 * (I 142 2).toInt64 / 1000 else ls_ I day land k
theorem la_q {q m : Nat} {day y d d' gr li : Int32} (h : q + 1 < m → d = d') : la_ q m day y d gr li = la_ q m day y d' gr li := by
  unfold la_
  by_cases c : m ≤ q + 1
  · rw [if_pos c, if_pos c]
  · rw [if_neg c, if_neg c, h (by omega)]
theorem lp_losesC {nb : Nat} {land day : Int32} {I0 : Nat → Nat → Int32} {I : Nat → Nat → Int32} {J : Nat → Nat → Int64} {T : Option Nat} {P : Int64 → (Nat → Nat → Int32) → (Nat → Nat → Int64) → Option Nat → Prop} (h : RR I J) (hnb : nb ≤ 30) (n1 : I 142 3 = nI nb) (o0 : fr_off [(0, 1, 0, 1), (142, 143, 13, 15)] I I0) (hP : ∀ I2, fr_off [(0, 1, 0, 1), (142, 143, 13, 15)] I I2 → I2 0 0 = I0 0 0 → P (ls_ I day land nb) I2 J T) : wl_X1_lossesOf_6_c8 land day 0 0 I0 J T P := by
  intro V hV
  have key : ∀ m i : Nat, ∀ I1 : Nat → Nat → Int32, i + m = nb → fr_off [(0, 1, 0, 1), (142, 143, 13, 15)] I I1 → I1 0 0 = I0 0 0 → V land day (ls_ I day land i) (nI i) I1 J T := by
    intro m
    induction m with
    | zero =>
      intro i I1 hi o s
      have hi : i = nb := by omega
      subst hi
      apply hV
      unfold wb_X1_lossesOf_6_c8
      rw [fr_at 142 3 o rfl, n1]
      exact ⟨fun q => absurd q (nI_nlt (Nat.le_refl _) (by omega)), fun _ => hP I1 o s⟩
    | succ m ih =>
      intro i I1 hi o s
      have i5 : (nI i).toNatClampNeg = i := nI_clamp (by omega)
      obtain ⟨g, m9, q, y, e1, e2, d, hg, g1, g2, m2, m5, l1, l2, b1, b2, sc1, sc2, hq, ⟨r1, r2, r3⟩, p1⟩ := bg_ok (kn := day) h hnb n1 (show i < nb by omega)
      have bp : bp_ I i day = (nI q, nI y) := by
        unfold bp_
        rw [g1, nI_clamp (show g < 2 ^ 31 by omega)]
        exact sc1
      have q5 : (nI q).toNatClampNeg = q := nI_clamp (by omega)
      have blv : bl_ I i day = la_ q m9 day (nI y) (nI d) (I 142 0) (I 142 1) := by
        unfold bl_
        rw [bp, l1, nI_clamp (show m9 < 2 ^ 31 by omega)]
        show la_ (nI q).toNatClampNeg m9 day (nI y) _ _ _ = _
        rw [q5]
        refine la_q (fun z => ?_)
        obtain ⟨z1, -, z2, z3, -⟩ := p1 z
        rw [r1, z1, nI_clamp (show e1 < 2 ^ 31 by omega), nI_clamp (show e2 < 2 ^ 31 by omega)]
        exact z3
      have nx : ∀ I2, fr_off [(0, 1, 0, 1), (142, 143, 13, 15)] I I2 → I2 0 0 = I0 0 0 → lo_ I day land i = false → V land day (ls_ I day land i) (nI (i + 1)) I2 J T := fun I2 o2 s2 hl => by
        have := ih (i + 1) I2 (by omega) o2 s2
        rw [ls_, hl] at this
        exact this
      have eP : I (147 + i) (bp_ I i day).1.toNatClampNeg = nI e1 := by rw [bp]; show I (147 + i) (nI q).toNatClampNeg = nI e1; rw [q5]; exact r1
      have row : ∀ I2, fr_off [(0, 1, 0, 1), (142, 143, 13, 15)] I I2 → sc_find (I2 177) (I2 178) (I2 179) (I2 180) (nI i) day (I2 144 i) g = (nI q, nI y) := fun I2 o2 => by
        rw [fr_rw1 o2 177 rfl, fr_rw1 o2 178 rfl, fr_rw1 o2 179 rfl, fr_rw1 o2 180 rfl, fr_rw1 o2 144 rfl]; exact sc1
      apply hV
      unfold wb_X1_lossesOf_6_c8 wp_X1_hasBegun wp_X1_landOf
      rw [fr_at 142 3 o rfl, n1, i5, nI_1, fr_rw1 o 144 rfl]
      refine ⟨fun _ => ⟨nI_in2 (by omega) (by decide), fun c => ⟨fun z => absurd z (by decide), fun _ => ?_⟩, fun c => ⟨fun _ => nx I1 o s (by simp [lo_, c]), fun z => absurd rfl z⟩⟩, fun q => absurd (nI_lt (by omega) (by omega)) q⟩
      refine fn_findC (g := g) (by omega) hg (by rw [fr_at 142 8 o rfl]; exact g1) (fun I2 o2 s1 s2 => ?_)
      rw [row I1 o] at s1
      have o3 : fr_off [(0, 1, 0, 1), (142, 143, 13, 15)] I I2 := fr_trans o (fr_mono (by decide) o2)
      have s3 : I2 0 0 = I0 0 0 := by rw [fr_at 0 0 o2 rfl]; exact s
      have hr : I2 (147 + i) = I (147 + i) := fr_row o3 (a := 147) (b := 177) rfl (by omega) (by omega)
      have s1 : I2 142 13 = nI q := s1
      rw [s1, re_146 (show i < 30 by omega), hr, q5, r1]
      refine ⟨nI_in2 (by omega) (by decide), nI_in2 (by omega) (by decide), fun c2 => ?_, fun c2 => nx I2 o3 s3 (by simp [lo_, eP, c2])⟩
      refine fn_lateC (g := g) (m := m9) (q := q) (y := y) (e1 := e1) (e2 := e2) (d := d) (by omega) hg (by rw [fr_at 142 8 o3 rfl]; exact g1) m2 m5 (by rw [fr_rw1 o3 145 rfl]; exact l1) (row I2 o3) hq (fun z => by
        rw [hr, fr_row o3 (a := 13) (b := 20) (x := 13 + e1) rfl (by omega) (by omega)]
        exact ⟨r1, (p1 z).1, r3, (p1 z).2.2.1, (p1 z).2.2.2.1, (p1 z).2.2.2.2.2⟩) (fun I4 o4 s4 => ?_)
      have o5 : fr_off [(0, 1, 0, 1), (142, 143, 13, 15)] I I4 := fr_trans o3 (fr_mono (by decide) o4)
      have s5 : I4 0 0 = I0 0 0 := by rw [fr_at 0 0 o4 rfl]; exact s3
      rw [fr_at 142 0 o3 rfl, fr_at 142 1 o3 rfl, ← blv]
      refine ⟨fun c3 => ⟨nI_in2 (by omega) (by decide), ?_⟩, fun c3 => nx I4 o5 s5 (by simp [lo_, c3])⟩
      have := ih (i + 1) I4 (by omega) o5 s5
      rw [ls_, if_pos (by simp [lo_, c, eP, c2, c3])] at this
      rw [fr_rw1 o5 143 rfl, fr_at 142 2 o5 rfl]
      exact this
  exact key nb 0 I0 (by omega) o0 rfl
theorem lp_losesM {nb : Nat} {land day : Int32} {I0 : Nat → Nat → Int32} {I : Nat → Nat → Int32} {J : Nat → Nat → Int64} {T : Option Nat} {P : Int64 → (Nat → Nat → Int32) → (Nat → Nat → Int64) → Option Nat → Prop} (h : RR I J) (hnb : nb ≤ 30) (n1 : I 142 3 = nI nb) (n2 : I 204 81 = nI nb) (o0 : fr_off [(0, 1, 0, 1), (142, 143, 13, 15), (204, 205, 0, 1), (204, 205, 95, 97)] I I0) (hP : ∀ I2, fr_off [(0, 1, 0, 1), (142, 143, 13, 15), (204, 205, 0, 1), (204, 205, 95, 97)] I I2 → I2 0 0 = I0 0 0 → I2 204 0 = 0 → P (ls_ I day land nb) I2 J T) : wl_X12_loses_27 land day 0 0 I0 J T P := by
  intro V hV
  have key : ∀ m i : Nat, ∀ I1 : Nat → Nat → Int32, i + m = nb → fr_off [(0, 1, 0, 1), (142, 143, 13, 15), (204, 205, 0, 1), (204, 205, 95, 97)] I I1 → I1 0 0 = I0 0 0 → V land day (ls_ I day land i) (nI i) I1 J T := by
    intro m
    induction m with
    | zero =>
      intro i I1 hi o s
      have hi : i = nb := by omega
      subst hi
      apply hV
      unfold wb_X12_loses_27 wp_X12_givesLong
      rw [fr_at 204 81 o rfl, n2]
      exact ⟨fun q => absurd q (nI_nlt (Nat.le_refl _) (by omega)), fun _ => hP _ (fr_put rfl o) (by simpa [u2_e] using s) (by simp [u2_e])⟩
    | succ m ih =>
      intro i I1 hi o s
      have i5 : (nI i).toNatClampNeg = i := nI_clamp (by omega)
      obtain ⟨g, m9, q, y, e1, e2, d, hg, g1, g2, m2, m5, l1, l2, b1, b2, sc1, sc2, hq, ⟨r1, r2, r3⟩, p1⟩ := bg_ok (kn := day) h hnb n1 (show i < nb by omega)
      have ru := h.rule
      have bp : bp_ I i day = (nI q, nI y) := by
        unfold bp_
        rw [g1, nI_clamp (show g < 2 ^ 31 by omega)]
        exact sc1
      have q5 : (nI q).toNatClampNeg = q := nI_clamp (by omega)
      have x5 : (nI (5 * i + q)).toNatClampNeg = 5 * i + q := nI_clamp (by omega)
      have blv : bl_ I i day = la_ q m9 day (nI y) (nI d) (I 142 0) (I 142 1) := by
        unfold bl_
        rw [bp, l1, nI_clamp (show m9 < 2 ^ 31 by omega)]
        show la_ (nI q).toNatClampNeg m9 day (nI y) _ _ _ = _
        rw [q5]
        refine la_q (fun z => ?_)
        obtain ⟨z1, -, z2, z3, -⟩ := p1 z
        rw [r1, z1, nI_clamp (show e1 < 2 ^ 31 by omega), nI_clamp (show e2 < 2 ^ 31 by omega)]
        exact z3
      have nx : ∀ I2, fr_off [(0, 1, 0, 1), (142, 143, 13, 15), (204, 205, 0, 1), (204, 205, 95, 97)] I I2 → I2 0 0 = I0 0 0 → lo_ I day land i = false → V land day (ls_ I day land i) (nI (i + 1)) I2 J T := fun I2 o2 s2 hl => by
        have := ih (i + 1) I2 (by omega) o2 s2
        rw [ls_, hl] at this
        exact this
      have eP : I (147 + i) (bp_ I i day).1.toNatClampNeg = nI e1 := by rw [bp]; show I (147 + i) (nI q).toNatClampNeg = nI e1; rw [q5]; exact r1
      apply hV
      unfold wb_X12_loses_27
      rw [fr_at 204 81 o rfl, n2, i5, nI_1, fr_rw1 o 261 rfl, ← b1]
      refine ⟨fun _ => ⟨nI_in2 (by omega) (by decide), fun c => ?_, fun c => nx I1 o s (by simp [lo_, c])⟩, fun q => absurd (nI_lt (by omega) (by omega)) q⟩
      refine fn_lateM (g := g) (m := m9) (q := q) (y := y) (e1 := e1) (e2 := e2) (d := d) (by omega) hg (by rw [fr_at 204 82 o rfl]; exact g2) m2 m5 (by rw [fr_rw1 o 260 rfl]; exact l2) (by rw [fr_rw1 o 263 rfl, fr_rw1 o 264 rfl, fr_rw1 o 265 rfl, fr_rw1 o 266 rfl, fr_rw1 o 261 rfl]; exact sc2) hq (fun z => by
        rw [fr_rw1 o 262 rfl, fr_rw1 o 211 rfl]
        exact ⟨r2, (p1 z).2.1, r3, (p1 z).2.2.1, (p1 z).2.2.2.2.1, (p1 z).2.2.2.2.2⟩) (by rw [fr_at 204 85 o rfl, ← ru.2.1]; exact ru.2.2.2.2.1.1) (fun I4 o4 s4 => ?_)
      have o5 : fr_off [(0, 1, 0, 1), (142, 143, 13, 15), (204, 205, 0, 1), (204, 205, 95, 97)] I I4 := fr_trans o (fr_mono (by decide) o4)
      have s5 : I4 0 0 = I0 0 0 := by rw [fr_at 0 0 o4 rfl]; exact s
      rw [fr_at 204 84 o rfl, fr_at 204 85 o rfl, ← ru.1, ← ru.2.1, ← blv, s4, pr_5, x5, fr_rw1 o5 262 rfl, r2]
      refine ⟨fun c3 => ⟨nI_in2 (by omega) (by decide), fun c2 => ⟨nI_in2 (by omega) (by decide), ?_⟩, fun c2 => nx I4 o5 s5 (by simp [lo_, eP, c2])⟩, fun c3 => nx I4 o5 s5 (by simp [lo_, c3])⟩
      have := ih (i + 1) I4 (by omega) o5 s5
      rw [ls_, if_pos (by simp [lo_, c, eP, c2, c3])] at this
      rw [fr_rw1 o5 259 rfl, fr_at 204 86 o5 rfl, ← b2, ← ru.2.2.1]
      exact this
  exact key nb 0 I0 (by omega) o0 rfl
theorem rp_loses (a : Int32) (day : Int32) {I : Nat → Nat → Int32} {J : Nat → Nat → Int64} {T : Option Nat} {P : Int64 → Int64 → (Nat → Nat → Int32) → (Nat → Nat → Int64) → Option Nat → Prop} (h : RR I J) (hP : ∀ v I2 J2 T2, RR I2 J2 → P v v I2 J2 T2) : wp_X11_loses a day I J T (fun v I1 J1 T1 => wp_X12_loses a day I1 J1 T1 (fun w I2 J2 T2 => P v w I2 J2 T2)) := by
  obtain ⟨n, hn, n1, n2⟩ := h.land
  have n3 : (nI n - 1).toInt = (n : Int) - 1 := nI_pm1 (by omega)
  have n4 : (nI n).toInt = (n : Int) := nI_toInt (by omega)
  obtain ⟨nb, hnb, m1, m2, hb⟩ := h.bags
  have o1 : fr_off [(0, 1, 0, 1), (142, 143, 13, 15)] I (ix_u2 I 0 0 0) := fr_put rfl fr_refl
  have fin : ∀ {Q : Int64 → (Nat → Nat → Int32) → (Nat → Nat → Int64) → Option Nat → Prop}, (∀ I2, fr_off [(0, 1, 0, 1), (142, 143, 13, 15)] I I2 → I2 0 0 = 0 → Q (ls_ I day a nb) I2 J T) → wl_X1_lossesOf_6_c8 a day 0 0 (ix_u2 I 0 0 0) J T Q := fun hQ => lp_losesC h hnb m1 o1 (fun I2 o2 s2 => hQ I2 o2 (by simpa [u2_e] using s2))
  by_cases g : 0 ≤ a.toInt ∧ a.toInt < n ∧ 0 ≤ day.toInt ∧ day.toInt ≤ 9999
  · have fm : ∀ I2, fr_off [(0, 1, 0, 1), (142, 143, 13, 15)] I I2 → I2 0 0 = 0 → wp_X12_loses a day I2 J T (fun w I3 J3 T3 => P (ls_ I day a nb) w I3 J3 T3) := by
      intro I2 o2 s2
      have x2 : I2 204 6 = nI n := by rw [fr_at 204 6 o2 rfl]; exact n2
      have fin2 : wl_X12_loses_27 a day 0 0 I2 J T (fun w I3 J3 T3 => P (ls_ I day a nb) w I3 J3 T3) := lp_losesM h hnb m1 m2 (fr_mono (by decide) o2) (fun I3 o3 s3 s4 => hP _ _ _ _ (rk_bagx h (fr_mono (by decide) o3) (by show I3 0 0 = I3 204 0; rw [s3, s2, s4])))
      simp only [wp_X12_loses, wp_X12_isDay, wp_X12_isLand, wp_X12_refuse, lgc_lt, lgc_le, lgc_eq, cmp_s, cmp_t, u2_e]
      try simp only [Int32.lt_iff_toInt_lt, Int32.le_iff_toInt_le]
      simp [x2, n4]
      repeat' (first | with_reducible exact fin2 | refine And.intro ?_ ?_ | intro _)
      all_goals try first | rfl | (exfalso; omega) | exact inb_of (by omega) (by omega) | with_reducible exact nI_in2 (by omega) (by omega)
    have fs : ∀ {Q : Int64 → (Nat → Nat → Int32) → (Nat → Nat → Int64) → Option Nat → Prop}, (∀ I2, fr_off [(0, 1, 0, 1), (142, 143, 13, 15)] I I2 → I2 0 0 = 0 → Q (ls_ I day a nb) I2 J T) → wp_X11_loses a day I J T Q := by
      intro Q hQ
      have fin := fin hQ
      simp only [wp_X11_loses, wp_X11_isDay, wp_X11_isLand, wp_X11_refuse, wp_X1_lossesOf, wp_X11_outside, wp_X5_count, lgc_lt, lgc_le, lgc_eq, cmp_s, cmp_t, u2_e]
      try simp only [Int32.lt_iff_toInt_lt, Int32.le_iff_toInt_le]
      simp [n1, n3, n4]
      repeat' (first | with_reducible exact fin | refine And.intro ?_ ?_ | intro _)
      all_goals try first | rfl | (exfalso; omega) | exact inb_of (by omega) (by omega) | with_reducible exact nI_in2 (by omega) (by omega)
    exact fs (fun I2 o2 s2 => fm I2 o2 s2)
  · skip
    simp only [wp_X11_loses, wp_X12_loses, wp_X11_isDay, wp_X11_isLand, wp_X11_refuse, wp_X1_lossesOf, wp_X12_isDay, wp_X12_isLand, wp_X12_refuse, wp_X11_outside, wp_X5_count, lgc_lt, lgc_le, lgc_eq, cmp_s, cmp_t, u2_e]
    try simp only [Int32.lt_iff_toInt_lt, Int32.le_iff_toInt_le]
    simp [n1, n2, n3, n4]
    repeat' (first | (exfalso; omega) | refine And.intro ?_ ?_ | intro _)
    all_goals try first | rfl | (exfalso; omega) | exact inb_of (by omega) (by omega) | exact hP _ _ _ _ (RR_st h 1) | with_reducible exact nI_in2 (by omega) (by omega)

