theorem rk_bagx {I I2 : Nat → Nat → Int32} {J : Nat → Nat → Int64} (h : RR I J) (o : fr_off [(0, 1, 0, 1), (204, 205, 0, 1), (142, 143, 13, 15), (204, 205, 95, 97)] I I2) (p0 : RL_stat I2) : RR I2 J := ⟨p0, fr_frac (fr_refl (D := [])) rfl h.frac, fr_tray o (fr_refl (D := [])) rfl h.tray, fr_land o rfl h.land, fr_gold o rfl h.gold, fr_road o rfl h.road, fr_carr o rfl h.carr, fr_rate o rfl h.rate, fr_tape o rfl h.tape, fr_falt o rfl h.falt, fr_resv o rfl h.resv, fr_flow o rfl h.flow, fr_draw o rfl h.draw, fr_tell o rfl h.tell, fr_acct o (fr_refl (D := [])) rfl h.acct, fr_rule o rfl h.rule, fr_bags o rfl h.bags, fr_hand o rfl h.hand, fr_book o rfl h.book, fr_figs (fr_refl (D := [])) rfl h.figs, fr_case o rfl h.case, fr_wght o rfl h.wght, fr_trty o (fr_refl (D := [])) rfl h.trty⟩
theorem fs_where {i nb q g m y : Nat} {kn : Int32} (hnb : nb ≤ 30) (hi : i < nb) (k0 : 0 ≤ kn.toInt) (k1 : kn.toInt ≤ 9999) (hg : g ≤ 150) (hq : q < m) (m5 : m ≤ 5) {I : Nat → Nat → Int32} {J : Nat → Nat → Int64} {T : Option Nat} {P : Int32 → (Nat → Nat → Int32) → (Nat → Nat → Int64) → Option Nat → Prop} (n1 : I 142 3 = nI nb) (e : I 142 8 = nI g) (sc : sc_find (I 177) (I 178) (I 179) (I 180) (nI i) kn (I 144 i) g = (nI q, nI y)) (hP : ∀ I2, fr_off [(0, 1, 0, 1), (142, 143, 13, 15)] I I2 → I2 0 0 = 0 → P (I (147 + i) q) I2 J T) : wp_X11_where (nI i) kn I J T P := by
  have i4 : (nI i).toInt = (i : Int) := nI_toInt (by omega)
  have i5 : (nI i).toNatClampNeg = i := nI_clamp (by omega)
  have n4 : (nI nb).toInt = (nb : Int) := nI_toInt (by omega)
  have q5 : (nI q).toNatClampNeg = q := nI_clamp (by omega)
  have sc' : sc_find (ix_u2 I 0 0 0 177) (ix_u2 I 0 0 0 178) (ix_u2 I 0 0 0 179) (ix_u2 I 0 0 0 180) (nI i) kn (ix_u2 I 0 0 0 144 i) g = (nI q, nI y) := by
    simp only [u2_r (show (177 : Nat) ≠ 0 by decide), u2_r (show (178 : Nat) ≠ 0 by decide), u2_r (show (179 : Nat) ≠ 0 by decide), u2_r (show (180 : Nat) ≠ 0 by decide), u2_r (show (144 : Nat) ≠ 0 by decide), sc]
  have LL : ∀ {Q : (Nat → Nat → Int32) → (Nat → Nat → Int64) → Option Nat → Prop}, (∀ I2, fr_off [(142, 143, 13, 15)] (ix_u2 I 0 0 0) I2 → I2 142 13 = nI q → Q I2 J T) → wp_X1_find (nI i) kn (ix_u2 I 0 0 0) J T Q := fun hQ => fn_findC (g := g) (by omega) hg (by simpa [u2_e] using e) (fun I2 o s1 s2 => hQ I2 o (by rw [s1, sc']))
  simp only [wp_X11_where, wp_X11_isDay, wp_X11_refuse, wp_X1_has, wp_X1_landOf, wp_X11_outside, lgc_lt, lgc_le, lgc_eq, cmp_s, cmp_t, u2_e]
  try simp only [Int32.lt_iff_toInt_lt, Int32.le_iff_toInt_le]
  simp [i4, n1, n4]
  repeat' (first | with_reducible refine LL (fun I2 o s1 => ?_) | refine And.intro ?_ ?_ | intro _)
  all_goals try first | rfl | (exfalso; omega) | exact inb_of (by omega) (by omega) | with_reducible exact nI_in2 (by omega) (by omega)
  · rw [s1]
    exact nI_in2 (by omega) (by omega)
  · rw [s1, re_146 (show i < 30 by omega), q5]
    have hr0 : I2 (147 + i) = ix_u2 I 0 0 0 (147 + i) := fr_row o (a := 147) (b := 177) rfl (by omega) (by omega)
    have hr1 : ix_u2 I 0 0 0 (147 + i) = I (147 + i) := u2_r (by omega)
    rw [hr0, hr1]
    have o1 : fr_off [(0, 1, 0, 1), (142, 143, 13, 15)] I (ix_u2 I 0 0 0) := fr_put rfl fr_refl
    refine hP I2 (fr_trans o1 (fr_mono (by decide) o)) ?_
    rw [fr_at 0 0 o rfl]
    simp [u2_e]
theorem fm_where {i nb q g m y : Nat} {kn : Int32} (hnb : nb ≤ 30) (hi : i < nb) (k0 : 0 ≤ kn.toInt) (k1 : kn.toInt ≤ 9999) (hg : g ≤ 150) (hq : q < m) (m5 : m ≤ 5) {I : Nat → Nat → Int32} {J : Nat → Nat → Int64} {T : Option Nat} {P : Int32 → (Nat → Nat → Int32) → (Nat → Nat → Int64) → Option Nat → Prop} (n1 : I 204 81 = nI nb) (e : I 204 82 = nI g) (sc : sc_find (I 263) (I 264) (I 265) (I 266) (nI i) kn (I 261 i) g = (nI q, nI y)) (hP : ∀ I2, fr_off [(204, 205, 0, 1), (204, 205, 95, 97)] I I2 → I2 204 0 = 0 → P (I 262 (5 * i + q)) I2 J T) : wp_X12_where (nI i) kn I J T P := by
  have i4 : (nI i).toInt = (i : Int) := nI_toInt (by omega)
  have i5 : (nI i).toNatClampNeg = i := nI_clamp (by omega)
  have n4 : (nI nb).toInt = (nb : Int) := nI_toInt (by omega)
  have q5 : (nI q).toNatClampNeg = q := nI_clamp (by omega)
  have x5 : (nI (5 * i + q)).toNatClampNeg = 5 * i + q := nI_clamp (by omega)
  simp only [wp_X12_where, wp_X12_gives, wp_X12_isBag, wp_X12_isDay, wp_X12_refuse, lgc_lt, lgc_le, lgc_eq, cmp_s, cmp_t, u2_e]
  try simp only [Int32.lt_iff_toInt_lt, Int32.le_iff_toInt_le]
  simp [i4, n1, n4]
  repeat' (first | with_reducible refine fn_findM (g := g) (by omega) hg e (fun I2 o s1 s2 => ?_) | refine And.intro ?_ ?_ | intro _)
  all_goals try first | rfl | (exfalso; omega) | exact inb_of (by omega) (by omega) | with_reducible exact nI_in2 (by omega) (by omega)
  · rw [s1, sc, pr_5]
    exact nI_in2 (by omega) (by omega)
  · rw [s1, sc, pr_5, x5, fr_rw1 o 262 rfl]
    exact hP _ (fr_put rfl (fr_mono (by decide) o)) (by simp [u2_e])
theorem rp_where (a : Int32) (kn : Int32) {I : Nat → Nat → Int32} {J : Nat → Nat → Int64} {T : Option Nat} {P : Int32 → Int32 → (Nat → Nat → Int32) → (Nat → Nat → Int64) → Option Nat → Prop} (h : RR I J) (hP : ∀ v I2 J2 T2, RR I2 J2 → P v v I2 J2 T2) : wp_X11_where a kn I J T (fun v I1 J1 T1 => wp_X12_where a kn I1 J1 T1 (fun w I2 J2 T2 => P v w I2 J2 T2)) := by
  obtain ⟨nb, hnb, n1, n2, -⟩ := h.bags
  have n4 : (nI nb).toInt = (nb : Int) := nI_toInt (by omega)
  by_cases gg : 0 ≤ a.toInt ∧ a.toInt < nb ∧ 0 ≤ kn.toInt ∧ kn.toInt ≤ 9999
  · obtain ⟨i, hi, rfl⟩ := ii_at (x := a) (n := nb) (by omega) (by omega) (by omega)
    obtain ⟨g, m, q, y, e1, e2, d, hg, g1, g2, m2, m5, l1, l2, -, -, sc1, sc2, hq, ⟨r1, r2, r3⟩, -⟩ := bg_ok (kn := kn) h hnb n1 hi
    refine fs_where hnb hi (by omega) (by omega) hg hq m5 n1 g1 sc1 (fun I2 o2 s2 => ?_)
    refine fm_where (g := g) (y := y) hnb hi (by omega) (by omega) hg hq m5 (by rw [fr_at 204 81 o2 rfl]; exact n2) (by rw [fr_at 204 82 o2 rfl]; exact g2) (by rw [fr_rw1 o2 263 rfl, fr_rw1 o2 264 rfl, fr_rw1 o2 265 rfl, fr_rw1 o2 266 rfl, fr_rw1 o2 261 rfl]; exact sc2) (fun I3 o3 s3 => ?_)
    rw [fr_rw1 o2 262 rfl, r1, r2]
    exact hP _ _ _ _ (rk_bagx h (fr_trans (fr_mono (by decide) o2) (fr_mono (by decide) o3)) (by show I3 0 0 = I3 204 0; rw [fr_at 0 0 o3 rfl, s2, s3]))
  · skip
    simp only [wp_X11_where, wp_X12_where, wp_X11_isDay, wp_X11_refuse, wp_X1_has, wp_X1_landOf, wp_X12_gives, wp_X12_isBag, wp_X12_isDay, wp_X12_refuse, wp_X11_outside, lgc_lt, lgc_le, lgc_eq, cmp_s, cmp_t, u2_e]
    try simp only [Int32.lt_iff_toInt_lt, Int32.le_iff_toInt_le]
    simp [n1, n2, n4]
    repeat' (first | (exfalso; omega) | refine And.intro ?_ ?_ | intro _)
    all_goals try first | rfl | (exfalso; omega) | exact inb_of (by omega) (by omega) | exact hP _ _ _ _ (RR_st h 1) | with_reducible exact nI_in2 (by omega) (by omega)

theorem fs_late {i nb q g m y e1 e2 d : Nat} {day kn : Int32} (hnb : nb ≤ 30) (hi : i < nb) (d0 : 0 ≤ day.toInt) (d1 : day.toInt ≤ 9999) (k0 : 0 ≤ kn.toInt) (k1 : kn.toInt ≤ 9999) (hg : g ≤ 150) (hq : q < m) (m2 : 2 ≤ m) (m5 : m ≤ 5) {I : Nat → Nat → Int32} {J : Nat → Nat → Int64} {T : Option Nat} {P : Int32 → (Nat → Nat → Int32) → (Nat → Nat → Int64) → Option Nat → Prop} (n1 : I 142 3 = nI nb) (e : I 142 8 = nI g) (l : I 145 i = nI m) (hb : (I 144 i).toInt ≤ day.toInt) (sc : sc_find (I 177) (I 178) (I 179) (I 180) (nI i) kn (I 144 i) g = (nI q, nI y)) (p1 : q + 1 < m → I (147 + i) q = nI e1 ∧ I (147 + i) (q + 1) = nI e2 ∧ e1 < 7 ∧ e2 < 7 ∧ I (13 + e1) e2 = nI d ∧ d ≤ 60) (hP : ∀ I2, fr_off [(0, 1, 0, 1), (142, 143, 13, 15)] I I2 → I2 0 0 = 0 → P (la_ q m day (nI y) (nI d) (I 142 0) (I 142 1)) I2 J T) : wp_X11_late (nI i) day kn I J T P := by
  have i4 : (nI i).toInt = (i : Int) := nI_toInt (by omega)
  have i5 : (nI i).toNatClampNeg = i := nI_clamp (by omega)
  have n4 : (nI nb).toInt = (nb : Int) := nI_toInt (by omega)
  have q5 : (nI q).toNatClampNeg = q := nI_clamp (by omega)
  simp only [wp_X11_late, wp_X11_isDay, wp_X11_refuse, wp_X1_has, wp_X1_hasBegun, wp_X11_outside, lgc_lt, lgc_le, lgc_eq, cmp_s, cmp_t, u2_e]
  try simp only [Int32.lt_iff_toInt_lt, Int32.le_iff_toInt_le]
  simp [i4, i5, n1, n4]
  repeat' (first | with_reducible refine fn_lateC (g := g) (m := m) (q := q) (y := y) (e1 := e1) (e2 := e2) (d := d) (by omega) hg (by simpa [u2_e] using e) m2 m5 (by simpa [u2_e] using l) (by simpa [u2_r] using sc) hq (by simpa [u2_e, show ¬ 147 + i = 0 by omega] using p1) (fun I2 o s1 => ?_) | refine And.intro ?_ ?_ | intro _)
  all_goals try first | rfl | (exfalso; omega) | exact inb_of (by omega) (by omega) | with_reducible exact nI_in2 (by omega) (by omega)
  have o1 : fr_off [(0, 1, 0, 1), (142, 143, 13, 15)] I (ix_u2 I 0 0 0) := fr_put rfl fr_refl
  have := hP I2 (fr_trans o1 (fr_mono (by decide) o)) (by rw [fr_at 0 0 o rfl]; simp [u2_e])
  simpa [u2_e] using this
theorem fm_late {i nb q g m y e1 e2 d : Nat} {day kn : Int32} (hnb : nb ≤ 30) (hi : i < nb) (d0 : 0 ≤ day.toInt) (d1 : day.toInt ≤ 9999) (k0 : 0 ≤ kn.toInt) (k1 : kn.toInt ≤ 9999) (hg : g ≤ 150) (hq : q < m) (m2 : 2 ≤ m) (m5 : m ≤ 5) {I : Nat → Nat → Int32} {J : Nat → Nat → Int64} {T : Option Nat} {P : Int32 → (Nat → Nat → Int32) → (Nat → Nat → Int64) → Option Nat → Prop} (n1 : I 204 81 = nI nb) (e : I 204 82 = nI g) (l : I 260 i = nI m) (hb : (I 261 i).toInt ≤ day.toInt) (sc : sc_find (I 263) (I 264) (I 265) (I 266) (nI i) kn (I 261 i) g = (nI q, nI y)) (p1 : q + 1 < m → I 262 (5 * i + q) = nI e1 ∧ I 262 (5 * i + (q + 1)) = nI e2 ∧ e1 < 7 ∧ e2 < 7 ∧ I 211 (7 * e1 + e2) = nI d ∧ d ≤ 60) (hl : 1 ≤ (I 204 85).toInt) (hP : ∀ I2, fr_off [(204, 205, 0, 1), (204, 205, 95, 97)] I I2 → I2 204 0 = 0 → P (la_ q m day (nI y) (nI d) (I 204 84) (I 204 85)) I2 J T) : wp_X12_late (nI i) day kn I J T P := by
  have i4 : (nI i).toInt = (i : Int) := nI_toInt (by omega)
  have i5 : (nI i).toNatClampNeg = i := nI_clamp (by omega)
  have n4 : (nI nb).toInt = (nb : Int) := nI_toInt (by omega)
  have q5 : (nI q).toNatClampNeg = q := nI_clamp (by omega)
  simp only [wp_X12_late, wp_X12_gives, wp_X12_isBag, wp_X12_isDay, wp_X12_refuse, lgc_lt, lgc_le, lgc_eq, cmp_s, cmp_t, u2_e]
  try simp only [Int32.lt_iff_toInt_lt, Int32.le_iff_toInt_le]
  simp [i4, i5, n1, n4]
  repeat' (first | with_reducible refine fn_lateM (g := g) (m := m) (q := q) (y := y) (e1 := e1) (e2 := e2) (d := d) (by omega) hg e m2 m5 l sc hq p1 hl (fun I2 o s1 => ?_) | refine And.intro ?_ ?_ | intro _)
  all_goals try first | rfl | (exfalso; omega) | exact inb_of (by omega) (by omega) | with_reducible exact nI_in2 (by omega) (by omega)
  exact hP _ (fr_put rfl (fr_mono (by decide) o)) (by simp [u2_e])
theorem rp_late (a : Int32) (day : Int32) (kn : Int32) {I : Nat → Nat → Int32} {J : Nat → Nat → Int64} {T : Option Nat} {P : Int32 → Int32 → (Nat → Nat → Int32) → (Nat → Nat → Int64) → Option Nat → Prop} (h : RR I J) (hP : ∀ v I2 J2 T2, RR I2 J2 → P v v I2 J2 T2) : wp_X11_late a day kn I J T (fun v I1 J1 T1 => wp_X12_late a day kn I1 J1 T1 (fun w I2 J2 T2 => P v w I2 J2 T2)) := by
  obtain ⟨nb, hnb, n1, n2, hb⟩ := h.bags
  have n4 : (nI nb).toInt = (nb : Int) := nI_toInt (by omega)
  by_cases g0 : 0 ≤ a.toInt ∧ a.toInt < nb
  · obtain ⟨i, hi, rfl⟩ := ii_at (x := a) (n := nb) (by omega) (by omega) (by omega)
    have i4 : (nI i).toInt = (i : Int) := nI_toInt (by omega)
    have i5 : (nI i).toNatClampNeg = i := nI_clamp (by omega)
    obtain ⟨g, m, q, y, e1, e2, d, hg, g1, g2, m2, m5, l1, l2, b1, -, sc1, sc2, hq, ⟨r1, r2, r3⟩, p1⟩ := bg_ok (kn := kn) h hnb n1 hi
    by_cases gg : 0 ≤ day.toInt ∧ day.toInt ≤ 9999 ∧ 0 ≤ kn.toInt ∧ kn.toInt ≤ 9999 ∧ (I 144 i).toInt ≤ day.toInt
    · have ru := h.rule
      refine fs_late (e1 := e1) (e2 := e2) (d := d) hnb hi (by omega) (by omega) (by omega) (by omega) hg hq m2 m5 n1 g1 l1 (by omega) sc1 (fun z => ⟨r1, (p1 z).1, r3, (p1 z).2.2.1, (p1 z).2.2.2.1, (p1 z).2.2.2.2.2⟩) (fun I2 o2 s2 => ?_)
      refine fm_late (g := g) (m := m) (q := q) (y := y) (e1 := e1) (e2 := e2) (d := d) hnb hi (by omega) (by omega) (by omega) (by omega) hg hq m2 m5 (by rw [fr_at 204 81 o2 rfl]; exact n2) (by rw [fr_at 204 82 o2 rfl]; exact g2) (by rw [fr_rw1 o2 260 rfl]; exact l2) (by rw [fr_rw1 o2 261 rfl, ← b1]; omega) (by rw [fr_rw1 o2 263 rfl, fr_rw1 o2 264 rfl, fr_rw1 o2 265 rfl, fr_rw1 o2 266 rfl, fr_rw1 o2 261 rfl]; exact sc2) (fun z => by rw [fr_rw1 o2 262 rfl, fr_rw1 o2 211 rfl]; exact ⟨r2, (p1 z).2.1, r3, (p1 z).2.2.1, (p1 z).2.2.2.2.1, (p1 z).2.2.2.2.2⟩) (by rw [fr_at 204 85 o2 rfl, ← ru.2.1]; exact ru.2.2.2.2.1.1) (fun I3 o3 s3 => ?_)
      rw [fr_at 204 84 o2 rfl, fr_at 204 85 o2 rfl, ← ru.1, ← ru.2.1]
      exact hP _ _ _ _ (rk_bagx h (fr_trans (fr_mono (by decide) o2) (fr_mono (by decide) o3)) (by show I3 0 0 = I3 204 0; rw [fr_at 0 0 o3 rfl, s2, s3]))
    · have b1 := b1.symm
      simp only [wp_X11_late, wp_X12_late, wp_X11_isDay, wp_X11_refuse, wp_X1_has, wp_X1_hasBegun, wp_X12_gives, wp_X12_isBag, wp_X12_isDay, wp_X12_refuse, wp_X11_outside, lgc_lt, lgc_le, lgc_eq, cmp_s, cmp_t, u2_e]
      try simp only [Int32.lt_iff_toInt_lt, Int32.le_iff_toInt_le]
      simp [n1, n2, n4, i4, i5, b1]
      repeat' (first | (exfalso; omega) | refine And.intro ?_ ?_ | intro _)
      all_goals try first | rfl | (exfalso; omega) | exact inb_of (by omega) (by omega) | exact hP _ _ _ _ (RR_st h 1) | with_reducible exact nI_in2 (by omega) (by omega)
  · skip
    simp only [wp_X11_late, wp_X12_late, wp_X11_isDay, wp_X11_refuse, wp_X1_has, wp_X1_hasBegun, wp_X12_gives, wp_X12_isBag, wp_X12_isDay, wp_X12_refuse, wp_X11_outside, lgc_lt, lgc_le, lgc_eq, cmp_s, cmp_t, u2_e]
    try simp only [Int32.lt_iff_toInt_lt, Int32.le_iff_toInt_le]
    simp [n1, n2, n4]
    repeat' (first | (exfalso; omega) | refine And.intro ?_ ?_ | intro _)
    all_goals try first | rfl | (exfalso; omega) | exact inb_of (by omega) (by omega) | exact hP _ _ _ _ (RR_st h 1) | with_reducible exact nI_in2 (by omega) (by omega)

