/-! bags: late, lost -/
def lt_ (x li : Int32) : Int32 := if x ≤ 0 then 0 else if x ≤ li then 1 else 2
theorem lt_3 {x li : Int32} {Q : Int32 → Prop} (h : Q (lt_ x li)) : (x ≤ 0 → Q 0) ∧ (¬ x ≤ 0 → (x ≤ li → Q 1) ∧ (¬ x ≤ li → Q 2)) := by
  unfold lt_ at h
  refine ⟨fun c => ?_, fun c => ⟨fun c2 => ?_, fun c2 => ?_⟩⟩
  · rw [if_pos c] at h; exact h
  · rw [if_neg c, if_pos c2] at h; exact h
  · rw [if_neg c, if_neg c2] at h; exact h
theorem lt_3m {x li : Int32} {Q : Int32 → Prop} (hl : 1 ≤ li.toInt) (h : Q (lt_ x li)) : (x ≤ li → (x ≤ 0 → Q 0) ∧ (¬ x ≤ 0 → Q 1)) ∧ (¬ x ≤ li → Q 2) := by
  unfold lt_ at h
  refine ⟨fun c => ⟨fun c2 => ?_, fun c2 => ?_⟩, fun c => ?_⟩
  · rw [if_pos c2] at h; exact h
  · rw [if_neg c2, if_pos c] at h; exact h
  · have c2 : ¬ x ≤ 0 := fun z => c (by
      rw [Int32.le_iff_toInt_le] at z ⊢
      have z : x.toInt ≤ 0 := z
      omega)
    rw [if_neg c2, if_neg c] at h; exact h
def la_ (q m : Nat) (day y d gr li : Int32) : Int32 := if m ≤ q + 1 then 0 else lt_ (day - y - (if d = 0 then 60 else d) - gr) li
theorem fn_lateC {i m q y g e1 e2 d : Nat} {day kn : Int32} (hi : i < 30) (hg : g ≤ 150) {I : Nat → Nat → Int32} {J : Nat → Nat → Int64} {T : Option Nat} {P : Int32 → (Nat → Nat → Int32) → (Nat → Nat → Int64) → Option Nat → Prop} (e : I 142 8 = nI g) (m2 : 2 ≤ m) (m5 : m ≤ 5) (l : I 145 i = nI m) (sc : sc_find (I 177) (I 178) (I 179) (I 180) (nI i) kn (I 144 i) g = (nI q, nI y)) (hq : q < m) (p1 : q + 1 < m → I (147 + i) q = nI e1 ∧ I (147 + i) (q + 1) = nI e2 ∧ e1 < 7 ∧ e2 < 7 ∧ I (13 + e1) e2 = nI d ∧ d ≤ 60) (hP : ∀ I2, fr_off [(142, 143, 13, 15)] I I2 → I2 142 13 = nI q → P (la_ q m day (nI y) (nI d) (I 142 0) (I 142 1)) I2 J T) : wp_X1_lateness (nI i) day kn I J T P := by
  have i5 : (nI i).toNatClampNeg = i := nI_clamp (by omega)
  have q5 : (nI q).toNatClampNeg = q := nI_clamp (by omega)
  have q6 : (nI (q + 1)).toNatClampNeg = q + 1 := nI_clamp (by omega)
  unfold wp_X1_lateness
  refine fn_findC hi hg e (fun I2 h0 s1 s2 => ?_)
  have s1 : I2 142 13 = nI q := by rw [s1, sc]
  have s2 : I2 142 14 = nI y := by rw [s2, sc]
  have hP := hP I2 h0 s1
  have hr : I2 (147 + i) = I (147 + i) := fr_row h0 (a := 147) (b := 177) rfl (by omega) (by omega)
  simp only [wp_X5_hasRoad, wp_X5_daysOf, s1, s2, i5, fr_rw1 h0 145 rfl, l, nI_dec (show 0 < m by omega), re_146 hi, hr, q5, nI_1, q6, fr_at 142 0 h0 rfl, fr_at 142 1 h0 rfl]
  refine ⟨nI_in2 hi (by decide), fun c => ?_, fun c => ?_⟩
  · have c : q < m - 1 := (nI_ltI (by omega) (by omega)).mp c
    obtain ⟨a1, a2, a3, a4, a5, a6⟩ := p1 (by omega)
    have hr2 : I2 (13 + e1) = I (13 + e1) := fr_row h0 (a := 13) (b := 20) rfl (by omega) (by omega)
    have z5 : (nI e2).toNatClampNeg = e2 := nI_clamp (by omega)
    unfold la_ at hP
    rw [if_neg (by omega)] at hP
    simp only [a1, a2, re_12 a3, z5, hr2, a5]
    refine ⟨nI_in2 hi (by decide), nI_in2 (by omega) (by decide), nI_in2 hi (by decide), nI_in2 (by omega) (by decide), nI_in2 a3 (by decide), nI_in2 a4 (by decide), ?_⟩
    by_cases d0 : d = 0
    · subst d0
      rw [if_pos (show nI 0 = 0 from rfl)] at hP
      exact ⟨fun _ => ⟨fun _ => lt_3 (Q := fun v => P v I2 J T) hP, fun z => absurd trivial z⟩, fun z => absurd (show nI 0 ≤ 0 by decide) z⟩
    · rw [if_neg (nI_ne0 (by omega) (by omega))] at hP
      exact ⟨fun z => absurd z (nI_nle (by omega) (by omega)), fun _ => ⟨fun z => absurd z (by decide), fun _ => ⟨nI_in2 a3 (by decide), nI_in2 a4 (by decide), lt_3 (Q := fun v => P v I2 J T) hP⟩⟩⟩
  · have c : ¬ q < m - 1 := fun z => c (nI_lt z (by omega))
    unfold la_ at hP
    rw [if_pos (by omega)] at hP
    exact hP
theorem fn_lateM {i m q y g e1 e2 d : Nat} {day kn : Int32} (hi : i < 30) (hg : g ≤ 150) {I : Nat → Nat → Int32} {J : Nat → Nat → Int64} {T : Option Nat} {P : Int32 → (Nat → Nat → Int32) → (Nat → Nat → Int64) → Option Nat → Prop} (e : I 204 82 = nI g) (m2 : 2 ≤ m) (m5 : m ≤ 5) (l : I 260 i = nI m) (sc : sc_find (I 263) (I 264) (I 265) (I 266) (nI i) kn (I 261 i) g = (nI q, nI y)) (hq : q < m) (p1 : q + 1 < m → I 262 (5 * i + q) = nI e1 ∧ I 262 (5 * i + (q + 1)) = nI e2 ∧ e1 < 7 ∧ e2 < 7 ∧ I 211 (7 * e1 + e2) = nI d ∧ d ≤ 60) (hl : 1 ≤ (I 204 85).toInt) (hP : ∀ I2, fr_off [(204, 205, 95, 97)] I I2 → I2 204 95 = nI q → P (la_ q m day (nI y) (nI d) (I 204 84) (I 204 85)) I2 J T) : wp_X12_lateOf (nI i) day kn I J T P := by
  have i5 : (nI i).toNatClampNeg = i := nI_clamp (by omega)
  have x5 : (nI (5 * i + q)).toNatClampNeg = 5 * i + q := nI_clamp (by omega)
  have x6 : (nI (5 * i + q + 1)).toNatClampNeg = 5 * i + (q + 1) := nI_clamp (by omega)
  unfold wp_X12_lateOf
  refine fn_findM hi hg e (fun I2 h0 s1 s2 => ?_)
  have s1 : I2 204 95 = nI q := by rw [s1, sc]
  have s2 : I2 204 96 = nI y := by rw [s2, sc]
  have hP := hP I2 h0 s1
  simp only [wp_X12_pair, s1, s2, i5, fr_rw1 h0 260 rfl, fr_rw1 h0 262 rfl, fr_rw1 h0 211 rfl, l, nI_dec (show 0 < m by omega), pr_5, x5, nI_1, x6, fr_at 204 84 h0 rfl, fr_at 204 85 h0 rfl]
  refine ⟨nI_in2 hi (by decide), fun c => ?_, fun c => ?_⟩
  · have c : q = m - 1 := (nI_eq (by omega) (by omega)).mp c
    unfold la_ at hP
    rw [if_pos (by omega)] at hP
    exact hP
  · have c : ¬ q = m - 1 := fun z => c (by rw [z])
    obtain ⟨a1, a2, a3, a4, a5, a6⟩ := p1 (by omega)
    have z5 : (nI (7 * e1 + e2)).toNatClampNeg = 7 * e1 + e2 := nI_clamp (by omega)
    unfold la_ at hP
    rw [if_neg (by omega)] at hP
    simp only [a1, a2, pr_7, z5, a5]
    refine ⟨nI_in2 (by omega) (by decide), nI_in2 (by omega) (by decide), nI_in2 (by omega) (by decide), ?_⟩
    by_cases d0 : d = 0
    · subst d0
      rw [if_pos (show nI 0 = 0 from rfl)] at hP
      exact ⟨fun _ => lt_3m hl (Q := fun v => P v I2 J T) hP, fun z => absurd rfl z⟩
    · rw [if_neg (nI_ne0 (by omega) (by omega))] at hP
      exact ⟨fun z => absurd z (nI_ne0 (by omega) (by omega)), fun _ => lt_3m hl (Q := fun v => P v I2 J T) hP⟩
/-- what both sides know of a bag -/
theorem bg_ok {I : Nat → Nat → Int32} {J : Nat → Nat → Int64} (h : RR I J) {nb i : Nat} {kn : Int32} (hnb : nb ≤ 30) (n1 : I 142 3 = nI nb) (hi : i < nb) : ∃ g m q y e1 e2 d : Nat, g ≤ 150 ∧ I 142 8 = nI g ∧ I 204 82 = nI g ∧ 2 ≤ m ∧ m ≤ 5 ∧ I 145 i = nI m ∧ I 260 i = nI m ∧ I 144 i = I 261 i ∧ I 143 i = I 259 i ∧ sc_find (I 177) (I 178) (I 179) (I 180) (nI i) kn (I 144 i) g = (nI q, nI y) ∧ sc_find (I 263) (I 264) (I 265) (I 266) (nI i) kn (I 261 i) g = (nI q, nI y) ∧ q < m ∧ (I (147 + i) q = nI e1 ∧ I 262 (5 * i + q) = nI e1 ∧ e1 < 7) ∧ (q + 1 < m → I (147 + i) (q + 1) = nI e2 ∧ I 262 (5 * i + (q + 1)) = nI e2 ∧ e2 < 7 ∧ I (13 + e1) e2 = nI d ∧ I 211 (7 * e1 + e2) = nI d ∧ d ≤ 60) := by
  obtain ⟨nb', hnb', b1, b2, hb⟩ := h.bags
  obtain rfl : nb = nb' := (nI_eq (by omega) (by omega)).mp (n1.symm.trans b1)
  obtain ⟨g, hg, g1, g2, -, -, hh⟩ := h.hand
  obtain ⟨w1, w2, w3, ⟨m, y0, m2, m5, w4, w5, w6, w7⟩, -⟩ := hb i hi
  have row : ∀ k, k < m → ∃ e : Nat, I (147 + i) k = nI e ∧ I 262 (5 * i + k) = nI e ∧ e < 7 := fun k hk => by
    obtain ⟨z1, e, z2, z3, -⟩ := w7 k hk
    rw [bI_lt (show i < 30 by omega)] at z1 z2
    exact ⟨e, z2, by rw [← z1]; exact z2, z3⟩
  obtain ⟨q, y, sc, hq, hy⟩ := sc_find_ok (B := I 177) (L := I 178) (D := I 179) (K := I 180) (b := nI i) (kn := kn) (d0 := I 144 i) (m := m) (by omega) ⟨y0, w6, w5⟩ (n := g) (fun k hk hB => by
    obtain ⟨-, -, -, -, e, q, m', y, x1, x2, x3, x4, x5, x9, x6, x7, x8⟩ := hh k hk
    have : i = e := (nI_eq (by omega) (by omega)).mp (hB.symm.trans x1)
    subst this
    rw [w4] at x5
    have : m = m' := (nI_eq (by omega) (by omega)).mp x5
    subst this
    exact ⟨q, y, x4, x6, x7, x8⟩)
  have sc2 : sc_find (I 263) (I 264) (I 265) (I 266) (nI i) kn (I 261 i) g = (nI q, nI y) := by
    rw [← sc, w2]
    exact (sc_find_congr (fun k hk => ⟨(hh k hk).1, (hh k hk).2.1, (hh k hk).2.2.1, (hh k hk).2.2.2.1⟩)).symm
  obtain ⟨e1, r1, r2, r3⟩ := row q hq
  by_cases c : q + 1 < m
  · obtain ⟨e2, s1, s2, s3⟩ := row (q + 1) c
    obtain ⟨d, f, d1, -, d2, -, d3, -⟩ := h.road e1 e2 r3 s3
    rw [bI_lt r3] at d2
    exact ⟨g, m, q, y, e1, e2, d, hg, g1, g2, m2, m5, w4, by rw [← w3]; exact w4, w2, w1, sc, sc2, hq, ⟨r1, r2, r3⟩, fun _ => ⟨s1, s2, s3, d2, d3, d1⟩⟩
  · exact ⟨g, m, q, y, e1, 0, 0, hg, g1, g2, m2, m5, w4, by rw [← w3]; exact w4, w2, w1, sc, sc2, hq, ⟨r1, r2, r3⟩, fun z => absurd z c⟩
