/-! treaty -/
set_option maxHeartbeats 4000000 in
theorem rp_treaty (a0 : Int32) (a1 : Int32) {I : Nat → Nat → Int32} {J : Nat → Nat → Int64} {T : Option Nat} {P : Int32 → Int32 → (Nat → Nat → Int32) → (Nat → Nat → Int64) → Option Nat → Prop} (h : RR I J) (hP : ∀ v I2 J2 T2, RR I2 J2 → P v v I2 J2 T2) : wp_X11_treaty a0 a1 I J T (fun v I1 J1 T1 => wp_X12_treaty a0 a1 I1 J1 T1 (fun w I2 J2 T2 => P v w I2 J2 T2)) := by
  obtain ⟨p, hp, p1, p2, pc⟩ := h.tape
  obtain ⟨t, S, O, ht, tc, tz, -⟩ := h.trty
  have l0 : ∀ x : Int32, lg_cmp x.toInt64 0 < 0 ↔ x.toInt < 0 := fun x => by rw [lgc_lt, cmp_s]; rfl
  have lp : lg_cmp a0.toInt64 (nI p).toInt64 ≤ 0 ↔ a0.toInt ≤ p := by rw [lgc_le, cmp_t, Int32.toInt_toInt64, nI_toInt (by omega)]
  have l27 : lg_cmp a1.toInt64 27 ≤ 0 ↔ a1.toInt ≤ 27 := by rw [lgc_le, cmp_t]; rfl
  have m0 : ∀ x : Int32, x < 0 ↔ x.toInt < 0 := fun x => by rw [Int32.lt_iff_toInt_lt]; rfl
  have mp : a0 ≤ nI p ↔ a0.toInt ≤ p := by rw [Int32.le_iff_toInt_le, nI_toInt (by omega)]
  have m27 : a1 ≤ 27 ↔ a1.toInt ≤ 27 := by rw [Int32.le_iff_toInt_le]; rfl
  have n15 : ∀ s, (ix_u2 I 0 0 s) 204 15 = nI p := fun s => by rw [u2_c (by decide)]; exact p2
  have n24 : ∀ s, (ix_u2 I 0 0 s) 204 24 = nI t := fun s => by rw [u2_c (by decide)]; exact tz
  have bad : ¬ (0 ≤ a0.toInt ∧ a0.toInt ≤ p ∧ 0 ≤ a1.toInt ∧ a1.toInt ≤ 27) → wp_X11_refuse 1 I J T (fun v I1 J1 T1 => wp_X12_treaty a0 a1 I1 J1 T1 (fun w I2 J2 T2 => P v w I2 J2 T2)) := fun hb => by
    unfold wp_X11_refuse wp_X12_treaty
    dsimp only
    rw [n15, m0, m0, mp, m27]
    have fin : wp_X12_refuse 1 (ix_u2 I 0 0 1) J T (fun v3 I3 J3 T3 => P (-1) v3 I3 J3 T3) := by
      unfold wp_X12_refuse
      exact hP _ _ _ _ (RR_st h 1)
    exact ⟨fun _ => fin, fun z1 => ⟨fun z2 => ⟨fun _ => fin, fun z3 => ⟨fun z4 => absurd ⟨by omega, z2, by omega, z4⟩ hb, fun _ => fin⟩⟩, fun _ => fin⟩⟩
  unfold wp_X11_treaty wp_X7_tapeLength wp_X11_outside
  dsimp only
  rw [p1, l0, lp]
  have main : 0 ≤ a0.toInt → a0.toInt ≤ p → 0 ≤ a1.toInt → a1.toInt ≤ 27 → ∃ n y : Nat, n ≤ p ∧ y ≤ 27 ∧ a0 = nI n ∧ a1 = nI y := fun q1 q2 q3 q4 => by
    obtain ⟨n, hn, en⟩ := ii_at (n := p + 1) (x := a0) q1 (by omega) (by omega)
    obtain ⟨y, hy, ey⟩ := ii_at (n := 28) (x := a1) q3 (by omega) (by decide)
    exact ⟨n, y, by omega, by omega, en, ey⟩
  refine ⟨fun c1 => ⟨fun z => absurd z (by decide), fun _ => bad (fun z => by omega)⟩, fun c1 => ⟨fun c2 => ⟨fun _ => ?_, fun z => absurd rfl z⟩, fun c2 => ⟨fun z => absurd z (by decide), fun _ => bad (fun z => by omega)⟩⟩⟩
  rw [l0, l27]
  refine ⟨fun c3 => ⟨fun z => absurd z (by decide), fun _ => bad (fun z => by omega)⟩, fun c3 => ⟨fun c4 => ⟨fun _ => ?_, fun z => absurd rfl z⟩, fun c4 => ⟨fun z => absurd z (by decide), fun _ => bad (fun z => by omega)⟩⟩⟩
  obtain ⟨n, y, hn, hy, en, ey⟩ := main (by omega) c2 (by omega) c4
  subst en ey
  unfold wp_X8_nextFree
  rw [tc]
  have e4 : t = 0 ∨ t = 1 ∨ t = 2 ∨ t = 3 ∨ t = 4 := by omega
  rcases e4 with e | e | e | e | e
  · subst e
    refine ⟨fun _ => ⟨by decide, fun _ => ⟨Or.inr (Or.inl rfl), fun z => absurd z (by decide), fun _ => ytr59 h hn hp p1 hy tc hP, fun z => absurd z (by decide), fun z => absurd z (by decide), fun z => absurd z (by decide)⟩, fun z => absurd z (by decide), fun z => absurd z (by decide), fun z => absurd z (by decide)⟩, fun z => absurd (by decide) z⟩
  · subst e
    refine ⟨fun _ => ⟨by decide, fun z => absurd z (by decide), fun _ => ⟨Or.inr (Or.inr (Or.inl rfl)), fun z => absurd z (by decide), fun z => absurd z (by decide), fun _ => ytr68 h hn hp p1 hy tc hP, fun z => absurd z (by decide), fun z => absurd z (by decide)⟩, fun z => absurd z (by decide), fun z => absurd z (by decide)⟩, fun z => absurd (by decide) z⟩
  · subst e
    refine ⟨fun _ => ⟨by decide, fun z => absurd z (by decide), fun z => absurd z (by decide), fun _ => ⟨Or.inr (Or.inr (Or.inr (Or.inl rfl))), fun z => absurd z (by decide), fun z => absurd z (by decide), fun z => absurd z (by decide), fun _ => ytr77 h hn hp p1 hy tc hP, fun z => absurd z (by decide)⟩, fun z => absurd z (by decide)⟩, fun z => absurd (by decide) z⟩
  · subst e
    refine ⟨fun _ => ⟨by decide, fun z => absurd z (by decide), fun z => absurd z (by decide), fun z => absurd z (by decide), fun _ => ⟨Or.inr (Or.inr (Or.inr (Or.inr rfl))), fun z => absurd z (by decide), fun z => absurd z (by decide), fun z => absurd z (by decide), fun z => absurd z (by decide), fun _ => ytr86 h hn hp p1 hy tc hP⟩⟩, fun z => absurd (by decide) z⟩
  · subst e
    refine ⟨fun z => absurd z (by decide), fun _ => ⟨Or.inl rfl, fun _ => ?_, fun z => absurd z (by decide), fun z => absurd z (by decide), fun z => absurd z (by decide), fun z => absurd z (by decide)⟩⟩
    unfold wp_X11_refuse wp_X12_treaty
    dsimp only
    rw [n15, n24, m0, m0, mp, m27]
    refine ⟨fun z => absurd z c1, fun _ => ⟨fun _ => ⟨fun z => absurd z c3, fun _ => ⟨fun _ => ⟨fun _ => ?_, fun z => absurd (by decide) z⟩, fun z => absurd c4 z⟩⟩, fun z => absurd c2 z⟩⟩
    unfold wp_X12_refuse
    exact hP _ _ _ _ (RR_st h 4)
