/-! feed -/
def by_ (a s : Int32) : Int32 := ((a >>> (s &&& 31)).toInt8.toInt32).toInt8.toInt32
theorem by_ok (a s : Int32) : (by_ a s).toInt8.toInt32 = by_ a s := by unfold by_; simp
def ct_ (a : Int32) (p : Nat) (f : Nat → Int32) : Nat → Int32 := fun k => if k = p + 3 then by_ a 0 else if k = p + 2 then by_ a 8 else if k = p + 1 then by_ a 16 else if k = p then by_ a 24 else f k
theorem ct_ok {a : Int32} {p : Nat} {f g : Nat → Int32} (h : ∀ k, k < p → f k = g k ∧ (f k).toInt8.toInt32 = f k) : ∀ k, k < p + 4 → ct_ a p f k = ct_ a p g k ∧ (ct_ a p f k).toInt8.toInt32 = ct_ a p f k := fun k hk => by
  unfold ct_
  by_cases e3 : k = p + 3
  · simp only [if_pos e3]; exact ⟨trivial, by_ok _ _⟩
  · simp only [if_neg e3]
    by_cases e2 : k = p + 2
    · simp only [if_pos e2]; exact ⟨trivial, by_ok _ _⟩
    · simp only [if_neg e2]
      by_cases e1 : k = p + 1
      · simp only [if_pos e1]; exact ⟨trivial, by_ok _ _⟩
      · simp only [if_neg e1]
        by_cases e0 : k = p
        · simp only [if_pos e0]; exact ⟨trivial, by_ok _ _⟩
        · simp only [if_neg e0]
          exact h k (by omega)
theorem st_tapeC {V : Int32 → Int32 → (Nat → Nat → Int32) → (Nat → Nat → Int64) → Option Nat → Prop} {a s : Int32} {p : Nat} {I : Nat → Nat → Int32} {J : Nat → Nat → Int64} {T : Option Nat} {P : (Nat → Nat → Int32) → (Nat → Nat → Int64) → Option Nat → Prop} (hV : ∀ x1 x2 I J T, wb_X7_addToTape_3 x1 x2 I J T V P → V x1 x2 I J T) (hs : ¬ s < 0) (hp : p < 600) (e : I 44 1 = nI p) (nx : V a (s + -8) (ix_u2 (ix_u2 I 45 p (by_ a s)) 44 1 (nI (p + 1))) J T) : V a s I J T := by
  apply hV
  unfold wb_X7_addToTape_3
  rw [e, nI_clamp (show p < 2 ^ 31 by omega), nI_1]
  refine ⟨fun z => absurd z hs, fun _ => ⟨fun _ => ⟨nI_in2 hp (by decide), nx⟩, fun z => absurd (nI_lt (a := p) (b := 600) (by omega) (by omega)) z⟩⟩
theorem fn_tapeC {a : Int32} {p : Nat} {I : Nat → Nat → Int32} {J : Nat → Nat → Int64} {T : Option Nat} {P : (Nat → Nat → Int32) → (Nat → Nat → Int64) → Option Nat → Prop} (hp : p + 4 ≤ 600) (e : I 44 1 = nI p) (hP : ∀ I2, fr_off [(44, 45, 1, 2), (45, 46, 0, 2147483648)] I I2 → I2 44 1 = nI (p + 4) → I2 45 = ct_ a p (I 45) → P I2 J T) : wp_X7_addToTape a I J T P := by
  unfold wp_X7_addToTape
  intro V hV
  refine st_tapeC hV (by decide) (by omega) e ?_
  refine st_tapeC hV (by decide) (show p + 1 < 600 by omega) (by simp [u2_e]) ?_
  refine st_tapeC hV (by decide) (show p + 1 + 1 < 600 by omega) (by simp [u2_e]) ?_
  refine st_tapeC hV (by decide) (show p + 1 + 1 + 1 < 600 by omega) (by simp [u2_e]) ?_
  apply hV
  unfold wb_X7_addToTape_3
  refine ⟨fun _ => hP _ ?_ (by simp [u2_e]) ?_, fun z => absurd (by decide) z⟩
  · exact fr_put rfl (fr_putn rfl (by omega) (fr_put rfl (fr_putn rfl (by omega) (fr_put rfl (fr_putn rfl (by omega) (fr_put rfl (fr_putn rfl (by omega) fr_refl)))))))
  · funext k
    unfold ct_
    have n0 : (24 : Int32) + -8 = 16 := rfl
    have n1 : (24 : Int32) + -8 + -8 = 8 := rfl
    have n2 : (24 : Int32) + -8 + -8 + -8 = 0 := rfl
    simp only [n0, n1, n2]
    simp [u2_e]
theorem st_tapeM {V : Int32 → Int32 → (Nat → Nat → Int32) → (Nat → Nat → Int64) → Option Nat → Prop} {a s : Int32} {p : Nat} {I : Nat → Nat → Int32} {J : Nat → Nat → Int64} {T : Option Nat} {P : (Nat → Nat → Int32) → (Nat → Nat → Int64) → Option Nat → Prop} (hV : ∀ x1 x2 I J T, wb_X12_four_3 x1 x2 I J T V P → V x1 x2 I J T) (hs : ¬ s < 0) (hp : p < 600) (e : I 204 15 = nI p) (nx : V a (s + -8) (ix_u2 (ix_u2 I 213 p (by_ a s)) 204 15 (nI (p + 1))) J T) : V a s I J T := by
  apply hV
  unfold wb_X12_four_3
  rw [e, nI_clamp (show p < 2 ^ 31 by omega), nI_1]
  exact ⟨fun z => absurd z hs, fun _ => ⟨nI_in2 hp (by decide), nx⟩⟩
theorem fn_tapeM {a : Int32} {p : Nat} {I : Nat → Nat → Int32} {J : Nat → Nat → Int64} {T : Option Nat} {P : (Nat → Nat → Int32) → (Nat → Nat → Int64) → Option Nat → Prop} (hp : p + 4 ≤ 600) (e : I 204 15 = nI p) (hP : ∀ I2, fr_off [(204, 205, 15, 16), (213, 214, 0, 2147483648)] I I2 → I2 204 15 = nI (p + 4) → I2 213 = ct_ a p (I 213) → P I2 J T) : wp_X12_four a I J T P := by
  unfold wp_X12_four
  intro V hV
  refine st_tapeM hV (by decide) (by omega) e ?_
  refine st_tapeM hV (by decide) (show p + 1 < 600 by omega) (by simp [u2_e]) ?_
  refine st_tapeM hV (by decide) (show p + 1 + 1 < 600 by omega) (by simp [u2_e]) ?_
  refine st_tapeM hV (by decide) (show p + 1 + 1 + 1 < 600 by omega) (by simp [u2_e]) ?_
  apply hV
  unfold wb_X12_four_3
  refine ⟨fun _ => hP _ ?_ (by simp [u2_e]) ?_, fun z => absurd (by decide) z⟩
  · exact fr_put rfl (fr_putn rfl (by omega) (fr_put rfl (fr_putn rfl (by omega) (fr_put rfl (fr_putn rfl (by omega) (fr_put rfl (fr_putn rfl (by omega) fr_refl)))))))
  · funext k
    unfold ct_
    have n0 : (24 : Int32) + -8 = 16 := rfl
    have n1 : (24 : Int32) + -8 + -8 = 8 := rfl
    have n2 : (24 : Int32) + -8 + -8 + -8 = 0 := rfl
    simp only [n0, n1, n2]
    simp [u2_e]
theorem rk_feed {I I2 : Nat → Nat → Int32} {J : Nat → Nat → Int64} (h : RR I J) (o : fr_off [(44, 45, 1, 2), (45, 46, 0, 2147483648), (204, 205, 15, 16), (213, 214, 0, 2147483648)] I I2) (p0 : RL_tape I2) : RR I2 J := ⟨fr_stat o rfl h.stat, fr_frac (fr_refl (D := [])) rfl h.frac, fr_tray o (fr_refl (D := [])) rfl h.tray, fr_land o rfl h.land, fr_gold o rfl h.gold, fr_road o rfl h.road, fr_carr o rfl h.carr, fr_rate o rfl h.rate, p0, fr_falt o rfl h.falt, fr_resv o rfl h.resv, fr_flow o rfl h.flow, fr_draw o rfl h.draw, fr_tell o rfl h.tell, fr_acct o (fr_refl (D := [])) rfl h.acct, fr_rule o rfl h.rule, fr_bags o rfl h.bags, fr_hand o rfl h.hand, fr_book o rfl h.book, fr_figs (fr_refl (D := [])) rfl h.figs, fr_case o rfl h.case, fr_wght o rfl h.wght, fr_trty o (fr_refl (D := [])) rfl h.trty⟩
theorem rp_feed (a : Int32) (b : Int32) (c : Int32) (d : Int32) (e : Int32) {I : Nat → Nat → Int32} {J : Nat → Nat → Int64} {T : Option Nat} {P : Int32 → Int32 → (Nat → Nat → Int32) → (Nat → Nat → Int64) → Option Nat → Prop} (h : RR I J) (hP : ∀ v I2 J2 T2, RR I2 J2 → P v v I2 J2 T2) : wp_X11_feed a b c d e I J T (fun v I1 J1 T1 => wp_X12_feed a b c d e I1 J1 T1 (fun w I2 J2 T2 => P v w I2 J2 T2)) := by
  obtain ⟨p, hp, p1, p2, pc⟩ := h.tape
  have p4 : (nI p).toInt = (p : Int) := nI_toInt (by omega)
  have e20 : nI p + 20 = nI (p + 20) := by rw [show (20 : Int32) = nI 20 from rfl, nI_add]
  unfold wp_X11_feed wp_X7_hasRoom wp_X7_tapeLength
  rw [p1]
  by_cases q : p ≤ 580
  · have c : nI p ≤ 580 := by
      rw [Int32.le_iff_toInt_le, p4]
      show (p : Int) ≤ 580
      omega
    refine ⟨fun _ => ⟨fun z => absurd z (by decide), fun _ => ?_⟩, fun z => absurd c z⟩
    refine fn_tapeC (by omega) p1 (fun I1 o1 c1 t1 => ?_)
    refine fn_tapeC (by omega) c1 (fun I2 o2 c2 t2 => ?_)
    refine fn_tapeC (by omega) c2 (fun I3 o3 c3 t3 => ?_)
    refine fn_tapeC (by omega) c3 (fun I4 o4 c4 t4 => ?_)
    refine fn_tapeC (by omega) c4 (fun I5 o5 c5 t5 => ?_)
    have oC := fr_trans o1 (fr_trans o2 (fr_trans o3 (fr_trans o4 o5)))
    have m0 : I5 204 15 = nI p := by rw [fr_at 204 15 oC rfl]; exact p2
    unfold wp_X12_feed
    dsimp only
    rw [m0, e20]
    have c' : nI (p + 20) ≤ 600 := by
      rw [Int32.le_iff_toInt_le, nI_toInt (by omega)]
      show ((p + 20 : Nat) : Int) ≤ 600
      omega
    refine ⟨fun _ => ?_, fun z => absurd c' z⟩
    refine fn_tapeM (by omega) m0 (fun K1 r1 d1 u1 => ?_)
    refine fn_tapeM (by omega) d1 (fun K2 r2 d2 u2 => ?_)
    refine fn_tapeM (by omega) d2 (fun K3 r3 d3 u3 => ?_)
    refine fn_tapeM (by omega) d3 (fun K4 r4 d4 u4 => ?_)
    refine fn_tapeM (by omega) d4 (fun K5 r5 d5 u5 => ?_)
    have oM := fr_trans r1 (fr_trans r2 (fr_trans r3 (fr_trans r4 r5)))
    have z0 : I5 213 = I 213 := fr_rw1 oC 213 rfl
    have z1 : K5 45 = I5 45 := fr_rw1 oM 45 rfl
    rw [c5, d5]
    refine hP _ _ _ _ (rk_feed h (fr_trans (fr_mono (by decide) oC) (fr_mono (by decide) oM)) ⟨p + 4 + 4 + 4 + 4 + 4, by omega, ?_, d5, ?_⟩)
    · rw [fr_at 44 1 oM rfl]; exact c5
    · rw [z1, t5, t4, t3, t2, t1, u5, u4, u3, u2, u1, z0]
      exact ct_ok (ct_ok (ct_ok (ct_ok (ct_ok pc))))
  · have c : ¬ nI p ≤ 580 := fun z => by
      rw [Int32.le_iff_toInt_le, p4] at z
      have z : (p : Int) ≤ 580 := z
      omega
    have c' : ¬ nI (p + 20) ≤ 600 := fun z => by
      rw [Int32.le_iff_toInt_le, nI_toInt (by omega)] at z
      have z : ((p + 20 : Nat) : Int) ≤ 600 := z
      omega
    refine ⟨fun z => absurd z c, fun _ => ⟨fun _ => ?_, fun z => absurd rfl z⟩⟩
    unfold wp_X12_feed
    dsimp only
    rw [p2, e20]
    exact ⟨fun z => absurd z c', fun _ => hP _ _ _ _ h⟩
