/-! account -/
theorem lp_a38 {yy : Nat} {tl : Int32} {I : Nat → Nat → Int32} {J : Nat → Nat → Int64} {T : Option Nat} {P : Int64 → (Nat → Nat → Int32) → (Nat → Nat → Int64) → Option Nat → Prop} (hP : ∀ J2, fr_off [(256, 257, 0, 2147483648)] J J2 → fcM J2 mz_ → ∀ V38 : Int32 → Int32 → Int32 → (Nat → Nat → Int32) → (Nat → Nat → Int64) → Option Nat → Prop, wl_X12_account_59_38 (nI yy) tl 0 I J2 T V38 P) : wl_X12_account_38 (nI yy) tl 0 I J T P := by
  intro V hV
  have key : ∀ (m k : Nat) (J1 : Nat → Nat → Int64), k + m = 49 → fr_off [(256, 257, 0, 2147483648)] J J1 → (∀ x, x < k → J1 256 x = 0) → V (nI yy) tl (nI k) I J1 T := by
    intro m
    induction m with
    | zero =>
      intro k J1 hk o q
      have hk : k = 49 := by omega
      subst hk
      apply hV
      unfold wb_X12_account_38
      exact ⟨fun z => absurd z (by decide), fun _ => hP J1 o (fun a b ha hb => q _ (by omega)) V⟩
    | succ m ih =>
      intro k J1 hk o q
      apply hV
      unfold wb_X12_account_38
      rw [nI_clamp (show k < 2 ^ 31 by omega), nI_1]
      refine ⟨fun _ => ⟨nI_in2 (by omega) (by decide), ih (k + 1) _ (by omega) (fr_putn rfl (by omega) o) (fun x hx => ?_)⟩, fun z => absurd (nI_lt (a := k) (b := 49) (by omega) (by omega)) z⟩
      by_cases c : x = k
      · subst c; exact u2_s
      · rw [u2_j c]; exact q x (by omega)
  exact key 49 0 J (by omega) fr_refl (fun x hx => by omega)
theorem lp_a318 {D : Nat → Nat → Int64} {I : Nat → Nat → Int32} {J : Nat → Nat → Int64} {T : Option Nat} {P : Int64 → (Nat → Nat → Int32) → (Nat → Nat → Int64) → Option Nat → Prop} {V38 V59 : Int32 → Int32 → Int32 → (Nat → Nat → Int32) → (Nat → Nat → Int64) → Option Nat → Prop} (hD : fcM J D) (hP : ∀ J2, fr_off [(255, 256, 0, 2147483648)] J J2 → (∀ a b, a < 7 → b < 7 → J2 255 (7 * a + b) = D a b) → P (sg7 D 49) (ix_u2 (ix_u2 I 204 80 1) 204 0 0) J2 T) : wl_X12_account_318_38_59 0 0 I J T V38 V59 P := by
  intro V hV
  have key : ∀ (m k : Nat) (J1 : Nat → Nat → Int64), k + m = 49 → fr_off [(255, 256, 0, 2147483648)] J J1 → (∀ x, x < k → J1 255 x = D (x / 7) (x % 7)) → V (sg7 D k) (nI k) I J1 T := by
    intro m
    induction m with
    | zero =>
      intro k J1 hk o q
      have hk : k = 49 := by omega
      subst hk
      apply hV
      unfold wb_X12_account_318_38_59 wp_X12_givesLong
      exact ⟨fun z => absurd z (by decide), fun _ => hP J1 o (fun a b ha hb => by rw [q _ (by omega), show (7 * a + b) / 7 = a by omega, show (7 * a + b) % 7 = b by omega])⟩
    | succ m ih =>
      intro k J1 hk o q
      have ik : ix_inb (nI k) 49 = true := nI_in2 (by omega) (by decide)
      have e : J1 256 k = D (k / 7) (k % 7) := by
        rw [fr_rw1 o 256 rfl, ← hD (k / 7) (k % 7) (by omega) (by omega), show 7 * (k / 7) + k % 7 = k by omega]
      apply hV
      unfold wb_X12_account_318_38_59
      rw [nI_clamp (show k < 2 ^ 31 by omega), nI_1, u2_s, e]
      refine ⟨fun _ => ⟨ik, ik, ik, ih (k + 1) _ (by omega) (fr_putn rfl (by omega) o) (fun x hx => ?_)⟩, fun z => absurd (nI_lt (a := k) (b := 49) (by omega) (by omega)) z⟩
      by_cases c : x = k
      · subst c; exact u2_s
      · rw [u2_j c]; exact q x (by omega)
  exact key 49 0 J (by omega) fr_refl (fun x hx => by omega)
theorem rp_account (a : Int32) (b : Int32) {I : Nat → Nat → Int32} {J : Nat → Nat → Int64} {T : Option Nat} {P : Int64 → Int64 → (Nat → Nat → Int32) → (Nat → Nat → Int64) → Option Nat → Prop} (h : RR I J) (hP : ∀ v I2 J2 T2, RR I2 J2 → P v v I2 J2 T2) : wp_X11_account a b I J T (fun v I1 J1 T1 => wp_X12_account a b I1 J1 T1 (fun w I2 J2 T2 => P v w I2 J2 T2)) := by
  obtain ⟨L, hL, l1, l2⟩ := h.land
  obtain ⟨n, hn, n1, n2, -⟩ := h.flow
  obtain ⟨d, hd, d1, d2, -⟩ := h.draw
  have a1 : a < 0 ↔ a.toInt < 0 := Int32.lt_iff_toInt_lt
  have a2 : a ≤ 27 ↔ a.toInt ≤ 27 := Int32.le_iff_toInt_le
  have d0 : nI d = 0 ↔ d = 0 := nI_eq (a := d) (b := 0) (by omega) (by omega)
  have d3 : nI d ≤ 0 ↔ d = 0 := by
    rw [Int32.le_iff_toInt_le, nI_toInt (by omega)]
    show ((d : Nat) : Int) ≤ 0 ↔ d = 0
    omega
  unfold wp_X11_account
  by_cases q : 0 ≤ a.toInt ∧ a.toInt ≤ 27
  · refine fn_noutC (by show 0 ≤ a.toInt; omega) (by show a.toInt ≤ 27; omega) ⟨fun _ => ?_, fun z => absurd rfl z⟩
    by_cases td : b = 0 ∨ 1 ≤ d
    · obtain ⟨yy, hy, rfl⟩ := ii_at (n := 28) q.1 (by omega) (by omega)
      have dn : ¬ b = 0 → ¬ d = 0 := fun z y => by
        rcases td with t | t
        · exact z t
        · omega
      have md : ∀ (I5 : Nat → Nat → Int32) (J5 : Nat → Nat → Int64) (Q : Int64 → (Nat → Nat → Int32) → (Nat → Nat → Int64) → Option Nat → Prop), fr_off [(0, 1, 0, 1), (204, 205, 0, 1), (95, 96, 0, 2147483648), (97, 98, 2, 10), (104, 106, 0, 2147483648), (204, 205, 58, 64), (243, 246, 0, 2147483648), (124, 125, 0, 1), (204, 205, 80, 81)] I I5 → fr_off [(67, 68, 0, 2147483648), (76, 77, 0, 2147483648), (85, 86, 0, 2147483648), (94, 95, 0, 2147483648), (96, 97, 0, 2147483648), (97, 98, 3, 4), (97, 98, 10, 12), (98, 99, 0, 2147483648), (100, 104, 0, 2147483648), (204, 205, 60, 63), (241, 243, 0, 2147483648), (134, 141, 0, 2147483648), (256, 257, 0, 2147483648), (126, 133, 0, 2147483648), (255, 256, 0, 2147483648)] J J5 → (∀ I6 J6, fr_off [(0, 1, 0, 1), (204, 205, 0, 1), (95, 96, 0, 2147483648), (97, 98, 2, 10), (104, 106, 0, 2147483648), (204, 205, 58, 64), (243, 246, 0, 2147483648), (124, 125, 0, 1), (204, 205, 80, 81)] I I6 → fr_off [(67, 68, 0, 2147483648), (76, 77, 0, 2147483648), (85, 86, 0, 2147483648), (94, 95, 0, 2147483648), (96, 97, 0, 2147483648), (97, 98, 3, 4), (97, 98, 10, 12), (98, 99, 0, 2147483648), (100, 104, 0, 2147483648), (204, 205, 60, 63), (241, 243, 0, 2147483648), (134, 141, 0, 2147483648), (256, 257, 0, 2147483648), (126, 133, 0, 2147483648), (255, 256, 0, 2147483648)] J J6 → fr_off [(204, 205, 58, 60), (243, 245, 0, 2147483648)] I5 I6 → fr_off [(204, 205, 60, 61), (241, 243, 0, 2147483648), (256, 257, 0, 2147483648)] J5 J6 → (acO I L d yy b n = none → Q ((-1 : Int32)).toInt64 (ix_u2 I6 204 0 6) J6 T) ∧ (∀ D J7, acO I L d yy b n = some D → fr_off [(255, 256, 0, 2147483648)] J6 J7 → (∀ a b, a < 7 → b < 7 → J7 255 (7 * a + b) = D a b) → Q (sg7 D 49) (ix_u2 (ix_u2 I6 204 80 1) 204 0 0) J7 T)) → wp_X12_account (nI yy) b I5 J5 T Q := by
        intro I5 J5 Q o5 oj5 hQ
        have go : wl_X12_account_38 (nI yy) b 0 I5 J5 T Q := by
          refine lp_a38 (fun J6 oj6 z6 V38 => ?_)
          have oj7 : fr_off [(67, 68, 0, 2147483648), (76, 77, 0, 2147483648), (85, 86, 0, 2147483648), (94, 95, 0, 2147483648), (96, 97, 0, 2147483648), (97, 98, 3, 4), (97, 98, 10, 12), (98, 99, 0, 2147483648), (100, 104, 0, 2147483648), (204, 205, 60, 63), (241, 243, 0, 2147483648), (134, 141, 0, 2147483648), (256, 257, 0, 2147483648), (126, 133, 0, 2147483648), (255, 256, 0, 2147483648)] J J6 := fr_trans oj5 (fr_mono (by decide) oj6)
          refine fn_acM h n1 n2 hn l1 l2 hL d1 hd td (by omega) o5 oj7 z6 (fun I8 J8 o8 oj8 pi8 pj8 => ?_)
          have hq := hQ I8 J8 o8 oj8 pi8 (fr_trans (fr_mono (by decide) oj6) pj8)
          exact ⟨hq.1, fun D e c V59 => lp_a318 c (fun J9 oj9 c9 => hq.2 D J9 e oj9 c9)⟩
        unfold wp_X12_account
        rw [a1, a2, fr_at 204 66 o5 rfl, d2, d0]
        exact ⟨fun z => by omega, fun _ => ⟨fun _ => ⟨fun _ => go, fun z => ⟨fun y => absurd y (dn z), fun _ => go⟩⟩, fun z => absurd q.2 z⟩⟩
      have bg : wp_X0_begin I J T (fun I6 J6 T6 => wl_X11_account_50 (nI yy) b 0 I6 J6 T6 (fun v I1 J1 T1 => wp_X12_account (nI yy) b I1 J1 T1 (fun w I2 J2 T2 => P v w I2 J2 T2))) := by
        refine fn_beg (fun J2 oj2 z2 => ?_)
        refine fn_acC h n1 hn l1 hL d1 hd td (by omega) fr_refl (fr_mono (by decide) oj2) z2 (fun I3 J3 o3 oj3 => ⟨fun e => ?_, fun D e c => ?_⟩)
        · have o4 : fr_off [(0, 1, 0, 1), (204, 205, 0, 1), (95, 96, 0, 2147483648), (97, 98, 2, 10), (104, 106, 0, 2147483648), (204, 205, 58, 64), (243, 246, 0, 2147483648), (124, 125, 0, 1), (204, 205, 80, 81)] I (ix_u2 I3 0 0 6) := fr_put rfl (fr_mono (by decide) o3)
          refine md _ _ _ o4 (fr_mono (by decide) oj3) (fun I6 J6 o6 oj6 p6 pj6 => ⟨fun _ => ?_, fun D J7 e2 => by rw [e] at e2; cases e2⟩)
          have o7 : fr_off [(0, 1, 0, 1), (204, 205, 0, 1), (95, 96, 0, 2147483648), (97, 98, 2, 10), (104, 106, 0, 2147483648), (204, 205, 58, 64), (243, 246, 0, 2147483648)] I (ix_u2 I6 204 0 6) := fr_put rfl (fr_trans (fr_put rfl o3) (fr_mono (by decide) p6))
          refine hP _ _ _ _ (rk_ways h o7 (fr_trans oj3 (fr_mono (by decide) pj6)) ?_)
          show ix_u2 I6 204 0 6 0 0 = ix_u2 I6 204 0 6 204 0
          rw [u2_c (by decide), u2_s, fr_at 0 0 p6 rfl]; exact u2_s
        · refine fn_stl c (fun J4 oj4 c4 => ?_)
          have o4 : fr_off [(0, 1, 0, 1), (204, 205, 0, 1), (95, 96, 0, 2147483648), (97, 98, 2, 10), (104, 106, 0, 2147483648), (204, 205, 58, 64), (243, 246, 0, 2147483648), (124, 125, 0, 1), (204, 205, 80, 81)] I (ix_u2 (ix_u2 I3 0 0 0) 124 0 1) := fr_put rfl (fr_put rfl (fr_mono (by decide) o3))
          have oj5 : fr_off [(67, 68, 0, 2147483648), (76, 77, 0, 2147483648), (85, 86, 0, 2147483648), (94, 95, 0, 2147483648), (96, 97, 0, 2147483648), (97, 98, 3, 4), (97, 98, 10, 12), (98, 99, 0, 2147483648), (100, 104, 0, 2147483648), (204, 205, 60, 63), (241, 243, 0, 2147483648), (134, 141, 0, 2147483648), (256, 257, 0, 2147483648), (126, 133, 0, 2147483648), (255, 256, 0, 2147483648)] J J4 := fr_trans (fr_mono (by decide) oj3) (fr_mono (by decide) oj4)
          refine md _ _ _ o4 oj5 (fun I6 J6 o6 oj6 p6 pj6 => ⟨fun e2 => (by rw [e] at e2; cases e2), fun D2 J7 e2 oj7 c7 => ?_⟩)
          rw [e] at e2
          cases e2
          have hb := acO_b hL hn e
          refine hP _ _ _ _ (rk_acct h (fr_put rfl (fr_put rfl o6)) (fr_trans oj6 (fr_mono (by decide) oj7)) ?_ ?_)
          · show ix_u2 (ix_u2 I6 204 80 1) 204 0 0 0 0 = ix_u2 (ix_u2 I6 204 80 1) 204 0 0 204 0
            rw [u2_c (by decide), u2_c (by decide), u2_s, fr_at 0 0 p6 rfl, u2_c (by decide)]
            exact u2_s
          · have x1 : ix_u2 (ix_u2 I6 204 80 1) 204 0 0 124 0 = 1 := by
              rw [u2_c (by decide), u2_c (by decide), fr_at 124 0 p6 rfl]
              exact u2_s
            have x2 : ix_u2 (ix_u2 I6 204 80 1) 204 0 0 204 80 = 1 := by
              rw [u2_j (by decide)]
              exact u2_s
            refine ⟨x1.trans x2.symm, Or.inr x1, fun a b ha hb2 => ?_⟩
            have y1 : J7 (126 + a) b = D a b := by
              rw [fr_row oj7 (a := 126) (b := 133) rfl (show 126 ≤ 126 + a by omega) (by omega), fr_row pj6 (a := 126) (b := 133) rfl (show 126 ≤ 126 + a by omega) (by omega)]
              exact c4 a b ha hb2
            rw [bJ_lt ha, y1]
            have := hb a b ha hb2
            exact ⟨(c7 a b ha hb2).symm, this.1, by omega⟩
      unfold wp_X4_hasDraw
      rw [d1, d3]
      exact ⟨fun _ => bg, fun z => ⟨fun y => absurd y (dn z), fun _ => ⟨fun y => absurd y (show ¬ (1 : Int32) = 0 by decide), fun _ => bg⟩⟩⟩
    · unfold wp_X4_hasDraw
      rw [d1, d3]
      refine ⟨fun z => absurd (Or.inl z) td, fun z => ⟨fun _ => ⟨fun _ => ?_, fun y => absurd rfl y⟩, fun y => absurd (Or.inr (by omega)) td⟩⟩
      unfold wp_X12_account wp_X11_refuse
      dsimp only
      rw [a1, a2, u2_c (by decide), d2, d0]
      exact ⟨fun y => by omega, fun _ => ⟨fun _ => ⟨fun y => absurd y z, fun _ => ⟨fun _ => hP _ _ _ _ (RR_st h 6), fun y => absurd (by omega) y⟩⟩, fun y => absurd q.2 y⟩⟩
  · refine fn_outC (by show a.toInt < 0 ∨ 27 < a.toInt; omega) ⟨fun z => absurd z (show ¬ (1 : Int32) = 0 by decide), fun _ => ?_⟩
    unfold wp_X12_account wp_X11_refuse
    rw [a1, a2]
    exact ⟨fun _ => hP _ _ _ _ (RR_st h 1), fun z => ⟨fun y => by omega, fun _ => hP _ _ _ _ (RR_st h 1)⟩⟩
