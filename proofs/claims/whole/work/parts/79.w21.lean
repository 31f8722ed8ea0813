/-! the account: all flows -/
section
variable (I0 : Nat → Nat → Int32) (L d yy : Nat) (tl : Int32)
def aF (f : Nat) : Nat := tn_ (I0 107) f
def aT (f : Nat) : Nat := tn_ (I0 108) f
def aW (f : Nat) : Int64 := lZ ((1000 * kgF I0 tl d f : Nat) : Int)
def aP (f : Nat) : Int64 := lZ ((kgF I0 tl d f * tn_ (I0 110) f : Nat) : Int)
noncomputable def aB (f : Nat) : Option (Nat × (Nat → Nat)) := bwX I0 L (aF I0 f) (aT I0 f) (I0 109 f) (nI (365 * yy)) (aW I0 d tl f) (aP I0 d tl f)
def aU (D : Nat → Nat → Int64) (f n : Nat) (u : Nat → Nat) : Nat → Nat → Int64 := dbU D (aF I0 f) (aT I0 f) n u (duX (bI I0 51 44) (I0 109 f) (aW I0 d tl f) (aP I0 d tl f) (nI (365 * yy)) (aF I0 f) (aT I0 f)) (thX (bI I0 51 44) (I0 109 f) (aW I0 d tl f) (aP I0 d tl f) (nI (365 * yy)) (aF I0 f) (aT I0 f))
noncomputable def acO : Nat → Option (Nat → Nat → Int64)
  | 0 => some mz_
  | f + 1 => match acO f with
    | none => none
    | some D => if kgF I0 tl d f = 0 then some D else match aB I0 L d yy tl f with
      | none => none
      | some r => some (aU I0 d yy tl D f r.1 r.2)
end
variable {I0 : Nat → Nat → Int32} {J0 : Nat → Nat → Int64} {L n d yy : Nat} {tl : Int32}
theorem acO_none {f : Nat} (h : acO I0 L d yy tl f = none) : ∀ {m : Nat}, acO I0 L d yy tl (f + m) = none
  | 0 => h
  | m + 1 => by
    show acO I0 L d yy tl (f + m + 1) = none
    rw [acO, acO_none h (m := m)]
theorem acO_0 {f : Nat} {D : Nat → Nat → Int64} (h : acO I0 L d yy tl f = some D) (k : kgF I0 tl d f = 0) : acO I0 L d yy tl (f + 1) = some D := by
  rw [acO, h]
  exact if_pos k
theorem acO_n {f : Nat} {D : Nat → Nat → Int64} (h : acO I0 L d yy tl f = some D) (k : ¬ kgF I0 tl d f = 0) (b : aB I0 L d yy tl f = none) : acO I0 L d yy tl (f + 1) = none := by
  rw [acO, h]
  dsimp only
  rw [if_neg k, b]
theorem acO_s {f : Nat} {D : Nat → Nat → Int64} {r : Nat × (Nat → Nat)} (h : acO I0 L d yy tl f = some D) (k : ¬ kgF I0 tl d f = 0) (b : aB I0 L d yy tl f = some r) : acO I0 L d yy tl (f + 1) = some (aU I0 d yy tl D f r.1 r.2) := by
  rw [acO, h]
  dsimp only
  rw [if_neg k, b]
theorem bwX_V {I : Nat → Nat → Int32} {fr to : Nat} {s dd : Int32} {w p : Int64} {r : Nat × (Nat → Nat)} (h : bwX I L fr to s dd w p = some r) : wzV L fr to (rdI I) r.1 r.2 := by
  unfold bwX at h
  by_cases ex : ∃ R, wzB L fr to (rdI I) (FI_ I w) (duX (bI I 51 44) s w p dd fr to) (thX (bI I 51 44) s w p dd fr to) (fun _ _ => True) R
  · rw [dif_pos ex] at h
    have := Classical.choose_spec ex
    rw [h] at this
    exact this.1
  · rw [dif_neg ex] at h
    cases h
theorem acO_b (hL : L ≤ 7) : ∀ {f : Nat} {D : Nat → Nat → Int64}, f ≤ 8 → acO I0 L d yy tl f = some D → dbO D (4000000000000 * f)
  | 0, D, _, h => by
    cases h
    exact fun a b _ _ => ⟨by show (0 : Int) ≤ (0 : Int64).toInt; decide, by show (0 : Int64).toInt ≤ (4000000000000 * 0 : Int); decide⟩
  | f + 1, D, hf, h => by
    cases e : acO I0 L d yy tl f with
    | none =>
      rw [acO, e] at h
      cases h
    | some E =>
      have ih := acO_b hL (f := f) (by omega) e
      by_cases k : kgF I0 tl d f = 0
      · rw [acO_0 e k] at h
        cases h
        exact fun a b ha hb => by have := ih a b ha hb; omega
      · cases b : aB I0 L d yy tl f with
        | none =>
          rw [acO_n e k b] at h
          cases h
        | some r =>
          rw [acO_s e k b] at h
          cases h
          have := dbO_U (X := bI I0 51 44) (s := I0 109 f) (d := nI (365 * yy)) (w := aW I0 d tl f) (p := aP I0 d tl f) hL (by omega) ih (bwX_V b)
          exact fun a b ha hb => by
            have := this a b ha hb
            refine ⟨this.1, Int.le_trans this.2 ?_⟩
            omega
/-- a flow's facts -/
theorem ac_f (h : RR I0 J0) (n1 : I0 106 0 = nI n) (hn : n ≤ 8) (l1 : I0 8 0 = nI L) (hL : L ≤ 7) {f : Nat} (hf : f < n) : I0 107 f = nI (aF I0 f) ∧ I0 108 f = nI (aT I0 f) ∧ I0 247 f = nI (aF I0 f) ∧ I0 248 f = nI (aT I0 f) ∧ I0 249 f = I0 109 f ∧ I0 110 f = nI (tn_ (I0 110) f) ∧ I0 250 f = nI (tn_ (I0 110) f) ∧ 1 ≤ tn_ (I0 110) f ∧ tn_ (I0 110) f ≤ 100 ∧ L ≤ 7 ∧ aF I0 f < L ∧ aT I0 f < L ∧ aF I0 f ≠ aT I0 f := by
  obtain ⟨n', hn', n1', n2, hc⟩ := h.flow
  have : n' = n := (nI_eq (by omega) (by omega)).mp (n1'.symm.trans n1)
  subst this
  obtain ⟨c1, c2, c3, c4, ⟨i, j, s9, p9, e1, e2, e3, e4, e5, e6, e7, e8, e9, e10⟩, -, -⟩ := hc f hf
  rw [l1, nI_toInt (by omega)] at e3 e4
  have a1 : aF I0 f = i := tn_of e1 (by omega)
  have a2 : aT I0 f = j := tn_of e2 (by omega)
  have a3 : tn_ (I0 110) f = p9 := tn_of e8 (by omega)
  rw [a1, a2, a3]
  exact ⟨e1, e2, c1.symm.trans e1, c2.symm.trans e2, c3.symm, e8, c4.symm.trans e8, e9, e10, hL, by omega, by omega, e5⟩
theorem aW_C {f : Nat} (hk : kgF I0 tl d f ≤ 520000) : (nI (kgF I0 tl d f) * 1000).toInt64 = aW I0 d tl f := by
  rw [show (1000 : Int32) = nI 1000 from rfl, nI_mul, nI_iZ, iZ_64 (by omega)]
  exact congrArg lZ (by omega)
theorem aP_C {f q : Nat} (hk : kgF I0 tl d f ≤ 520000) (e : q = tn_ (I0 110) f) (hq : q ≤ 100) : (nI (kgF I0 tl d f) * nI q).toInt64 = aP I0 d tl f := by
  have : kgF I0 tl d f * q ≤ 520000 * 100 := Nat.mul_le_mul hk hq
  rw [nI_mul, nI_iZ, iZ_64 (by omega), e]
  rfl
theorem nI_lZ {q : Nat} (hq : q < 2147483648) : (nI q).toInt64 = lZ q := by rw [nI_iZ, iZ_64 (by omega)]
theorem fn_acC (h : RR I0 J0) (n1 : I0 106 0 = nI n) (hn : n ≤ 8) (l1 : I0 8 0 = nI L) (hL : L ≤ 7) (d1 : I0 106 7 = nI d) (hd : d ≤ 52) (td : tl = 0 ∨ 1 ≤ d) (hy : yy ≤ 27) {I : Nat → Nat → Int32} {J : Nat → Nat → Int64} {T : Option Nat} {P : Int64 → (Nat → Nat → Int32) → (Nat → Nat → Int64) → Option Nat → Prop} (o0 : fr_off [(0, 1, 0, 1), (204, 205, 0, 1), (95, 96, 0, 2147483648), (97, 98, 2, 10), (104, 106, 0, 2147483648), (204, 205, 58, 64), (243, 246, 0, 2147483648)] I0 I) (oj0 : fr_off [(67, 68, 0, 2147483648), (76, 77, 0, 2147483648), (85, 86, 0, 2147483648), (94, 95, 0, 2147483648), (96, 97, 0, 2147483648), (97, 98, 3, 4), (97, 98, 10, 12), (98, 99, 0, 2147483648), (100, 104, 0, 2147483648), (204, 205, 60, 63), (241, 243, 0, 2147483648), (134, 141, 0, 2147483648), (256, 257, 0, 2147483648)] J0 J) (z0 : fcC J mz_) (hP : ∀ I2 J2, fr_off [(0, 1, 0, 1), (204, 205, 0, 1), (95, 96, 0, 2147483648), (97, 98, 2, 10), (104, 106, 0, 2147483648), (204, 205, 58, 64), (243, 246, 0, 2147483648)] I0 I2 → fr_off [(67, 68, 0, 2147483648), (76, 77, 0, 2147483648), (85, 86, 0, 2147483648), (94, 95, 0, 2147483648), (96, 97, 0, 2147483648), (97, 98, 3, 4), (97, 98, 10, 12), (98, 99, 0, 2147483648), (100, 104, 0, 2147483648), (204, 205, 60, 63), (241, 243, 0, 2147483648), (134, 141, 0, 2147483648), (256, 257, 0, 2147483648)] J0 J2 → (acO I0 L d yy tl n = none → P ((-1 : Int32)).toInt64 (ix_u2 I2 0 0 6) J2 T) ∧ (∀ D, acO I0 L d yy tl n = some D → fcC J2 D → wp_X0_settle (ix_u2 I2 0 0 0) J2 T (fun v30 I30 J30 T30 => P v30 I30 J30 T30))) : wl_X11_account_50 (nI yy) tl 0 I J T P := by
  intro V hV
  have key : ∀ (m f : Nat) (I1 : Nat → Nat → Int32) (J1 : Nat → Nat → Int64) (D : Nat → Nat → Int64), f + m = n → fr_off [(0, 1, 0, 1), (204, 205, 0, 1), (95, 96, 0, 2147483648), (97, 98, 2, 10), (104, 106, 0, 2147483648), (204, 205, 58, 64), (243, 246, 0, 2147483648)] I0 I1 → fr_off [(67, 68, 0, 2147483648), (76, 77, 0, 2147483648), (85, 86, 0, 2147483648), (94, 95, 0, 2147483648), (96, 97, 0, 2147483648), (97, 98, 3, 4), (97, 98, 10, 12), (98, 99, 0, 2147483648), (100, 104, 0, 2147483648), (204, 205, 60, 63), (241, 243, 0, 2147483648), (134, 141, 0, 2147483648), (256, 257, 0, 2147483648)] J0 J1 → acO I0 L d yy tl f = some D → fcC J1 D → V (nI yy) tl (nI f) I1 J1 T := by
    intro m
    induction m with
    | zero =>
      intro f I1 J1 D hf o oj e c
      have hf : f = n := by omega
      subst hf
      apply hV
      unfold wb_X11_account_50 wp_X4_count
      rw [fr_at 106 0 o rfl, n1]
      exact ⟨fun z => absurd z (nI_nlt (Nat.le_refl _) (by omega)), fun _ => (hP I1 J1 o oj).2 D e c⟩
    | succ m ih =>
      intro f I1 J1 D hf o oj e c
      have fn : f < n := by omega
      obtain ⟨k1, k2, -⟩ := kg_C h n1 hn d1 hd td fn
      obtain ⟨a1, a2, -, -, -, a6, -, a8, a9, hl⟩ := ac_f h n1 hn l1 hL fn
      have f5 : (nI f).toNatClampNeg = f := nI_clamp (by omega)
      have i8 : ix_inb (nI f) 8 = true := nI_in2 (by omega) (by decide)
      apply hV
      unfold wb_X11_account_50 wp_X4_count
      rw [fr_at 106 0 o rfl, n1]
      simp only [nI_1]
      refine ⟨fun _ => k2 o ?_, fun z => absurd (nI_lt (by omega) (by omega)) z⟩
      have kz : nI (kgF I0 tl d f) = 0 ↔ kgF I0 tl d f = 0 := nI_eq (a := kgF I0 tl d f) (b := 0) (by omega) (by omega)
      rw [kz]
      refine ⟨fun z => ih (f + 1) I1 J1 D (by omega) o oj (acO_0 e z) c, fun z => ?_⟩
      unfold wp_X4_makeMail
      rw [f5, fr_rw1 o 107 rfl, fr_rw1 o 108 rfl, fr_rw1 o 109 rfl, fr_rw1 o 110 rfl, a1, a2]
      have kq : kgF I0 tl d f * tn_ (I0 110) f ≤ 520000 * 100 := Nat.mul_le_mul k1 a9
      have kp : 1 * 1 ≤ kgF I0 tl d f * tn_ (I0 110) f := Nat.mul_le_mul (by omega) a8
      refine ⟨i8, i8, i8, i8, fn_bec2 ?_ ?_ (fun I2 J2 o2 oj2 m2 => ?_)⟩
      · rw [show (1000 : Int32) = nI 1000 from rfl, nI_mul, nI_toInt (by omega)]; omega
      · rw [a6, nI_mul, nI_toInt (by omega)]; omega
      · have ey : nI yy * 365 = nI (365 * yy) := by rw [show (365 : Int32) = nI 365 from rfl, nI_mul, Nat.mul_comm]
        rw [aW_C k1, a6, aP_C k1 rfl a9, ey] at m2
        have o3 : fr_off [(0, 1, 0, 1), (204, 205, 0, 1), (95, 96, 0, 2147483648), (97, 98, 2, 10), (104, 106, 0, 2147483648), (204, 205, 58, 64), (243, 246, 0, 2147483648)] I0 I2 := fr_trans o (fr_mono (by decide) o2)
        have oj3 : fr_off [(67, 68, 0, 2147483648), (76, 77, 0, 2147483648), (85, 86, 0, 2147483648), (94, 95, 0, 2147483648), (96, 97, 0, 2147483648), (97, 98, 3, 4), (97, 98, 10, 12), (98, 99, 0, 2147483648), (100, 104, 0, 2147483648), (204, 205, 60, 63), (241, 243, 0, 2147483648), (134, 141, 0, 2147483648), (256, 257, 0, 2147483648)] J0 J2 := fr_trans oj (fr_mono (by decide) oj2)
        refine md_fb h hl l1 o3 oj3 m2 (fun I4 J4 R o4 oj4 _ b4 r4 k4 => ?_)
        have o5 : fr_off [(0, 1, 0, 1), (204, 205, 0, 1), (95, 96, 0, 2147483648), (97, 98, 2, 10), (104, 106, 0, 2147483648), (204, 205, 58, 64), (243, 246, 0, 2147483648)] I0 I4 := fr_trans o3 (fr_mono (by decide) o4)
        have oj5 : fr_off [(67, 68, 0, 2147483648), (76, 77, 0, 2147483648), (85, 86, 0, 2147483648), (94, 95, 0, 2147483648), (96, 97, 0, 2147483648), (97, 98, 3, 4), (97, 98, 10, 12), (98, 99, 0, 2147483648), (100, 104, 0, 2147483648), (204, 205, 60, 63), (241, 243, 0, 2147483648), (134, 141, 0, 2147483648), (256, 257, 0, 2147483648)] J0 J4 := fr_trans oj3 (fr_mono (by decide) oj4)
        have c5 : fcC J4 D := fun a b ha hb => by
          rw [fr_row oj4 (a := 134) (b := 141) rfl (show 134 ≤ 134 + a by omega) (by omega), fr_row oj2 (a := 134) (b := 141) rfl (show 134 ≤ 134 + a by omega) (by omega)]
          exact c a b ha hb
        rcases bwX_eq hL b4 with ⟨y1, y2⟩ | ⟨q, u, v, y1, y2, y3, y4⟩
        · subst y2
          have en := acO_none (acO_n e z y1) (m := m)
          rw [show f + 1 + m = n by omega] at en
          exact ⟨fun _ => (hP I4 J4 o5 oj5).1 en, fun z => absurd rfl z⟩
        · subst y2
          refine ⟨fun z => absurd z (show ¬ (1 : Int32) = 0 by decide), fun _ => ?_⟩
          have v3 : wzV L (aF I0 f) (aT I0 f) (rdI I0) q v := wzV_congr y3 y4
          refine fn_ent k4 r4 v3 c5 (fun J6 oj6 c6 => ?_)
          refine ih (f + 1) I4 J6 _ (by omega) o5 (fr_trans oj5 (fr_mono (by decide) oj6)) (acO_s e z y1) ?_
          rw [← dbU_congr y4] at c6
          exact c6
  exact key n 0 I J mz_ (by omega) o0 oj0 rfl z0
theorem fn_acM (h : RR I0 J0) (n1 : I0 106 0 = nI n) (n2 : I0 204 65 = nI n) (hn : n ≤ 8) (l1 : I0 8 0 = nI L) (l2 : I0 204 6 = nI L) (hL : L ≤ 7) (d1 : I0 106 7 = nI d) (hd : d ≤ 52) (td : tl = 0 ∨ 1 ≤ d) (hy : yy ≤ 27) {I : Nat → Nat → Int32} {J : Nat → Nat → Int64} {T : Option Nat} {P : Int64 → (Nat → Nat → Int32) → (Nat → Nat → Int64) → Option Nat → Prop} {V38 : Int32 → Int32 → Int32 → (Nat → Nat → Int32) → (Nat → Nat → Int64) → Option Nat → Prop} (o0 : fr_off [(0, 1, 0, 1), (204, 205, 0, 1), (95, 96, 0, 2147483648), (97, 98, 2, 10), (104, 106, 0, 2147483648), (204, 205, 58, 64), (243, 246, 0, 2147483648), (124, 125, 0, 1), (204, 205, 80, 81)] I0 I) (oj0 : fr_off [(67, 68, 0, 2147483648), (76, 77, 0, 2147483648), (85, 86, 0, 2147483648), (94, 95, 0, 2147483648), (96, 97, 0, 2147483648), (97, 98, 3, 4), (97, 98, 10, 12), (98, 99, 0, 2147483648), (100, 104, 0, 2147483648), (204, 205, 60, 63), (241, 243, 0, 2147483648), (134, 141, 0, 2147483648), (256, 257, 0, 2147483648), (126, 133, 0, 2147483648), (255, 256, 0, 2147483648)] J0 J) (z0 : fcM J mz_) (hP : ∀ I2 J2, fr_off [(0, 1, 0, 1), (204, 205, 0, 1), (95, 96, 0, 2147483648), (97, 98, 2, 10), (104, 106, 0, 2147483648), (204, 205, 58, 64), (243, 246, 0, 2147483648), (124, 125, 0, 1), (204, 205, 80, 81)] I0 I2 → fr_off [(67, 68, 0, 2147483648), (76, 77, 0, 2147483648), (85, 86, 0, 2147483648), (94, 95, 0, 2147483648), (96, 97, 0, 2147483648), (97, 98, 3, 4), (97, 98, 10, 12), (98, 99, 0, 2147483648), (100, 104, 0, 2147483648), (204, 205, 60, 63), (241, 243, 0, 2147483648), (134, 141, 0, 2147483648), (256, 257, 0, 2147483648), (126, 133, 0, 2147483648), (255, 256, 0, 2147483648)] J0 J2 → fr_off [(204, 205, 58, 60), (243, 245, 0, 2147483648)] I I2 → fr_off [(204, 205, 60, 61), (241, 243, 0, 2147483648), (256, 257, 0, 2147483648)] J J2 → (acO I0 L d yy tl n = none → P ((-1 : Int32)).toInt64 (ix_u2 I2 204 0 6) J2 T) ∧ (∀ D, acO I0 L d yy tl n = some D → fcM J2 D → ∀ V59 : Int32 → Int32 → Int32 → (Nat → Nat → Int32) → (Nat → Nat → Int64) → Option Nat → Prop, wl_X12_account_318_38_59 0 0 I2 J2 T V38 V59 P)) : wl_X12_account_59_38 (nI yy) tl 0 I J T V38 P := by
  intro V hV
  have key : ∀ (m f : Nat) (I1 : Nat → Nat → Int32) (J1 : Nat → Nat → Int64) (D : Nat → Nat → Int64), f + m = n → fr_off [(0, 1, 0, 1), (204, 205, 0, 1), (95, 96, 0, 2147483648), (97, 98, 2, 10), (104, 106, 0, 2147483648), (204, 205, 58, 64), (243, 246, 0, 2147483648), (124, 125, 0, 1), (204, 205, 80, 81)] I0 I1 → fr_off [(67, 68, 0, 2147483648), (76, 77, 0, 2147483648), (85, 86, 0, 2147483648), (94, 95, 0, 2147483648), (96, 97, 0, 2147483648), (97, 98, 3, 4), (97, 98, 10, 12), (98, 99, 0, 2147483648), (100, 104, 0, 2147483648), (204, 205, 60, 63), (241, 243, 0, 2147483648), (134, 141, 0, 2147483648), (256, 257, 0, 2147483648), (126, 133, 0, 2147483648), (255, 256, 0, 2147483648)] J0 J1 → fr_off [(204, 205, 58, 60), (243, 245, 0, 2147483648)] I I1 → fr_off [(204, 205, 60, 61), (241, 243, 0, 2147483648), (256, 257, 0, 2147483648)] J J1 → acO I0 L d yy tl f = some D → fcM J1 D → V (nI yy) tl (nI f) I1 J1 T := by
    intro m
    induction m with
    | zero =>
      intro f I1 J1 D hf o oj pi pj e c
      have hf : f = n := by omega
      subst hf
      apply hV
      unfold wb_X12_account_59_38
      rw [fr_at 204 65 o rfl, n2]
      exact ⟨fun z => absurd z (nI_nlt (Nat.le_refl _) (by omega)), fun _ => (hP I1 J1 o oj pi pj).2 D e c V⟩
    | succ m ih =>
      intro f I1 J1 D hf o oj pi pj e c
      have fn : f < n := by omega
      obtain ⟨k1, -, k2⟩ := kg_C h n1 hn d1 hd td fn
      obtain ⟨-, -, a3, a4, a5, -, a7, a8, a9, hl⟩ := ac_f h n1 hn l1 hL fn
      have f5 : (nI f).toNatClampNeg = f := nI_clamp (by omega)
      have i8 : ix_inb (nI f) 8 = true := nI_in2 (by omega) (by decide)
      have F7 : aF I0 f < 7 := by omega
      have T7 : aT I0 f < 7 := by omega
      have i49 : ix_inb (nI (7 * aF I0 f + aT I0 f)) 49 = true := nI_in2 (by omega) (by decide)
      apply hV
      unfold wb_X12_account_59_38
      rw [fr_at 204 65 o rfl, n2]
      simp only [nI_1]
      refine ⟨fun _ => k2 o ?_, fun z => absurd (nI_lt (by omega) (by omega)) z⟩
      have kz : lg_cmp (nI (kgF I0 tl d f)).toInt64 0 = 0 ↔ kgF I0 tl d f = 0 := by
        rw [lgc_eq, nI_lZ (by omega), show (0 : Int64) = lZ (0 : Int) from rfl, lZ_eq (by omega) (by omega)]
        omega
      rw [kz]
      refine ⟨fun z => ih (f + 1) I1 J1 D (by omega) o oj pi pj (acO_0 e z) c, fun z => ⟨i8, i8, i8, i8, ?_⟩⟩
      have kq : kgF I0 tl d f * tn_ (I0 110) f ≤ 520000 * 100 := Nat.mul_le_mul k1 a9
      have kp : 1 * 1 ≤ kgF I0 tl d f * tn_ (I0 110) f := Nat.mul_le_mul (by omega) a8
      have ew : (1000 : Int64) * (nI (kgF I0 tl d f)).toInt64 = aW I0 d tl f := by
        rw [nI_lZ (by omega), show (1000 : Int64) = lZ (1000 : Int) from rfl, lZ_mul]
        exact congrArg lZ (by omega)
      have ep : (nI (kgF I0 tl d f)).toInt64 * (nI (tn_ (I0 110) f)).toInt64 = aP I0 d tl f := by
        rw [nI_lZ (by omega), nI_lZ (by omega), lZ_mul]
        exact congrArg lZ (by omega)
      have ey : 365 * nI yy = nI (365 * yy) := by rw [show (365 : Int32) = nI 365 from rfl, nI_mul]
      have hp : ix_nzl (aP I0 d tl f) = true := by
        have : ¬ aP I0 d tl f = 0 := fun z => by
          unfold aP at z
          rw [show (0 : Int64) = lZ (0 : Int) from rfl, lZ_eq (by omega) (by omega)] at z
          omega
        unfold ix_nzl
        simp [this]
      rw [f5, fr_rw1 o 247 rfl, fr_rw1 o 248 rfl, fr_rw1 o 249 rfl, fr_rw1 o 250 rfl, a3, a4, a5, a7, ew, ep, ey]
      refine fn_fd (md_KX h hl hp l2 o oj) (fun I4 J4 R o4 oj4 b4 r4 => ?_)
      have o5 : fr_off [(0, 1, 0, 1), (204, 205, 0, 1), (95, 96, 0, 2147483648), (97, 98, 2, 10), (104, 106, 0, 2147483648), (204, 205, 58, 64), (243, 246, 0, 2147483648), (124, 125, 0, 1), (204, 205, 80, 81)] I0 I4 := fr_trans o (fr_mono (by decide) o4)
      have oj5 : fr_off [(67, 68, 0, 2147483648), (76, 77, 0, 2147483648), (85, 86, 0, 2147483648), (94, 95, 0, 2147483648), (96, 97, 0, 2147483648), (97, 98, 3, 4), (97, 98, 10, 12), (98, 99, 0, 2147483648), (100, 104, 0, 2147483648), (204, 205, 60, 63), (241, 243, 0, 2147483648), (134, 141, 0, 2147483648), (256, 257, 0, 2147483648), (126, 133, 0, 2147483648), (255, 256, 0, 2147483648)] J0 J4 := fr_trans oj (fr_mono (by decide) oj4)
      have pi4 : fr_off [(204, 205, 58, 60), (243, 245, 0, 2147483648)] I I4 := fr_trans pi (fr_mono (by decide) o4)
      have pj4 : fr_off [(204, 205, 60, 61), (241, 243, 0, 2147483648), (256, 257, 0, 2147483648)] J J4 := fr_trans pj (fr_mono (by decide) oj4)
      have c5 : fcM J4 D := by
        unfold fcM
        rw [fr_rw1 oj4 256 rfl]
        exact c
      rcases bwX_eq hL b4 with ⟨y1, y2⟩ | ⟨q, u, v, y1, y2, y3, y4⟩
      · subst y2
        have en := acO_none (acO_n e z y1) (m := m)
        rw [show f + 1 + m = n by omega] at en
        exact ⟨fun _ => (hP I4 J4 o5 oj5 pi4 pj4).1 en, fun z => absurd rfl z⟩
      · subst y2
        refine ⟨fun z => absurd z (show ¬ (1 : Int32) = 0 by decide), fun _ => ⟨i8, i8, ?_⟩⟩
        have v3 : wzV L (aF I0 f) (aT I0 f) (rdI I0) q v := wzV_congr y3 y4
        obtain ⟨r1, -, -, -, r5⟩ := r4
        have r1 : I4 204 58 = nI q := r1
        have r5 : ∀ k, k < q → I4 244 k = nI (v k) := r5
        have v7 := wzV_7 hL v3
        have q2 := v3.1
        have q5 := v3.2.1
        have mq2 : nI q - 2 = nI (q - 2) := by rw [show (2 : Int32) = nI 2 from rfl, nI_sub (by omega) (by omega)]
        have m1 : nI q - 1 = nI (q - 1) := nI_dec (by omega)
        have htw : tw_ I4 J4 := h.tw o5 oj5 rfl rfl
        have hX : bI I4 51 44 = bI I0 51 44 := fr_bI o5 51 44 rfl
        unfold wp_X12_pair
        dsimp only
        rw [fr_rw1 o5 247 rfl, fr_rw1 o5 248 rfl, fr_rw1 o5 249 rfl, a3, a4, a5, pr_7n, r1, mq2, nI_clamp (show 7 * aF I0 f + aT I0 f < 2 ^ 31 by omega)]
        refine ⟨i49, i8, i8, i8, fn_ow htw hp (Or.inl ⟨rfl, rfl, rfl⟩) (fun J6 oj6 => ⟨i49, ?_⟩)⟩
        rw [hX]
        have c6 : fcM J6 D := by
          unfold fcM
          rw [fr_rw1 oj6 256 rfl]
          exact c5
        have e256 : J4 256 (7 * aF I0 f + aT I0 f) = J6 256 (7 * aF I0 f + aT I0 f) := by rw [fr_rw1 oj6 256 rfl]
        rw [e256]
        have oj7 : fr_off [(67, 68, 0, 2147483648), (76, 77, 0, 2147483648), (85, 86, 0, 2147483648), (94, 95, 0, 2147483648), (96, 97, 0, 2147483648), (97, 98, 3, 4), (97, 98, 10, 12), (98, 99, 0, 2147483648), (100, 104, 0, 2147483648), (204, 205, 60, 63), (241, 243, 0, 2147483648), (134, 141, 0, 2147483648), (256, 257, 0, 2147483648), (126, 133, 0, 2147483648), (255, 256, 0, 2147483648)] J0 J6 := fr_trans oj5 (fr_mono (by decide) oj6)
        have pj6 : fr_off [(204, 205, 60, 61), (241, 243, 0, 2147483648), (256, 257, 0, 2147483648)] J J6 := fr_trans pj4 (fr_mono (by decide) oj6)
        intro W hW
        have key2 : ∀ (m2 j : Nat) (J7 : Nat → Nat → Int64), j + m2 = q - 2 → fr_off [(67, 68, 0, 2147483648), (76, 77, 0, 2147483648), (85, 86, 0, 2147483648), (94, 95, 0, 2147483648), (96, 97, 0, 2147483648), (97, 98, 3, 4), (97, 98, 10, 12), (98, 99, 0, 2147483648), (100, 104, 0, 2147483648), (204, 205, 60, 63), (241, 243, 0, 2147483648), (134, 141, 0, 2147483648), (256, 257, 0, 2147483648), (126, 133, 0, 2147483648), (255, 256, 0, 2147483648)] J0 J7 → fr_off [(204, 205, 60, 61), (241, 243, 0, 2147483648), (256, 257, 0, 2147483648)] J J7 → fcM J7 (dbS (ix_u2 D (aF I0 f) (aT I0 f) (D (aF I0 f) (aT I0 f) + duX (bI I0 51 44) (I0 109 f) (aW I0 d tl f) (aP I0 d tl f) (nI (365 * yy)) (aF I0 f) (aT I0 f) (q - 2))) (aF I0 f) (fun k => v (k + 1)) (fun k => thX (bI I0 51 44) (I0 109 f) (aW I0 d tl f) (aP I0 d tl f) (nI (365 * yy)) (aF I0 f) (aT I0 f) (q - 2) (v (k + 1))) j) → W (nI yy) tl (nI f) (aW I0 d tl f) (aP I0 d tl f) (nI (365 * yy)) (nI (j + 1)) I4 J7 T := by
          intro m2
          induction m2 with
          | zero =>
            intro j J7 hj oj8 pj8 c8
            have hj : j = q - 2 := by omega
            subst hj
            apply hW
            unfold wb_X12_account_225_38_59
            rw [r1, m1]
            simp only [nI_1]
            refine ⟨fun z => absurd z (nI_nlt (a := q - 2 + 1) (b := q - 1) (by omega) (by omega)), fun _ => ?_⟩
            refine ih (f + 1) I4 J7 _ (by omega) o5 oj8 pi4 pj8 (acO_s e z y1) ?_
            have := dbU_congr (D := D) (fr := aF I0 f) (to := aT I0 f) (du := duX (bI I0 51 44) (I0 109 f) (aW I0 d tl f) (aP I0 d tl f) (nI (365 * yy)) (aF I0 f) (aT I0 f)) (th := thX (bI I0 51 44) (I0 109 f) (aW I0 d tl f) (aP I0 d tl f) (nI (365 * yy)) (aF I0 f) (aT I0 f)) y4
            unfold aU
            rw [this]
            exact c8
          | succ m2 ih2 =>
            intro j J7 hj oj8 pj8 c8
            have u7 := v7 (j + 1) (by omega)
            have htw7 : tw_ I4 J7 := h.tw o5 oj8 rfl rfl
            have j49 : ix_inb (nI (7 * aF I0 f + v (j + 1))) 49 = true := nI_in2 (by omega) (by decide)
            have i5 : ix_inb (nI (j + 1)) 5 = true := nI_in2 (by omega) (by decide)
            apply hW
            unfold wb_X12_account_225_38_59 wp_X12_pair
            dsimp only
            rw [r1, m1, mq2, f5, nI_clamp (show j + 1 < 2 ^ 31 by omega), fr_rw1 o5 247 rfl, fr_rw1 o5 248 rfl, fr_rw1 o5 249 rfl, a3, a4, a5, r5 (j + 1) (by omega), pr_7n, nI_clamp (show 7 * aF I0 f + v (j + 1) < 2 ^ 31 by omega)]
            refine ⟨fun _ => ⟨i8, i5, j49, i8, i8, i8, i5, fn_ow htw7 hp (Or.inr ⟨nI_nm1 (by omega), rfl, rfl⟩) (fun J9 oj9 => ⟨j49, ?_⟩)⟩, fun z => absurd (nI_lt (by omega) (by omega)) z⟩
            rw [hX, nI_1]
            have c9 : fcM J9 (dbS (ix_u2 D (aF I0 f) (aT I0 f) (D (aF I0 f) (aT I0 f) + duX (bI I0 51 44) (I0 109 f) (aW I0 d tl f) (aP I0 d tl f) (nI (365 * yy)) (aF I0 f) (aT I0 f) (q - 2))) (aF I0 f) (fun k => v (k + 1)) (fun k => thX (bI I0 51 44) (I0 109 f) (aW I0 d tl f) (aP I0 d tl f) (nI (365 * yy)) (aF I0 f) (aT I0 f) (q - 2) (v (k + 1))) j) := by
              unfold fcM
              rw [fr_rw1 oj9 256 rfl]
              exact c8
            have e9 : J7 256 (7 * aF I0 f + v (j + 1)) = J9 256 (7 * aF I0 f + v (j + 1)) := by rw [fr_rw1 oj9 256 rfl]
            rw [e9]
            exact ih2 (j + 1) _ (by omega) (fr_putn rfl (by omega) (fr_trans oj8 (fr_mono (by decide) oj9))) (fr_putn rfl (by omega) (fr_trans pj8 (fr_mono (by decide) oj9))) (fcM_put F7 u7 c9)
        exact key2 (q - 2) 0 _ (by omega) (fr_putn rfl (by omega) oj7) (fr_putn rfl (by omega) pj6) (fcM_put F7 T7 c6)
  exact key n 0 I J mz_ (by omega) o0 oj0 fr_refl fr_refl rfl z0
