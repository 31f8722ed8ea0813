/-! ways: posted abroad -/
noncomputable def bpX (I : Nat → Nat → Int32) (L to : Nat) (s d : Int32) (w p : Int64) (v : Nat) : Option Int64 := @dite _ (∃ R, wzB L v to (rdI I) (FI_ I w) (duX (bI I 51 44) s w p d v to) (thX (bI I 51 44) s w p d v to) (fun _ _ => True) R) (Classical.propDecidable _) (fun h => (Classical.choose h).map (fun r => wzP (FI_ I w) (duX (bI I 51 44) s w p d v to) (thX (bI I 51 44) s w p d v to) r.1 r.2)) (fun _ => none)
theorem bpX_eq {I : Nat → Nat → Int32} {L to : Nat} {s d : Int32} {w p : Int64} {v : Nat} {R : Option (Nat × (Nat → Nat))} (hL : L ≤ 7) (h : wzB L v to (rdI I) (FI_ I w) (duX (bI I 51 44) s w p d v to) (thX (bI I 51 44) s w p d v to) (fun _ _ => True) R) : bpX I L to s d w p v = R.map (fun r => wzP (FI_ I w) (duX (bI I 51 44) s w p d v to) (thX (bI I 51 44) s w p d v to) r.1 r.2) := by
  have ex : ∃ R, wzB L v to (rdI I) (FI_ I w) (duX (bI I 51 44) s w p d v to) (thX (bI I 51 44) s w p d v to) (fun _ _ => True) R := ⟨R, h⟩
  unfold bpX
  rw [dif_pos ex]
  rcases wzB_one hL (Classical.choose_spec ex) h with ⟨e1, e2⟩ | ⟨n, u, u2, e1, e2, -, e3⟩
  · rw [e1, e2]
  · rw [e1, e2]
    exact congrArg some (wzP_congr e3)
def rmS (ok : Nat → Bool) (bp : Nat → Option Int64) (co : Nat → Int64) : Nat → Option (Nat × Int64)
  | 0 => none
  | v + 1 => if ok v then (match bp v with
    | none => rmS ok bp co v
    | some b => (match rmS ok bp co v with
      | none => some (v, b + co v)
      | some r => if (b + co v).toInt < r.2.toInt then some (v, b + co v) else some r)) else rmS ok bp co v
def rmO (I : Nat → Nat → Int32) (fr to v : Nat) : Bool := decide (v ≠ fr ∧ v ≠ to ∧ fwN 7 (mN_ I) fr v ≠ 1000000)
def rmC (I : Nat → Nat → Int32) (w : Int64) (fr v : Nat) : Int64 := w * (nI (fwN 7 (mN_ I) fr v)).toInt64 / 1000
noncomputable def rmR (I : Nat → Nat → Int32) (L fr to : Nat) (s d : Int32) (w p : Int64) : Nat → Option (Nat × Int64) := rmS (rmO I fr to) (bpX I L to s d w p) (rmC I w fr)
theorem rmS_lt {ok : Nat → Bool} {bp : Nat → Option Int64} {co : Nat → Int64} : ∀ {v : Nat} {r : Nat × Int64}, rmS ok bp co v = some r → r.1 < v
  | 0, _, h => by cases h
  | v + 1, r, h => by
    rw [rmS] at h
    by_cases c : ok v = true
    · rw [if_pos c] at h
      cases e : bp v with
      | none =>
        rw [e] at h
        have := rmS_lt (r := r) h
        omega
      | some b =>
        rw [e] at h
        cases e2 : rmS ok bp co v with
        | none =>
          rw [e2] at h
          cases h
          exact Nat.lt_succ_self v
        | some q =>
          rw [e2] at h
          have := rmS_lt e2
          dsimp only at h
          by_cases c2 : (b + co v).toInt < q.2.toInt
          · rw [if_pos c2] at h; cases h; exact Nat.lt_succ_self v
          · rw [if_neg c2] at h; cases h; omega
    · rw [if_neg c] at h
      have := rmS_lt h
      omega
def rmB : Option (Nat × Int64) → Int32
  | none => -1
  | some r => nI r.1
variable {L fr to : Nat} {s d : Int32} {w p : Int64}
theorem fn_rmC {I0 : Nat → Nat → Int32} {J0 : Nat → Nat → Int64} {t0 u0 : Int32} (h : RR I0 J0) (hl : L ≤ 7 ∧ fr < L ∧ to < L ∧ fr ≠ to) (n1 : I0 8 0 = nI L) {I : Nat → Nat → Int32} {J : Nat → Nat → Int64} {T : Option Nat} {P : Int32 → (Nat → Nat → Int32) → (Nat → Nat → Int64) → Option Nat → Prop} (o3 : fr_off [(0, 1, 0, 1), (204, 205, 0, 1), (95, 96, 0, 2147483648), (97, 98, 2, 10), (104, 106, 0, 2147483648), (204, 205, 58, 64), (243, 246, 0, 2147483648)] I0 I) (oj3 : fr_off [(67, 68, 0, 2147483648), (76, 77, 0, 2147483648), (85, 86, 0, 2147483648), (94, 95, 0, 2147483648), (96, 97, 0, 2147483648), (97, 98, 3, 4), (97, 98, 10, 12), (98, 99, 0, 2147483648), (100, 104, 0, 2147483648), (204, 205, 60, 63), (241, 243, 0, 2147483648), (134, 141, 0, 2147483648), (256, 257, 0, 2147483648)] J0 J) (m0 : ml_ I J (nI fr) (nI to) s w p d t0 u0) (hP : ∀ I2 J2, fr_off [(0, 1, 0, 1), (204, 205, 0, 1), (95, 96, 0, 2147483648), (97, 98, 2, 10), (104, 106, 0, 2147483648), (204, 205, 58, 64), (243, 246, 0, 2147483648)] I0 I2 → fr_off [(67, 68, 0, 2147483648), (76, 77, 0, 2147483648), (85, 86, 0, 2147483648), (94, 95, 0, 2147483648), (96, 97, 0, 2147483648), (97, 98, 3, 4), (97, 98, 10, 12), (98, 99, 0, 2147483648), (100, 104, 0, 2147483648), (204, 205, 60, 63), (241, 243, 0, 2147483648), (134, 141, 0, 2147483648), (256, 257, 0, 2147483648)] J0 J2 → (∀ r, rmR I0 L fr to s d w p L = some r → J2 97 11 = r.2) → P (rmB (rmR I0 L fr to s d w p L)) I2 J2 T) : wp_X10_findRemailer I J T P := by
  obtain ⟨l1, l2, l3, l4⟩ := hl
  unfold wp_X10_findRemailer wp_X6_from
  dsimp only
  rw [m0.1]
  intro V hV
  have key : ∀ (m v : Nat) (I1 : Nat → Nat → Int32) (J1 : Nat → Nat → Int64) (x : Int32), v + m = L → fr_off [(0, 1, 0, 1), (204, 205, 0, 1), (95, 96, 0, 2147483648), (97, 98, 2, 10), (104, 106, 0, 2147483648), (204, 205, 58, 64), (243, 246, 0, 2147483648)] I0 I1 → fr_off [(67, 68, 0, 2147483648), (76, 77, 0, 2147483648), (85, 86, 0, 2147483648), (94, 95, 0, 2147483648), (96, 97, 0, 2147483648), (97, 98, 3, 4), (97, 98, 10, 12), (98, 99, 0, 2147483648), (100, 104, 0, 2147483648), (204, 205, 60, 63), (241, 243, 0, 2147483648), (134, 141, 0, 2147483648), (256, 257, 0, 2147483648)] J0 J1 → (∃ t u, ml_ I1 J1 x (nI to) s w p d t u) → (∀ r, rmR I0 L fr to s d w p v = some r → J1 97 11 = r.2) → V (nI fr) (rmB (rmR I0 L fr to s d w p v)) (nI v) I1 J1 T := by
    intro m
    induction m with
    | zero =>
      intro v I1 J1 x hv o oj ml q
      have hv : v = L := by omega
      subst hv
      apply hV
      unfold wb_X10_findRemailer_10_c95 wp_X5_count wp_X6_postIn
      rw [fr_at 8 0 o rfl, n1]
      exact ⟨fun z => absurd z (nI_nlt (Nat.le_refl _) (by omega)), fun _ => hP _ J1 (fr_put rfl o) oj q⟩
    | succ m ih =>
      intro v I1 J1 x hv o oj ml q
      obtain ⟨t, u, ml⟩ := ml
      have vL : v < L := by omega
      have xb := fwN_le (mN_bd h n1 l1) (v := 7) (by omega) (show fr < 7 by omega) (show v < 7 by omega)
      have xe : I1 (29 + fr) v = nI (fwN 7 (mN_ I0) fr v) := by
        rw [fr_row o (a := 29) (b := 36) rfl (show 29 ≤ 29 + fr by omega) (by omega)]
        exact ca_ok h n1 l1 (by omega) (by omega)
      have skip : rmO I0 fr to v = false → V (nI fr) (rmB (rmR I0 L fr to s d w p v)) (nI (v + 1)) I1 J1 T := fun c => by
        have e : rmR I0 L fr to s d w p (v + 1) = rmR I0 L fr to s d w p v := by
          show rmS _ _ _ (v + 1) = _
          rw [rmS, c]
          rfl
        have := ih (v + 1) I1 J1 x (by omega) o oj ⟨t, u, ml⟩ (by rw [e]; exact q)
        rw [e] at this
        exact this
      apply hV
      unfold wb_X10_findRemailer_10_c95 wp_X5_count wp_X6_to wp_X5_isReached wp_X6_postIn wp_X5_carriage
      dsimp only
      rw [fr_at 8 0 o rfl, n1, ml.2.1, re_28 (show fr < 7 by omega), nI_clamp (show v < 2 ^ 31 by omega), xe, nI_eq (show v < 2 ^ 31 by omega) (show fr < 2 ^ 31 by omega), nI_eq (show v < 2 ^ 31 by omega) (show to < 2 ^ 31 by omega)]
      simp only [nI_1]
      have i7 : ix_inb (nI fr) 7 = true := nI_in2 (by omega) (by decide)
      have iv : ix_inb (nI v) 7 = true := nI_in2 (by omega) (by decide)
      refine ⟨fun _ => ⟨fun c => skip (decide_eq_false (fun z => z.1 c)), fun c1 => ⟨fun c => skip (decide_eq_false (fun z => z.2.1 c)), fun c2 => ⟨i7, iv, fun c3 => ?_, fun c3 => ?_⟩⟩⟩, fun z => absurd (nI_lt (by omega) (by omega)) z⟩
      · have c3 : fwN 7 (mN_ I0) fr v < 1000000 := (nI_ltI (a := fwN 7 (mN_ I0) fr v) (b := 1000000) (by omega) (by omega)).mp c3
        have ok : rmO I0 fr to v = true := decide_eq_true ⟨c1, c2, by omega⟩
        refine ⟨fun z => absurd z (show ¬ (1 : Int32) = 0 by decide), fun _ => ?_⟩
        have o4 : fr_off [(0, 1, 0, 1), (204, 205, 0, 1), (95, 96, 0, 2147483648), (97, 98, 2, 10), (104, 106, 0, 2147483648), (204, 205, 58, 64), (243, 246, 0, 2147483648)] I0 (ix_u2 I1 95 0 (nI v)) := fr_put rfl o
        have m4 : ml_ (ix_u2 I1 95 0 (nI v)) J1 (nI v) (nI to) s w p d t u := ⟨u2_s, by rw [u2_j (by decide)]; exact ml.2.1, by rw [u2_j (by decide)]; exact ml.2.2.1, by rw [u2_j (by decide)]; exact ml.2.2.2.1, ml.2.2.2.2⟩
        refine md_fb h ⟨l1, vL, l3, c2⟩ n1 o4 oj m4 (fun I2 J2 R o5 oj5 m5 b5 r5 k5 => ?_)
        have o6 : fr_off [(0, 1, 0, 1), (204, 205, 0, 1), (95, 96, 0, 2147483648), (97, 98, 2, 10), (104, 106, 0, 2147483648), (204, 205, 58, 64), (243, 246, 0, 2147483648)] I0 I2 := fr_trans o4 (fr_mono (by decide) o5)
        have oj6 : fr_off [(67, 68, 0, 2147483648), (76, 77, 0, 2147483648), (85, 86, 0, 2147483648), (94, 95, 0, 2147483648), (96, 97, 0, 2147483648), (97, 98, 3, 4), (97, 98, 10, 12), (98, 99, 0, 2147483648), (100, 104, 0, 2147483648), (204, 205, 60, 63), (241, 243, 0, 2147483648), (134, 141, 0, 2147483648), (256, 257, 0, 2147483648)] J0 J2 := fr_trans oj (fr_mono (by decide) oj5)
        have eb := bpX_eq l1 b5
        have j11 : J2 97 11 = J1 97 11 := by rw [fr_at 97 11 oj5 rfl]
        have er : rmR I0 L fr to s d w p (v + 1) = (match bpX I0 L to s d w p v with
          | none => rmR I0 L fr to s d w p v
          | some b => (match rmR I0 L fr to s d w p v with
            | none => some (v, b + rmC I0 w fr v)
            | some r => if (b + rmC I0 w fr v).toInt < r.2.toInt then some (v, b + rmC I0 w fr v) else some r)) := by
          show rmS _ _ _ (v + 1) = _
          rw [rmS, if_pos ok]
          rfl
        rw [eb] at er
        match R, r5, b5, er with
        | none, r5, b5, er =>
          refine ⟨fun _ => ?_, fun z => absurd rfl z⟩
          have er : rmR I0 L fr to s d w p (v + 1) = rmR I0 L fr to s d w p v := er
          have := ih (v + 1) I2 J2 (nI v) (by omega) o6 oj6 m5 (by rw [er, j11]; exact q)
          rw [er] at this
          exact this
        | some y, r5, b5, er =>
          refine ⟨fun z => absurd z (show ¬ (1 : Int32) = 0 by decide), fun _ => ⟨i7, iv, ?_⟩⟩
          have xe2 : I2 (29 + fr) v = nI (fwN 7 (mN_ I0) fr v) := by
            rw [fr_row o6 (a := 29) (b := 36) rfl (show 29 ≤ 29 + fr by omega) (by omega)]
            exact ca_ok h n1 l1 (by omega) (by omega)
          rw [xe2, r5.2.2.1, k5.2.2.2.2.2.1]
          show (rmB (rmR I0 L fr to s d w p v) = -1 → V (nI fr) (nI v) (nI (v + 1)) I2 (ix_u2 J2 97 11 (wzP (FI_ I0 w) (duX (bI I0 51 44) s w p d v to) (thX (bI I0 51 44) s w p d v to) y.1 y.2 + rmC I0 w fr v)) T) ∧ (¬ rmB (rmR I0 L fr to s d w p v) = -1 → (lg_cmp (wzP (FI_ I0 w) (duX (bI I0 51 44) s w p d v to) (thX (bI I0 51 44) s w p d v to) y.1 y.2 + rmC I0 w fr v) (J2 97 11) < 0 → V (nI fr) (nI v) (nI (v + 1)) I2 (ix_u2 J2 97 11 (wzP (FI_ I0 w) (duX (bI I0 51 44) s w p d v to) (thX (bI I0 51 44) s w p d v to) y.1 y.2 + rmC I0 w fr v)) T) ∧ (¬ lg_cmp (wzP (FI_ I0 w) (duX (bI I0 51 44) s w p d v to) (thX (bI I0 51 44) s w p d v to) y.1 y.2 + rmC I0 w fr v) (J2 97 11) < 0 → V (nI fr) (rmB (rmR I0 L fr to s d w p v)) (nI (v + 1)) I2 J2 T))
          have er : rmR I0 L fr to s d w p (v + 1) = (match rmR I0 L fr to s d w p v with
            | none => some (v, wzP (FI_ I0 w) (duX (bI I0 51 44) s w p d v to) (thX (bI I0 51 44) s w p d v to) y.1 y.2 + rmC I0 w fr v)
            | some r => if (wzP (FI_ I0 w) (duX (bI I0 51 44) s w p d v to) (thX (bI I0 51 44) s w p d v to) y.1 y.2 + rmC I0 w fr v).toInt < r.2.toInt then some (v, wzP (FI_ I0 w) (duX (bI I0 51 44) s w p d v to) (thX (bI I0 51 44) s w p d v to) y.1 y.2 + rmC I0 w fr v) else some r) := er
          generalize wzP (FI_ I0 w) (duX (bI I0 51 44) s w p d v to) (thX (bI I0 51 44) s w p d v to) y.1 y.2 + rmC I0 w fr v = Z at er ⊢
          have tk : rmR I0 L fr to s d w p (v + 1) = some (v, Z) → V (nI fr) (nI v) (nI (v + 1)) I2 (ix_u2 J2 97 11 Z) T := fun e => by
            have m6 : ∃ t u, ml_ I2 (ix_u2 J2 97 11 Z) (nI v) (nI to) s w p d t u := m5
            have := ih (v + 1) I2 (ix_u2 J2 97 11 Z) (nI v) (by omega) o6 (fr_put rfl oj6) m6 (fun r e2 => by rw [e] at e2; cases e2; exact u2_s)
            rw [e] at this
            exact this
          cases e2 : rmR I0 L fr to s d w p v with
          | none =>
            rw [e2] at er
            exact ⟨fun _ => tk er, fun z => absurd rfl z⟩
          | some r =>
            rw [e2] at er
            have rl := rmS_lt e2
            rw [j11, q r e2, lgc_lt, Int64.lt_iff_toInt_lt]
            refine ⟨fun z => absurd z (nI_nm1 (m := r.1) (by omega)), fun _ => ⟨fun c => ?_, fun c => ?_⟩⟩
            · have er : rmR I0 L fr to s d w p (v + 1) = if Z.toInt < r.2.toInt then some (v, Z) else some r := er
              rw [if_pos c] at er
              exact tk er
            · have er : rmR I0 L fr to s d w p (v + 1) = if Z.toInt < r.2.toInt then some (v, Z) else some r := er
              rw [if_neg c] at er
              have := ih (v + 1) I2 J2 (nI v) (by omega) o6 oj6 m5 (fun r' e3 => by rw [er] at e3; cases e3; rw [j11]; exact q r e2)
              rw [er] at this
              exact this
      · have c3 : fwN 7 (mN_ I0) fr v = 1000000 := by
          have : ¬ fwN 7 (mN_ I0) fr v < 1000000 := fun z => c3 (nI_lt (a := fwN 7 (mN_ I0) fr v) (b := 1000000) z (by omega))
          omega
        exact ⟨fun _ => skip (decide_eq_false (fun z => z.2.2 c3)), fun z => absurd trivial z⟩
  exact key L 0 I J (nI fr) (by omega) o3 oj3 ⟨t0, u0, m0⟩ (fun r e => by cases e)
theorem fn_caW {n : Nat} {I J : _} {T : Option Nat} {P : (Nat → Nat → Int32) → (Nat → Nat → Int64) → Option Nat → Prop} {I0 : Nat → Nat → Int32} {J3 : Nat → Nat → Int64} (h : RR I J) (hn : n ≤ 7) (n1 : I 8 0 = nI n) (n2 : I 204 6 = nI n) (o : fr_off [(0, 1, 0, 1), (204, 205, 0, 1), (95, 96, 0, 2147483648), (97, 98, 2, 10), (104, 106, 0, 2147483648), (204, 205, 58, 64), (243, 246, 0, 2147483648)] I I0) (nx : ∀ I2, fr_off [(245, 246, 0, 2147483648)] I0 I2 → (∀ a b, a < n → b < n → I2 245 (7 * a + b) = en_ (fwN 7 (mN_ I) a b)) → P I2 J3 T) : wp_X12_carry I0 J3 T P := by
  refine fn_carry (m0 := mN_ I) hn mN_diag (mN_bd h n1 hn) (by rw [fr_at 204 6 o rfl]; exact n2) (fun a b ha hb => ?_) (fun I2 o2 q => nx I2 o2 (fun a b ha hb => ?_))
  · obtain ⟨d, f, e1, e2, -, -, e3, e4, e5⟩ := rd_ok h n1 hn (show a < 7 by omega) (show b < 7 by omega)
    rw [fr_rw1 o 211 rfl, fr_rw1 o 212 rfl]
    exact ⟨d, f, e1, e2, e3, fun z => (e4 z).1, e5⟩
  · rw [q a b ha hb]
    have := fwN_stop (mN_bd h n1 hn) (mN_far h n1 hn) (7 - n) (by omega) a b ha hb
    rw [show n + (7 - n) = 7 by omega] at this
    rw [this]
theorem fn_rmM {g p : Int32} {I0 : Nat → Nat → Int32} {J0 : Nat → Nat → Int64} (h : RR I0 J0) (hl : L ≤ 7 ∧ fr < L ∧ to < L ∧ fr ≠ to) (hp : ix_nzl p.toInt64 = true) (n1 : I0 8 0 = nI L) (n2 : I0 204 6 = nI L) {I : Nat → Nat → Int32} {J : Nat → Nat → Int64} {T : Option Nat} {P : Int32 → (Nat → Nat → Int32) → (Nat → Nat → Int64) → Option Nat → Prop} (o3 : fr_off [(0, 1, 0, 1), (204, 205, 0, 1), (95, 96, 0, 2147483648), (97, 98, 2, 10), (104, 106, 0, 2147483648), (204, 205, 58, 64), (243, 246, 0, 2147483648)] I0 I) (oj3 : fr_off [(67, 68, 0, 2147483648), (76, 77, 0, 2147483648), (85, 86, 0, 2147483648), (94, 95, 0, 2147483648), (96, 97, 0, 2147483648), (97, 98, 3, 4), (97, 98, 10, 12), (98, 99, 0, 2147483648), (100, 104, 0, 2147483648), (204, 205, 60, 63), (241, 243, 0, 2147483648), (134, 141, 0, 2147483648), (256, 257, 0, 2147483648)] J0 J) (hP : ∀ I2 J2, fr_off [(0, 1, 0, 1), (204, 205, 0, 1), (95, 96, 0, 2147483648), (97, 98, 2, 10), (104, 106, 0, 2147483648), (204, 205, 58, 64), (243, 246, 0, 2147483648)] I0 I2 → fr_off [(67, 68, 0, 2147483648), (76, 77, 0, 2147483648), (85, 86, 0, 2147483648), (94, 95, 0, 2147483648), (96, 97, 0, 2147483648), (97, 98, 3, 4), (97, 98, 10, 12), (98, 99, 0, 2147483648), (100, 104, 0, 2147483648), (204, 205, 60, 63), (241, 243, 0, 2147483648), (134, 141, 0, 2147483648), (256, 257, 0, 2147483648)] J0 J2 → I2 0 0 = I 0 0 → (∀ r, rmR I0 L fr to s d g.toInt64 p.toInt64 L = some r → J2 204 62 = r.2) → I2 204 63 = rmB (rmR I0 L fr to s d g.toInt64 p.toInt64 L) → P (s01_ (rmR I0 L fr to s d g.toInt64 p.toInt64 L).isSome) I2 J2 T) : wp_X12_remails (nI fr) (nI to) s g p d I J T P := by
  obtain ⟨l1, l2, l3, l4⟩ := hl
  unfold wp_X12_remails
  refine fn_caW h l1 n1 n2 o3 (fun I9 o9 q9 => ?_)
  have o10 : fr_off [(0, 1, 0, 1), (204, 205, 0, 1), (95, 96, 0, 2147483648), (97, 98, 2, 10), (104, 106, 0, 2147483648), (204, 205, 58, 64), (243, 246, 0, 2147483648)] I0 I9 := fr_trans o3 (fr_mono (by decide) o9)
  intro V hV
  have key : ∀ (m v : Nat) (I1 : Nat → Nat → Int32) (J1 : Nat → Nat → Int64), v + m = L → fr_off [(0, 1, 0, 1), (204, 205, 0, 1), (95, 96, 0, 2147483648), (97, 98, 2, 10), (104, 106, 0, 2147483648), (204, 205, 58, 64), (243, 246, 0, 2147483648)] I0 I1 → fr_off [(67, 68, 0, 2147483648), (76, 77, 0, 2147483648), (85, 86, 0, 2147483648), (94, 95, 0, 2147483648), (96, 97, 0, 2147483648), (97, 98, 3, 4), (97, 98, 10, 12), (98, 99, 0, 2147483648), (100, 104, 0, 2147483648), (204, 205, 60, 63), (241, 243, 0, 2147483648), (134, 141, 0, 2147483648), (256, 257, 0, 2147483648)] J0 J1 → I1 0 0 = I 0 0 → (∀ a b, a < L → b < L → I1 245 (7 * a + b) = en_ (fwN 7 (mN_ I0) a b)) → (∀ r, rmR I0 L fr to s d g.toInt64 p.toInt64 v = some r → J1 204 62 = r.2) → I1 204 63 = rmB (rmR I0 L fr to s d g.toInt64 p.toInt64 v) → V (nI fr) (nI to) s g p d (nI v) I1 J1 T := by
    intro m
    induction m with
    | zero =>
      intro v I1 J1 hv o oj e0 ca q q2
      have hv : v = L := by omega
      subst hv
      have hp := hP I1 J1 o oj e0 q q2
      apply hV
      unfold wb_X12_remails_12
      rw [fr_at 204 6 o rfl, n2, q2]
      refine ⟨fun z => absurd z (nI_nlt (Nat.le_refl _) (by omega)), fun _ => ?_⟩
      cases e : rmR I0 v fr to s d g.toInt64 p.toInt64 v with
      | none => rw [e] at hp; exact ⟨fun _ => hp, fun z => absurd rfl z⟩
      | some r =>
        rw [e] at hp
        have rl := rmS_lt e
        exact ⟨fun z => absurd z (nI_nm1 (m := r.1) (by omega)), fun _ => hp⟩
    | succ m ih =>
      intro v I1 J1 hv o oj e0 ca q q2
      have vL : v < L := by omega
      have xb := fwN_le (mN_bd h n1 l1) (v := 7) (by omega) (show fr < 7 by omega) (show v < 7 by omega)
      have skip : rmO I0 fr to v = false → V (nI fr) (nI to) s g p d (nI (v + 1)) I1 J1 T := fun c => by
        have e : rmR I0 L fr to s d g.toInt64 p.toInt64 (v + 1) = rmR I0 L fr to s d g.toInt64 p.toInt64 v := by
          show rmS _ _ _ (v + 1) = _
          rw [rmS, c]
          rfl
        exact ih (v + 1) I1 J1 (by omega) o oj e0 ca (by rw [e]; exact q) (by rw [e]; exact q2)
      have i49 : ix_inb (nI (7 * fr + v)) 49 = true := nI_in2 (by omega) (by decide)
      apply hV
      unfold wb_X12_remails_12 wp_X12_pair
      dsimp only
      rw [fr_at 204 6 o rfl, n2, pr_7n, nI_clamp (show 7 * fr + v < 2 ^ 31 by omega), ca fr v l2 vL, en_m1 (by omega), nI_eq (show v < 2 ^ 31 by omega) (show fr < 2 ^ 31 by omega), nI_eq (show v < 2 ^ 31 by omega) (show to < 2 ^ 31 by omega)]
      simp only [nI_1]
      refine ⟨fun _ => ⟨fun c => skip (decide_eq_false (fun z => z.1 c)), fun c1 => ⟨fun c => skip (decide_eq_false (fun z => z.2.1 c)), fun c2 => ⟨i49, fun c3 => skip (decide_eq_false (fun z => z.2.2 c3)), fun c3 => ?_⟩⟩⟩, fun z => absurd (nI_lt (by omega) (by omega)) z⟩
      have ok : rmO I0 fr to v = true := decide_eq_true ⟨c1, c2, c3⟩
      refine fn_fd (md_K h ⟨l1, vL, l3, c2⟩ hp n2 o oj) (fun I2 J2 R o5 oj5 b5 r5 => ?_)
      have o6 : fr_off [(0, 1, 0, 1), (204, 205, 0, 1), (95, 96, 0, 2147483648), (97, 98, 2, 10), (104, 106, 0, 2147483648), (204, 205, 58, 64), (243, 246, 0, 2147483648)] I0 I2 := fr_trans o (fr_mono (by decide) o5)
      have oj6 : fr_off [(67, 68, 0, 2147483648), (76, 77, 0, 2147483648), (85, 86, 0, 2147483648), (94, 95, 0, 2147483648), (96, 97, 0, 2147483648), (97, 98, 3, 4), (97, 98, 10, 12), (98, 99, 0, 2147483648), (100, 104, 0, 2147483648), (204, 205, 60, 63), (241, 243, 0, 2147483648), (134, 141, 0, 2147483648), (256, 257, 0, 2147483648)] J0 J2 := fr_trans oj (fr_mono (by decide) oj5)
      have eb := bpX_eq l1 b5
      have j62 : J2 204 62 = J1 204 62 := by rw [fr_at 204 62 oj5 rfl]
      have i63 : I2 204 63 = I1 204 63 := by rw [fr_at 204 63 o5 rfl]
      have ca2 : ∀ a b, a < L → b < L → I2 245 (7 * a + b) = en_ (fwN 7 (mN_ I0) a b) := by rw [fr_rw1 o5 245 rfl]; exact ca
      have e02 : I2 0 0 = I 0 0 := by rw [fr_at 0 0 o5 rfl]; exact e0
      have er : rmR I0 L fr to s d g.toInt64 p.toInt64 (v + 1) = (match bpX I0 L to s d g.toInt64 p.toInt64 v with
        | none => rmR I0 L fr to s d g.toInt64 p.toInt64 v
        | some b => (match rmR I0 L fr to s d g.toInt64 p.toInt64 v with
          | none => some (v, b + rmC I0 g.toInt64 fr v)
          | some r => if (b + rmC I0 g.toInt64 fr v).toInt < r.2.toInt then some (v, b + rmC I0 g.toInt64 fr v) else some r)) := by
        show rmS _ _ _ (v + 1) = _
        rw [rmS, if_pos ok]
        rfl
      rw [eb] at er
      match R, r5, b5, er with
      | none, r5, b5, er =>
        refine ⟨fun _ => ?_, fun z => absurd rfl z⟩
        have er : rmR I0 L fr to s d g.toInt64 p.toInt64 (v + 1) = rmR I0 L fr to s d g.toInt64 p.toInt64 v := er
        exact ih (v + 1) I2 J2 (by omega) o6 oj6 e02 ca2 (by rw [er, j62]; exact q) (by rw [er, i63]; exact q2)
      | some y, r5, b5, er =>
        refine ⟨fun z => absurd z (show ¬ (1 : Int32) = 0 by decide), fun _ => ⟨i49, ?_⟩⟩
        rw [ca2 fr v l2 vL, en_fin c3, r5.2.2.1, i63, q2, Int64.add_comm]
        show (rmB (rmR I0 L fr to s d g.toInt64 p.toInt64 v) = -1 → V (nI fr) (nI to) s g p d (nI (v + 1)) (ix_u2 I2 204 63 (nI v)) (ix_u2 J2 204 62 (wzP (FI_ I0 g.toInt64) (duX (bI I0 51 44) s g.toInt64 p.toInt64 d v to) (thX (bI I0 51 44) s g.toInt64 p.toInt64 d v to) y.1 y.2 + rmC I0 g.toInt64 fr v)) T) ∧ (¬ rmB (rmR I0 L fr to s d g.toInt64 p.toInt64 v) = -1 → (lg_cmp (wzP (FI_ I0 g.toInt64) (duX (bI I0 51 44) s g.toInt64 p.toInt64 d v to) (thX (bI I0 51 44) s g.toInt64 p.toInt64 d v to) y.1 y.2 + rmC I0 g.toInt64 fr v) (J2 204 62) < 0 → V (nI fr) (nI to) s g p d (nI (v + 1)) (ix_u2 I2 204 63 (nI v)) (ix_u2 J2 204 62 (wzP (FI_ I0 g.toInt64) (duX (bI I0 51 44) s g.toInt64 p.toInt64 d v to) (thX (bI I0 51 44) s g.toInt64 p.toInt64 d v to) y.1 y.2 + rmC I0 g.toInt64 fr v)) T) ∧ (¬ lg_cmp (wzP (FI_ I0 g.toInt64) (duX (bI I0 51 44) s g.toInt64 p.toInt64 d v to) (thX (bI I0 51 44) s g.toInt64 p.toInt64 d v to) y.1 y.2 + rmC I0 g.toInt64 fr v) (J2 204 62) < 0 → V (nI fr) (nI to) s g p d (nI (v + 1)) I2 J2 T))
        have er : rmR I0 L fr to s d g.toInt64 p.toInt64 (v + 1) = (match rmR I0 L fr to s d g.toInt64 p.toInt64 v with
          | none => some (v, wzP (FI_ I0 g.toInt64) (duX (bI I0 51 44) s g.toInt64 p.toInt64 d v to) (thX (bI I0 51 44) s g.toInt64 p.toInt64 d v to) y.1 y.2 + rmC I0 g.toInt64 fr v)
          | some r => if (wzP (FI_ I0 g.toInt64) (duX (bI I0 51 44) s g.toInt64 p.toInt64 d v to) (thX (bI I0 51 44) s g.toInt64 p.toInt64 d v to) y.1 y.2 + rmC I0 g.toInt64 fr v).toInt < r.2.toInt then some (v, wzP (FI_ I0 g.toInt64) (duX (bI I0 51 44) s g.toInt64 p.toInt64 d v to) (thX (bI I0 51 44) s g.toInt64 p.toInt64 d v to) y.1 y.2 + rmC I0 g.toInt64 fr v) else some r) := er
        generalize wzP (FI_ I0 g.toInt64) (duX (bI I0 51 44) s g.toInt64 p.toInt64 d v to) (thX (bI I0 51 44) s g.toInt64 p.toInt64 d v to) y.1 y.2 + rmC I0 g.toInt64 fr v = Z at er ⊢
        have tk : rmR I0 L fr to s d g.toInt64 p.toInt64 (v + 1) = some (v, Z) → V (nI fr) (nI to) s g p d (nI (v + 1)) (ix_u2 I2 204 63 (nI v)) (ix_u2 J2 204 62 Z) T := fun e => by
          refine ih (v + 1) _ _ (by omega) (fr_put rfl o6) (fr_put rfl oj6) (by rw [u2_c (by decide)]; exact e02) (fun a b ha hb => by rw [u2_c (by decide)]; exact ca2 a b ha hb) (fun r e2 => by rw [e] at e2; cases e2; exact u2_s) (by rw [e]; exact u2_s)
        cases e2 : rmR I0 L fr to s d g.toInt64 p.toInt64 v with
        | none =>
          rw [e2] at er
          exact ⟨fun _ => tk er, fun z => absurd rfl z⟩
        | some r =>
          rw [e2] at er
          have rl := rmS_lt e2
          rw [j62, q r e2, lgc_lt, Int64.lt_iff_toInt_lt]
          refine ⟨fun z => absurd z (nI_nm1 (m := r.1) (by omega)), fun _ => ⟨fun c => ?_, fun c => ?_⟩⟩
          · have er : rmR I0 L fr to s d g.toInt64 p.toInt64 (v + 1) = if Z.toInt < r.2.toInt then some (v, Z) else some r := er
            rw [if_pos c] at er
            exact tk er
          · have er : rmR I0 L fr to s d g.toInt64 p.toInt64 (v + 1) = if Z.toInt < r.2.toInt then some (v, Z) else some r := er
            rw [if_neg c] at er
            exact ih (v + 1) I2 J2 (by omega) o6 oj6 e02 ca2 (fun r' e3 => by rw [er] at e3; cases e3; rw [j62]; exact q r e2) (by rw [er, i63, q2, e2])
  refine key L 0 _ J (by omega) (fr_put rfl o10) oj3 ?_ (fun a b ha hb => by rw [u2_c (by decide)]; exact q9 a b ha hb) (fun r e => by cases e) u2_s
  rw [u2_c (by decide), fr_at 0 0 o9 rfl]
