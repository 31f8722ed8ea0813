/-! ways: how the reference tries one -/
section
variable (X : Nat → Nat → Int32) (L fr to : Nat) (s d : Int32) (w p : Int64) (rd : Nat → Nat → Nat) (F : Nat → Nat → Int64) (du : Nat → Int64) (th : Nat → Nat → Int64)
def wmK (I : Nat → Nat → Int32) (J : Nat → Nat → Int64) : Prop := (L ≤ 7 ∧ fr < L ∧ to < L ∧ fr ≠ to) ∧ tw_ I J ∧ bI I 51 44 = X ∧ ix_nzl p = true ∧ I 204 6 = nI L ∧ ∀ a b, a < 7 → b < 7 → rd a b ≤ 60 ∧ I 211 (7 * a + b) = nI (rd a b) ∧ (0 < rd a b → F a b = w * (I 212 (7 * a + b)).toInt64 / 1000)
def wzQ (I : Nat → Nat → Int32) (J : Nat → Nat → Int64) : Option (Nat × (Nat → Nat)) → Prop
  | none => I 204 58 = 0
  | some r => I 204 58 = nI r.1 ∧ I 204 59 = nI (wzD rd r.1 r.2) ∧ J 204 60 = wzP F du th r.1 r.2 ∧ wzV L fr to rd r.1 r.2 ∧ ∀ k, k < r.1 → I 244 k = nI (r.2 k)
end
variable {X : Nat → Nat → Int32} {L fr to : Nat} {s d : Int32} {w p : Int64} {rd : Nat → Nat → Nat} {F : Nat → Nat → Int64}
theorem pr_7n {a b : Nat} : (7 : Int32) * nI a + nI b = nI (7 * a + b) := by
  rw [show (7 : Int32) = nI 7 from rfl, nI_mul, nI_add]
theorem fn_prc {n : Nat} {v : Nat → Nat} {I : Nat → Nat → Int32} {J : Nat → Nat → Int64} {T : Option Nat} {P : Int64 → (Nat → Nat → Int32) → (Nat → Nat → Int64) → Option Nat → Prop} (K : wmK X L fr to w p rd F I J) (hv : wzV L fr to rd n v) (hw : ∀ k, k < n → I 243 k = nI (v k)) (hP : ∀ J2, fr_off [(241, 243, 0, 2147483648)] J J2 → P (wzP F (duX X s w p d fr to) (thX X s w p d fr to) n v) I J2 T) : wp_X12_priceOf (nI n) s w p d I J T P := by
  obtain ⟨⟨l1, l2, l3, l4⟩, htw, hX, hnz, hl, hrd⟩ := K
  have v7 := wzV_7 l1 hv
  obtain ⟨n2, n5, v0, vn, vL, vr, vd⟩ := hv
  have m1 : nI n - 1 = nI (n - 1) := nI_dec (by omega)
  have m2 : nI n - 2 = nI (n - 2) := by rw [show (2 : Int32) = nI 2 from rfl, nI_sub (by omega) (by omega)]
  have i1 : ix_inb (nI (n - 1)) 5 = true := nI_in2 (by omega) (by decide)
  have c1 : (nI (n - 1)).toNatClampNeg = n - 1 := nI_clamp (by omega)
  unfold wp_X12_priceOf
  rw [m1, m2, c1, show ((0 : Int32)).toNatClampNeg = 0 from rfl, hw 0 (by omega), hw (n - 1) (by omega), v0, vn]
  refine ⟨i1, fn_ow htw hnz (Or.inl ⟨rfl, rfl, rfl⟩) (fun J1 o1 => ?_)⟩
  rw [hX]
  intro V hV
  have key : ∀ (m j : Nat) (J2 : Nat → Nat → Int64), j + m = n - 2 → fr_off [(241, 243, 0, 2147483648)] J J2 → V (nI n) s w p d (duX X s w p d fr to (n - 2) + sl_ (fun k => thX X s w p d fr to (n - 2) (v (k + 1))) j) (nI (j + 1)) I J2 T := by
    intro m
    induction m with
    | zero =>
      intro j J2 hj o2
      have hj : j = n - 2 := by omega
      subst hj
      apply hV
      unfold wb_X12_priceOf_33
      rw [m1]
      refine ⟨fun z => absurd z (nI_nlt (a := n - 2 + 1) (b := n - 1) (by omega) (by omega)), fun _ => ?_⟩
      intro W hW
      have key2 : ∀ (m2 i : Nat), i + m2 = n - 1 → W (nI n) w (duX X s w p d fr to (n - 2) + sl_ (fun k => thX X s w p d fr to (n - 2) (v (k + 1))) (n - 2) + sl_ (fun k => F (v k) (v (k + 1))) i) (nI (i + 1)) I J2 T := by
        intro m2
        induction m2 with
        | zero =>
          intro i hi
          have hi : i = n - 1 := by omega
          subst hi
          apply hW
          unfold wb_X12_priceOf_89_33
          have e : duX X s w p d fr to (n - 2) + sl_ (fun k => thX X s w p d fr to (n - 2) (v (k + 1))) (n - 2) + sl_ (fun k => F (v k) (v (k + 1))) (n - 1) = wzP F (duX X s w p d fr to) (thX X s w p d fr to) n v := by
            unfold wzP wzF wzT
            rw [Int64.add_comm (duX X s w p d fr to (n - 2) + sl_ (fun k => thX X s w p d fr to (n - 2) (v (k + 1))) (n - 2)) _, ← Int64.add_assoc]
          rw [e]
          exact ⟨fun z => absurd z (nI_nlt (a := n - 1 + 1) (b := n) (by omega) (by omega)), fun _ => hP J2 o2⟩
        | succ m2 ih2 =>
          intro i hi
          have nxt := ih2 (i + 1) (by omega)
          have a7 := v7 i (by omega)
          have b7 := v7 (i + 1) (by omega)
          have rp := vr i (by omega)
          obtain ⟨r1, r2, r3⟩ := hrd (v i) (v (i + 1)) a7 b7
          apply hW
          unfold wb_X12_priceOf_89_33 wp_X12_pair
          dsimp only
          rw [nI_s1, nI_clamp (show i < 2 ^ 31 by omega), nI_clamp (show i + 1 < 2 ^ 31 by omega), hw i (by omega), hw (i + 1) (by omega), pr_7n, nI_clamp (show 7 * v i + v (i + 1) < 2 ^ 31 by omega), ← r3 rp, nI_1, Int64.add_assoc]
          exact ⟨fun _ => ⟨nI_in2 (by omega) (by decide), nI_in2 (by omega) (by decide), nI_in2 (by omega) (by decide), nxt⟩, fun z => absurd (nI_lt (by omega) (by omega)) z⟩
      have := key2 (n - 1) 0 (by omega)
      rw [sl_, Int64.add_zero] at this
      exact this
    | succ m ih =>
      intro j J2 hj o2
      have htw2 : tw_ I J2 := tw_j htw (fr_rw1 o2 233 rfl)
      apply hV
      unfold wb_X12_priceOf_33
      rw [m1, m2, c1, nI_clamp (show j + 1 < 2 ^ 31 by omega), show ((0 : Int32)).toNatClampNeg = 0 from rfl, hw 0 (by omega), hw (n - 1) (by omega), hw (j + 1) (by omega), v0, vn, nI_1]
      refine ⟨fun _ => ⟨i1, nI_in2 (by omega) (by decide), fn_ow htw2 hnz (Or.inr ⟨nI_nm1 (by have := v7 (j + 1) (by omega); omega), rfl, rfl⟩) (fun J3 o3 => ?_)⟩, fun z => absurd (nI_lt (by omega) (by omega)) z⟩
      rw [hX, Int64.add_assoc]
      exact ih (j + 1) J3 (by omega) (fr_trans o2 o3)
  have := key (n - 2) 0 J1 (by omega) o1
  rw [sl_, Int64.add_zero] at this
  exact this
theorem fn_bef {n : Nat} {v : Nat → Nat} {r : Nat × (Nat → Nat)} (hL : L ≤ 7) {I : Nat → Nat → Int32} {J : Nat → Nat → Int64} {T : Option Nat} {P : Int32 → (Nat → Nat → Int32) → (Nat → Nat → Int64) → Option Nat → Prop} (hv : wzV L fr to rd n v) (hr : wzV L fr to rd r.1 r.2) (hw : ∀ k, k < n → I 243 k = nI (v k)) (e8 : I 204 58 = nI r.1) (hb : ∀ k, k < r.1 → I 244 k = nI (r.2 k)) (h1 : wzC n v < wzC r.1 r.2 → P 1 I J T) (h0 : ¬ wzC n v < wzC r.1 r.2 → P 0 I J T) : wp_X12_isBefore (nI n) I J T P := by
  have v7 := wzV_7 hL hv
  have r7 := wzV_7 hL hr
  have a := wzG_lt v7
  have b := wzG_lt r7
  have a1 := a 1
  have a2 := a 2
  have a3 := a 3
  have a4 := a 4
  have b1 := b 1
  have b2 := b 2
  have b3 := b 3
  have b4 := b 4
  have n5 := hv.2.1
  have m5 := hr.2.1
  have dec : ∀ k, k < n → k < r.1 → (∀ y, y < k → v y = r.2 y) → v k ≠ r.2 k → (wzC n v < wzC r.1 r.2 ↔ v k < r.2 k) := fun k k1 k2 q ne => by
    have gk : wzG n v k = v k + 1 := wzG_pos k1
    have hk : wzG r.1 r.2 k = r.2 k + 1 := wzG_pos k2
    have ge : ∀ y, y < k → wzG n v y = wzG r.1 r.2 y := fun y hy => by rw [wzG_pos (by omega), wzG_pos (by omega), q y hy]
    unfold wzC
    match k, k1, k2, gk, hk, ge, ne with
    | 0, _, _, gk, hk, ge, ne => omega
    | 1, _, _, gk, hk, ge, ne => have g0 := ge 0 (by omega); omega
    | 2, _, _, gk, hk, ge, ne => have g0 := ge 0 (by omega); have g1 := ge 1 (by omega); omega
    | 3, _, _, gk, hk, ge, ne => have g0 := ge 0 (by omega); have g1 := ge 1 (by omega); have g2 := ge 2 (by omega); omega
    | 4, _, _, gk, hk, ge, ne => have g0 := ge 0 (by omega); have g1 := ge 1 (by omega); have g2 := ge 2 (by omega); have g3 := ge 3 (by omega); omega
    | k + 5, k1, _, _, _, _, _ => omega
  have same : ∀ k, (n ≤ k ∨ r.1 ≤ k) → k ≤ n → k ≤ r.1 → (∀ y, y < k → v y = r.2 y) → ¬ wzC n v < wzC r.1 r.2 := fun k kk k1 k2 q => by
    have nm : n = r.1 := by
      have p1 := hv.1
      have p2 := hr.1
      rcases Nat.lt_trichotomy n r.1 with c | c | c
      · exfalso
        have e := q (n - 1) (by omega)
        rw [hv.2.2.2.1] at e
        exact hr.2.2.2.2.2.2 (n - 1) (r.1 - 1) (by omega) (by omega) (by rw [← e, hr.2.2.2.1])
      · exact c
      · exfalso
        have e := q (r.1 - 1) (by omega)
        rw [hr.2.2.2.1] at e
        exact hv.2.2.2.2.2.2 (r.1 - 1) (n - 1) (by omega) (by omega) (by rw [e, hv.2.2.2.1])
    rw [← nm] at k2 ⊢
    rw [wzC_congr (n := n) (w := v) (v := r.2) (fun y hy => q y (by omega))]
    omega
  unfold wp_X12_isBefore
  intro V hV
  have key : ∀ m k : Nat, k + m = n → k ≤ r.1 → (∀ y, y < k → v y = r.2 y) → V (nI n) (nI k) I J T := by
    intro m
    induction m with
    | zero =>
      intro k hk hkr q
      have hk : k = n := by omega
      subst hk
      apply hV
      unfold wb_X12_isBefore_2
      exact ⟨fun z => absurd z (nI_nlt (Nat.le_refl _) (by omega)), fun _ => h0 (same k (Or.inl (Nat.le_refl _)) (Nat.le_refl _) hkr q)⟩
    | succ m ih =>
      intro k hk hkr q
      have ik : ix_inb (nI k) 5 = true := nI_in2 (by omega) (by decide)
      apply hV
      unfold wb_X12_isBefore_2
      rw [e8]
      refine ⟨fun _ => ⟨fun z => ?_, fun z => ?_⟩, fun z => absurd (nI_lt (by omega) (by omega)) z⟩
      · have kr : k < r.1 := (nI_ltI (by omega) (by omega)).mp z
        have x7 := v7 k (by omega)
        have y7 := r7 k kr
        rw [nI_clamp (show k < 2 ^ 31 by omega), hw k (by omega), hb k kr, nI_eq (by omega) (by omega), nI_ltI (by omega) (by omega), nI_1]
        refine ⟨ik, ik, fun c => ih (k + 1) (by omega) (by omega) (fun y hy => ?_), fun c => ⟨ik, ik, fun e => h1 ((dec k (by omega) kr q c).mpr e), fun e => h0 (fun f => e ((dec k (by omega) kr q c).mp f))⟩⟩
        by_cases c2 : y = k
        · subst c2; exact c
        · exact q y (by omega)
      · have kr : ¬ k < r.1 := fun y => z ((nI_ltI (by omega) (by omega)).mpr y)
        exact h0 (same k (Or.inr (by omega)) (by omega) hkr q)
  exact key n 0 (by omega) (by omega) (fun y hy => by omega)
theorem lp_t204 {n : Nat} {v : Nat → Nat} (hn : n ≤ 5) {I : Nat → Nat → Int32} {J : Nat → Nat → Int64} {T : Option Nat} {P : (Nat → Nat → Int32) → (Nat → Nat → Int64) → Option Nat → Prop} {V6 : Int32 → Int32 → Int64 → Int64 → Int32 → Int32 → Int32 → (Nat → Nat → Int32) → (Nat → Nat → Int64) → Option Nat → Prop} {I0 : Nat → Nat → Int32} (o0 : fr_off [(204, 205, 58, 60), (244, 245, 0, 2147483648)] I I0) (hw : ∀ k, k < n → I 243 k = nI (v k)) (nx : ∀ I2, fr_off [(204, 205, 58, 60), (244, 245, 0, 2147483648)] I I2 → I2 204 58 = I0 204 58 → I2 204 59 = I0 204 59 → (∀ k, k < n → I2 244 k = nI (v k)) → P I2 J T) : wl_X12_tries_204_6 (nI n) 0 I0 J T V6 P := by
  intro V hV
  have key : ∀ (m k : Nat) (I1 : Nat → Nat → Int32), k + m = n → fr_off [(204, 205, 58, 60), (244, 245, 0, 2147483648)] I I1 → I1 204 58 = I0 204 58 → I1 204 59 = I0 204 59 → (∀ y, y < k → I1 244 y = nI (v y)) → V (nI n) (nI k) I1 J T := by
    intro m
    induction m with
    | zero =>
      intro k I1 hk o a b q
      have hk : k = n := by omega
      subst hk
      apply hV
      unfold wb_X12_tries_204_6
      exact ⟨fun z => absurd z (nI_nlt (Nat.le_refl _) (by omega)), fun _ => nx I1 o a b q⟩
    | succ m ih =>
      intro k I1 hk o a b q
      have ik : ix_inb (nI k) 5 = true := nI_in2 (by omega) (by decide)
      apply hV
      unfold wb_X12_tries_204_6
      rw [nI_clamp (show k < 2 ^ 31 by omega), fr_rw1 o 243 rfl, hw k (by omega), nI_1]
      refine ⟨fun _ => ⟨ik, ik, ih (k + 1) _ (by omega) (fr_putn rfl (by omega) o) (by rw [u2_c (by decide)]; exact a) (by rw [u2_c (by decide)]; exact b) (fun y hy => ?_)⟩, fun z => absurd (nI_lt (by omega) (by omega)) z⟩
      by_cases c : y = k
      · subst c; exact u2_s
      · rw [u2_j c]; exact q y (by omega)
  exact key n 0 I0 (by omega) o0 rfl rfl (fun y hy => by omega)
theorem fn_try {n : Nat} {v : Nat → Nat} {R : Option (Nat × (Nat → Nat))} (hn2 : 2 ≤ n) (hn : n ≤ 5) {I : Nat → Nat → Int32} {J : Nat → Nat → Int64} {T : Option Nat} {P : (Nat → Nat → Int32) → (Nat → Nat → Int64) → Option Nat → Prop} (K : wmK X L fr to w p rd F I J) (v0 : v 0 = fr) (vn : v (n - 1) = to) (vL : ∀ k, k < n → v k < L) (hw : ∀ k, k < n → I 243 k = nI (v k)) (hR : wzQ L fr to rd F (duX X s w p d fr to) (thX X s w p d fr to) I J R) (h1 : ∀ I2 J2, fr_off [(204, 205, 58, 60), (244, 245, 0, 2147483648)] I I2 → fr_off [(204, 205, 60, 61), (241, 243, 0, 2147483648)] J J2 → wzQ L fr to rd F (duX X s w p d fr to) (thX X s w p d fr to) I2 J2 (some (n, v)) → wzV L fr to rd n v → (∀ r, R = some r → ¬ wzL rd F (duX X s w p d fr to) (thX X s w p d fr to) r.1 r.2 n v) → P I2 J2 T) (h0 : ∀ J2 r, fr_off [(241, 243, 0, 2147483648)] J J2 → R = some r → wzV L fr to rd n v → ¬ wzL rd F (duX X s w p d fr to) (thX X s w p d fr to) n v r.1 r.2 → P I J2 T) (hz : ¬ wzV L fr to rd n v → P I J T) : wp_X12_tries (nI n) s w p d I J T P := by
  have K0 := K
  obtain ⟨⟨l1, l2, l3, l4⟩, htw, hX, hnz, hl, hrd⟩ := K
  have v7 : ∀ k, k < n → v k < 7 := fun k hk => Nat.lt_of_lt_of_le (vL k hk) l1
  have hrd2 : ∀ a b, a < 7 → b < 7 → rd a b ≤ 60 := fun a b ha hb => (hrd a b ha hb).1
  have dl := wzD_le hrd2 hn v7
  unfold wp_X12_tries
  intro V hV
  have key : ∀ m k : Nat, k + m = n → 1 ≤ k → (∀ y, y + 1 < k → 0 < rd (v y) (v (y + 1))) → (∀ i y, i < y → y < k → v i ≠ v y) → V (nI n) s w p d (nI (sN_ (fun y => rd (v y) (v (y + 1))) (k - 1))) (nI k) I J T := by
    intro m
    induction m with
    | zero =>
      intro k hk k1 q1 q2
      have hk : k = n := by omega
      subst hk
      have vv : wzV L fr to rd k v := ⟨hn2, hn, v0, vn, vL, q1, q2⟩
      apply hV
      unfold wb_X12_tries_6
      refine ⟨fun z => absurd z (nI_nlt (Nat.le_refl _) (by omega)), fun _ => fn_prc K0 vv hw (fun J2 o2 => ?_)⟩
      have oo : fr_off [(204, 205, 60, 61), (241, 243, 0, 2147483648)] J J2 := fr_mono (by decide) o2
      show (_ → _) ∧ (_ → _)
      have eD : sN_ (fun y => rd (v y) (v (y + 1))) (k - 1) = wzD rd k v := rfl
      rw [eD]
      have tk : (∀ r, R = some r → ¬ wzL rd F (duX X s w p d fr to) (thX X s w p d fr to) r.1 r.2 k v) → wl_X12_tries_204_6 (nI k) 0 (ix_u2 (ix_u2 I 204 58 (nI k)) 204 59 (nI (wzD rd k v))) (ix_u2 J2 204 60 (wzP F (duX X s w p d fr to) (thX X s w p d fr to) k v)) T V P := fun q => by
        have o9 : fr_off [(204, 205, 58, 60), (244, 245, 0, 2147483648)] I (ix_u2 (ix_u2 I 204 58 (nI k)) 204 59 (nI (wzD rd k v))) := fr_put rfl (fr_put rfl fr_refl)
        refine lp_t204 (v := v) hn o9 hw (fun I2 o3 a b c => ?_)
        exact h1 I2 _ o3 (fr_put rfl oo) ⟨by rw [a, u2_j (by decide)]; exact u2_s, by rw [b]; exact u2_s, u2_s, vv, c⟩ vv q
      rw [lgc_lt, lgc_eq, Int64.lt_iff_toInt_lt, ← Int64.toInt_inj, fr_at 204 60 o2 rfl]
      match R, hR, h0, tk with
      | none, hR, h0, tk =>
        have hR : I 204 58 = 0 := hR
        have tk := tk (fun r e => by cases e)
        rw [hR]
        exact ⟨fun _ => tk, fun z => absurd rfl z⟩
      | some r, hR, h0, tk =>
        obtain ⟨r1, r2, r3, r4, r5⟩ := hR
        have rl := wzD_le hrd2 r4.2.1 (wzV_7 l1 r4)
        have rn := r4.1
        have rm := r4.2.1
        have z0 : nI r.1 = 0 ↔ r.1 = 0 := nI_eq (a := r.1) (b := 0) (by omega) (by omega)
        rw [r1, r2, r3, z0, nI_ltI (by omega) (by omega), nI_eq (a := wzD rd k v) (b := wzD rd r.1 r.2) (by omega) (by omega)]
        refine ⟨fun c => by omega, fun _ => ⟨fun c => tk (fun r' e => ?_), fun c => ⟨fun c2 => ⟨fun c3 => tk (fun r' e => ?_), fun c3 => ⟨fun c4 => ?_, fun c4 => h0 J2 r o2 rfl vv ?_⟩⟩, fun c2 => h0 J2 r o2 rfl vv ?_⟩⟩⟩
        · cases e; unfold wzL; omega
        · cases e; unfold wzL; omega
        · refine fn_bef l1 vv r4 hw r1 r5 (fun c5 => ⟨fun z => absurd z (by decide), fun _ => tk (fun r' e => ?_)⟩) (fun c5 => ⟨fun _ => h0 J2 r o2 rfl vv ?_, fun z => absurd rfl z⟩)
          · cases e; unfold wzL; omega
          · unfold wzL; omega
        · unfold wzL; omega
        · unfold wzL; omega
    | succ m ih =>
      intro k hk k1 q1 q2
      have a7 := v7 (k - 1) (by omega)
      have b7 := v7 k (by omega)
      obtain ⟨r1, r2, r3⟩ := hrd (v (k - 1)) (v k) a7 b7
      have i1 : ix_inb (nI (k - 1)) 5 = true := nI_in2 (by omega) (by decide)
      have ik : ix_inb (nI k) 5 = true := nI_in2 (by omega) (by decide)
      have i49 : ix_inb (nI (7 * v (k - 1) + v k)) 49 = true := nI_in2 (by omega) (by decide)
      apply hV
      unfold wb_X12_tries_6 wp_X12_isRoad wp_X12_pair
      dsimp only
      rw [nI_dec (by omega), nI_clamp (show k - 1 < 2 ^ 31 by omega), nI_clamp (show k < 2 ^ 31 by omega), hw (k - 1) (by omega), hw k (by omega), pr_7n, nI_clamp (show 7 * v (k - 1) + v k < 2 ^ 31 by omega), r2, nI_eq (a := v (k - 1)) (b := v k) (by omega) (by omega)]
      refine ⟨fun _ => ⟨i1, ik, fun c => ⟨fun _ => hz (fun z => z.2.2.2.2.2.2 (k - 1) k (by omega) (by omega) c), fun z => absurd rfl z⟩, fun c => ⟨i49, fun c2 => ⟨fun _ => hz (fun z => ?_), fun z => absurd rfl z⟩, fun c2 => ⟨fun z => absurd z (by decide), fun _ => ?_⟩⟩⟩, fun z => absurd (nI_lt (by omega) (by omega)) z⟩
      · have := z.2.2.2.2.2.1 (k - 1) (by omega)
        rw [show k - 1 + 1 = k by omega] at this
        rw [Int32.le_iff_toInt_le, nI_toInt (by omega)] at c2
        have c2 : ((rd (v (k - 1)) (v k) : Nat) : Int) ≤ 0 := c2
        omega
      · rw [nI_add]
        refine ⟨i1, ik, i49, ?_⟩
        have rp : 0 < rd (v (k - 1)) (v k) := by
          rw [Int32.le_iff_toInt_le, nI_toInt (by omega)] at c2
          have c2 : ¬ ((rd (v (k - 1)) (v k) : Nat) : Int) ≤ 0 := c2
          omega
        have es : sN_ (fun y => rd (v y) (v (y + 1))) (k - 1) + rd (v (k - 1)) (v k) = sN_ (fun y => rd (v y) (v (y + 1))) (k + 1 - 1) := by
          rw [show k + 1 - 1 = (k - 1) + 1 by omega, sN_, show k - 1 + 1 = k by omega]
        rw [es]
        intro W hW
        have key2 : ∀ m2 i : Nat, i + m2 = k → (∀ y, y < i → v y ≠ v k) → W (nI n) s w p d (nI (sN_ (fun y => rd (v y) (v (y + 1))) (k + 1 - 1))) (nI k) (nI i) I J T := by
          intro m2
          induction m2 with
          | zero =>
            intro i hi q
            have hi : i = k := by omega
            subst hi
            apply hW
            unfold wb_X12_tries_68_6
            rw [nI_1]
            refine ⟨fun z => absurd z (nI_nlt (Nat.le_refl _) (by omega)), fun _ => ih (i + 1) (by omega) (by omega) (fun y hy => ?_) (fun a b ab bk => ?_)⟩
            · by_cases c : y + 1 = i
              · rw [c, show y = i - 1 by omega]; exact rp
              · exact q1 y (by omega)
            · by_cases c : b = i
              · subst c; exact q a ab
              · exact q2 a b ab (by omega)
          | succ m2 ih2 =>
            intro i hi q
            have x7 := v7 i (by omega)
            apply hW
            unfold wb_X12_tries_68_6
            rw [nI_clamp (show i < 2 ^ 31 by omega), nI_clamp (show k < 2 ^ 31 by omega), hw i (by omega), hw k (by omega), nI_eq (a := v i) (b := v k) (by omega) (by omega), nI_1, nI_1]
            refine ⟨fun _ => ⟨nI_in2 (by omega) (by decide), ik, fun c => hz (fun z => z.2.2.2.2.2.2 i k (by omega) (by omega) c), fun c => ih2 (i + 1) (by omega) (fun y hy => ?_)⟩, fun z => absurd (nI_lt (by omega) (by omega)) z⟩
            by_cases c2 : y = i
            · subst c2; exact c
            · exact q y (by omega)
        exact key2 k 0 (by omega) (fun y hy => by omega)
  exact key (n - 1) 1 (by omega) (by omega) (fun y hy => by omega) (fun a b ab hb => by omega)
