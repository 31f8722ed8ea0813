/-! ways: the search in memory -/
section
variable (L fr to : Nat) (rd : Nat → Nat → Nat) (F : Nat → Nat → Int64) (du : Nat → Int64) (th : Nat → Nat → Int64)
def wzK (wt : Int64) (I : Nat → Nat → Int32) (J : Nat → Nat → Int64) : Prop := L ≤ 7 ∧ fr < L ∧ to < L ∧ I 8 0 = nI L ∧ I 97 2 = nI to ∧ J 97 3 = wt ∧ (∀ a b, a < 7 → b < 7 → rd a b ≤ 60 ∧ I (13 + a) b = nI (rd a b) ∧ F a b = wt * (I (21 + a) b).toInt64 / 1000) ∧ (∀ m, m < 4 → J 98 m = du m) ∧ ∀ m v, 1 ≤ m → m < 4 → v < L → v ≠ fr → v ≠ to → J (100 + m) v = th m v
def wzR (I : Nat → Nat → Int32) (J : Nat → Nat → Int64) : Option (Nat × (Nat → Nat)) → Prop
  | none => I 97 8 = 0
  | some r => I 97 8 = nI r.1 ∧ I 97 9 = nI (wzD rd r.1 r.2) ∧ J 97 10 = wzP F du th r.1 r.2 ∧ 2 ≤ r.1 ∧ r.1 ≤ 5 ∧ (∀ k, k < r.1 → r.2 k < 7) ∧ ∀ k, k < r.1 → I 105 k = nI (r.2 k)
end
variable {L fr to : Nat} {rd : Nat → Nat → Nat} {F : Nat → Nat → Int64} {du : Nat → Int64} {th : Nat → Nat → Int64} {wt : Int64}
theorem wzK_fr {I I2 : Nat → Nat → Int32} {J J2 : Nat → Nat → Int64} (h : wzK L fr to rd F du th wt I J) (o : fr_off [(97, 98, 8, 10), (104, 106, 0, 2147483648)] I I2) (oj : fr_off [(97, 98, 10, 11)] J J2) : wzK L fr to rd F du th wt I2 J2 := by
  obtain ⟨h1, h2, h3, h4, h5, h6, h7, h8, h9⟩ := h
  refine ⟨h1, h2, h3, by rw [fr_at 8 0 o rfl]; exact h4, by rw [fr_at 97 2 o rfl]; exact h5, by rw [fr_at 97 3 oj rfl]; exact h6, fun a b ha hb => ?_, fun m hm => by rw [fr_rw1 oj 98 rfl]; exact h8 m hm, fun m v m1 m2 v1 v2 v3 => by rw [fr_row oj (a := 100) (b := 104) rfl (show 100 ≤ 100 + m by omega) (by omega)]; exact h9 m v m1 m2 v1 v2 v3⟩
  rw [fr_row o (a := 13) (b := 20) rfl (show 13 ≤ 13 + a by omega) (by omega), fr_row o (a := 21) (b := 28) rfl (show 21 ≤ 21 + a by omega) (by omega)]
  exact h7 a b ha hb
theorem wzD_le (hr : ∀ a b, a < 7 → b < 7 → rd a b ≤ 60) {n : Nat} {w : Nat → Nat} (hn : n ≤ 5) (hw : ∀ k, k < n → w k < 7) : wzD rd n w ≤ 240 := by
  have := sN_le (f := fun k => rd (w k) (w (k + 1))) (B := 60) (n := n - 1) (fun k hk => hr _ _ (hw k (by omega)) (hw (k + 1) (by omega)))
  unfold wzD
  omega
theorem lp_a117 {n : Nat} {w : Nat → Nat} (hn : n ≤ 5) {I : Nat → Nat → Int32} {J : Nat → Nat → Int64} {T : Option Nat} {P : (Nat → Nat → Int32) → (Nat → Nat → Int64) → Option Nat → Prop} {V15 : Int32 → Int32 → Int64 → Int32 → (Nat → Nat → Int32) → (Nat → Nat → Int64) → Option Nat → Prop} {I0 : Nat → Nat → Int32} (o0 : fr_off [(97, 98, 8, 10), (105, 106, 0, 2147483648)] I I0) (e8 : I0 97 8 = nI n) (hw : ∀ k, k < n → I 104 k = nI (w k)) (nx : ∀ I2, fr_off [(97, 98, 8, 10), (105, 106, 0, 2147483648)] I I2 → I2 97 8 = I0 97 8 → I2 97 9 = I0 97 9 → (∀ k, k < n → I2 105 k = nI (w k)) → P I2 J T) : wl_X10_arrive_117_15 (nI n) 0 I0 J T V15 P := by
  intro V hV
  have key : ∀ (m k : Nat) (I1 : Nat → Nat → Int32), k + m = n → fr_off [(97, 98, 8, 10), (105, 106, 0, 2147483648)] I I1 → I1 97 8 = I0 97 8 → I1 97 9 = I0 97 9 → (∀ y, y < k → I1 105 y = nI (w y)) → V (nI n) (nI k) I1 J T := by
    intro m
    induction m with
    | zero =>
      intro k I1 hk o a b q
      have hk : k = n := by omega
      subst hk
      apply hV
      unfold wb_X10_arrive_117_15
      exact ⟨fun z => absurd z (nI_nlt (Nat.le_refl _) (by omega)), fun _ => nx I1 o a b q⟩
    | succ m ih =>
      intro k I1 hk o a b q
      have ik : ix_inb (nI k) 5 = true := nI_in2 (by omega) (by decide)
      apply hV
      unfold wb_X10_arrive_117_15
      rw [nI_clamp (show k < 2 ^ 31 by omega), fr_rw1 o 104 rfl, hw k (by omega), nI_1]
      refine ⟨fun _ => ⟨ik, ik, ih (k + 1) _ (by omega) (fr_putn rfl (by omega) o) (by rw [u2_c (by decide)]; exact a) (by rw [u2_c (by decide)]; exact b) (fun y hy => ?_)⟩, fun z => absurd (nI_lt (by omega) (by omega)) z⟩
      by_cases c : y = k
      · subst c; exact u2_s
      · rw [u2_j c]; exact q y (by omega)
  exact key n 0 I0 (by omega) o0 rfl rfl (fun y hy => by omega)
theorem fn_arr {n : Nat} {w : Nat → Nat} {R : Option (Nat × (Nat → Nat))} {x2 : Int32} {a2 : Int64} (hn2 : 2 ≤ n) (hn : n ≤ 5) {I : Nat → Nat → Int32} {J : Nat → Nat → Int64} {T : Option Nat} {P : (Nat → Nat → Int32) → (Nat → Nat → Int64) → Option Nat → Prop} (K : wzK L fr to rd F du th wt I J) (hw : ∀ k, k < n → I 104 k = nI (w k) ∧ w k < 7) (mid : ∀ k, 1 ≤ k → k + 1 < n → w k < L ∧ w k ≠ fr ∧ w k ≠ to) (hR : wzR rd F du th I J R) (e2 : x2 = nI (wzD rd n w)) (e3 : a2 = wzF F n w) (h1 : ∀ I2 J2, fr_off [(97, 98, 8, 10), (105, 106, 0, 2147483648)] I I2 → fr_off [(97, 98, 10, 11)] J J2 → wzR rd F du th I2 J2 (some (n, w)) → (R = none ∨ ∃ r, R = some r ∧ ((wzP F du th n w).toInt < (wzP F du th r.1 r.2).toInt ∨ ((wzP F du th n w).toInt = (wzP F du th r.1 r.2).toInt ∧ wzD rd n w < wzD rd r.1 r.2))) → P I2 J2 T) (h0 : ∀ r, R = some r → ¬ ((wzP F du th n w).toInt < (wzP F du th r.1 r.2).toInt ∨ ((wzP F du th n w).toInt = (wzP F du th r.1 r.2).toInt ∧ wzD rd n w < wzD rd r.1 r.2)) → P I J T) : wp_X10_arrive (nI n) x2 a2 I J T P := by
  obtain ⟨k1, k2, k3, k4, k5, k6, k7, k8, k9⟩ := K
  have hrd : ∀ a b, a < 7 → b < 7 → rd a b ≤ 60 := fun a b ha hb => (k7 a b ha hb).1
  have m2 : nI n - 2 = nI (n - 2) := by rw [show (2 : Int32) = nI 2 from rfl, nI_sub (by omega) (by omega)]
  have m1 : nI n - 1 = nI (n - 1) := nI_dec (by omega)
  have i4 : ix_inb (nI (n - 2)) 4 = true := nI_in2 (by omega) (by decide)
  have c4 : (nI (n - 2)).toNatClampNeg = n - 2 := nI_clamp (by omega)
  have dl := wzD_le hrd hn (fun k hk => (hw k hk).2)
  subst e2 e3
  unfold wp_X10_arrive
  rw [m2, c4, k8 _ (by omega)]
  refine ⟨i4, ?_⟩
  intro V hV
  have key : ∀ m j : Nat, j + m = n - 2 → V (nI n) (nI (wzD rd n w)) (wzF F n w + du (n - 2) + sl_ (fun k => th (n - 2) (w (k + 1))) j) (nI (j + 1)) I J T := by
    intro m
    induction m with
    | zero =>
      intro j hj
      have hj : j = n - 2 := by omega
      subst hj
      apply hV
      unfold wb_X10_arrive_15
      rw [m1]
      show (_ → _) ∧ (_ → _)
      have eP : wzF F n w + du (n - 2) + sl_ (fun k => th (n - 2) (w (k + 1))) (n - 2) = wzP F du th n w := rfl
      rw [eP]
      refine ⟨fun z => absurd z (nI_nlt (a := n - 2 + 1) (b := n - 1) (by omega) (by omega)), fun _ => ?_⟩
      have tk : (R = none ∨ ∃ r, R = some r ∧ ((wzP F du th n w).toInt < (wzP F du th r.1 r.2).toInt ∨ ((wzP F du th n w).toInt = (wzP F du th r.1 r.2).toInt ∧ wzD rd n w < wzD rd r.1 r.2))) → wl_X10_arrive_117_15 (nI n) 0 (ix_u2 (ix_u2 I 97 8 (nI n)) 97 9 (nI (wzD rd n w))) (ix_u2 J 97 10 (wzP F du th n w)) T V P := fun q => by
        have o9 : fr_off [(97, 98, 8, 10), (105, 106, 0, 2147483648)] I (ix_u2 (ix_u2 I 97 8 (nI n)) 97 9 (nI (wzD rd n w))) := fr_put rfl (fr_put rfl fr_refl)
        refine lp_a117 (w := w) hn o9 (by rw [u2_j (by decide)]; exact u2_s) (fun k hk => (hw k hk).1) (fun I2 o2 a b c => ?_)
        exact h1 I2 _ o2 (fr_put rfl fr_refl) ⟨by rw [a, u2_j (by decide)]; exact u2_s, by rw [b]; exact u2_s, u2_s, hn2, hn, fun k hk => (hw k hk).2, c⟩ q
      rw [lgc_lt, lgc_eq, Int64.lt_iff_toInt_lt, ← Int64.toInt_inj]
      match R, hR, h0, tk with
      | none, hR, h0, tk =>
        have hR : I 97 8 = 0 := hR
        have tk := tk (Or.inl rfl)
        rw [hR]
        have le : (0 : Int32) ≤ 0 := by decide
        exact ⟨fun _ => ⟨fun _ => tk, fun z => absurd le z⟩, fun _ => ⟨fun _ => ⟨fun _ => ⟨fun _ => tk, fun z => absurd le z⟩, fun _ => ⟨fun _ => tk, fun z => absurd le z⟩⟩, fun _ => ⟨fun _ => tk, fun z => absurd le z⟩⟩⟩
      | some r, hR, h0, tk =>
        obtain ⟨r1, r2, r3, r4, r5, r6, -⟩ := hR
        have rl := wzD_le hrd r5 r6
        have np : ¬ nI r.1 ≤ 0 := fun z => by
          rw [Int32.le_iff_toInt_le, nI_toInt (by omega)] at z
          have z : (r.1 : Int) ≤ 0 := z
          omega
        rw [r1, r2, r3, nI_ltI (by omega) (by omega)]
        refine ⟨fun c => ?_, fun c => ⟨fun d => ⟨fun e => ?_, fun e => ?_⟩, fun d => ?_⟩⟩
        · have tk := tk (Or.inr ⟨r, rfl, Or.inl c⟩)
          exact ⟨fun _ => tk, fun _ => tk⟩
        · have tk := tk (Or.inr ⟨r, rfl, Or.inr ⟨d, e⟩⟩)
          exact ⟨fun _ => tk, fun _ => tk⟩
        · exact ⟨fun z => absurd z np, fun _ => h0 r rfl (by omega)⟩
        · exact ⟨fun z => absurd z np, fun _ => h0 r rfl (by omega)⟩
    | succ m ih =>
      intro j hj
      have nxt := ih (j + 1) (by omega)
      obtain ⟨w1, w2⟩ := hw (j + 1) (by omega)
      obtain ⟨q1, q2, q3⟩ := mid (j + 1) (by omega) (by omega)
      apply hV
      unfold wb_X10_arrive_15
      rw [m1, m2, nI_clamp (show j + 1 < 2 ^ 31 by omega), w1, nI_clamp (show w (j + 1) < 2 ^ 31 by omega), re_99 (by omega), k9 (n - 2) (w (j + 1)) (by omega) (by omega) q1 q2 q3, nI_1, Int64.add_assoc]
      exact ⟨fun _ => ⟨i4, nI_in2 (by omega) (by decide), nI_in2 w2 (by decide), nxt⟩, fun z => absurd (nI_lt (by omega) (by omega)) z⟩
  have := key (n - 2) 0 (by omega)
  rw [sl_, Int64.add_zero] at this
  exact this
theorem fn_onp {n x : Nat} {w : Nat → Nat} (hn : n ≤ 5) (hx : x < 7) {I : Nat → Nat → Int32} {J : Nat → Nat → Int64} {T : Option Nat} {P : Int32 → (Nat → Nat → Int32) → (Nat → Nat → Int64) → Option Nat → Prop} (hw : ∀ k, k < n → I 104 k = nI (w k) ∧ w k < 7) (h1 : (∃ k, k < n ∧ w k = x) → P 1 I J T) (h0 : (∀ k, k < n → w k ≠ x) → P 0 I J T) : wp_X10_isOnPath (nI x) (nI n) I J T P := by
  unfold wp_X10_isOnPath
  intro V hV
  have key : ∀ m k : Nat, k + m = n → (∀ y, y < k → w y ≠ x) → V (nI x) (nI n) (nI k) I J T := by
    intro m
    induction m with
    | zero =>
      intro k hk q
      have hk : k = n := by omega
      subst hk
      apply hV
      unfold wb_X10_isOnPath_2
      exact ⟨fun z => absurd z (nI_nlt (Nat.le_refl _) (by omega)), fun _ => h0 q⟩
    | succ m ih =>
      intro k hk q
      obtain ⟨w1, w2⟩ := hw k (by omega)
      apply hV
      unfold wb_X10_isOnPath_2
      rw [nI_clamp (show k < 2 ^ 31 by omega), w1, nI_1]
      refine ⟨fun _ => ⟨nI_in2 (by omega) (by decide), fun z => h1 ⟨k, by omega, (nI_eq (by omega) (by omega)).mp z⟩, fun z => ih (k + 1) (by omega) (fun y hy => ?_)⟩, fun z => absurd (nI_lt (by omega) (by omega)) z⟩
      by_cases c : y = k
      · subst c; exact fun e => z (by rw [e])
      · exact q y (by omega)
  exact key n 0 (by omega) (fun y hy => by omega)
theorem fn_hr {a b : Nat} (ha : a < 7) (hb : b < 7) {I : Nat → Nat → Int32} {J : Nat → Nat → Int64} {T : Option Nat} {P : Int32 → (Nat → Nat → Int32) → (Nat → Nat → Int64) → Option Nat → Prop} (K : wzK L fr to rd F du th wt I J) (h1 : 0 < rd a b → P 1 I J T) (h0 : ¬ 0 < rd a b → P 0 I J T) : wp_X5_hasRoad (nI a) (nI b) I J T P := by
  obtain ⟨q1, q2, q3⟩ := K.2.2.2.2.2.2.1 a b ha hb
  unfold wp_X5_hasRoad
  rw [re_12 ha, nI_clamp (show b < 2 ^ 31 by omega), q2]
  have e : nI (rd a b) ≤ 0 ↔ ¬ 0 < rd a b := by
    rw [Int32.le_iff_toInt_le, nI_toInt (by omega)]
    show ((rd a b : Nat) : Int) ≤ 0 ↔ _
    omega
  rw [e]
  exact ⟨nI_in2 ha (by decide), nI_in2 hb (by decide), h0, fun z => h1 (Nat.lt_of_not_le (fun y => z (Nat.not_lt.mpr y)))⟩
theorem wzF_x {w : Nat → Nat} {n x : Nat} (hn : 1 ≤ n) : wzF F (n + 1) (wzx w n x) = wzF F n w + F (w (n - 1)) x := by
  unfold wzF
  rw [show n + 1 - 1 = (n - 1) + 1 by omega, sl_, show n - 1 + 1 = n by omega, wzx_e, wzx_l (by omega)]
  congr 1
  exact sl_congr (fun k hk => by rw [wzx_l (by omega), wzx_l (by omega)])
theorem wzD_x {w : Nat → Nat} {n x : Nat} (hn : 1 ≤ n) : wzD rd (n + 1) (wzx w n x) = wzD rd n w + rd (w (n - 1)) x := by
  unfold wzD
  rw [show n + 1 - 1 = (n - 1) + 1 by omega, sN_, show n - 1 + 1 = n by omega, wzx_e, wzx_l (by omega)]
  congr 1
  exact sN_congr (fun k hk => by rw [wzx_l (by omega), wzx_l (by omega)])
theorem fn_ex4 {w : Nat → Nat} {R : Option (Nat × (Nat → Nat))} {x2 : Int32} {x3 : Int64} {I : Nat → Nat → Int32} {J : Nat → Nat → Int64} {T : Option Nat} {P : (Nat → Nat → Int32) → (Nat → Nat → Int64) → Option Nat → Prop} (K : wzK L fr to rd F du th wt I J) (pv : wzp L fr to rd 4 w) {I0 : Nat → Nat → Int32} {J0 : Nat → Nat → Int64} (o0 : fr_off [(97, 98, 8, 10), (104, 106, 0, 2147483648)] I I0) (oj0 : fr_off [(97, 98, 10, 11)] J J0) (hw0 : ∀ k, k < 4 → I0 104 k = nI (w k)) (e2 : x2 = nI (wzD rd 4 w)) (e3 : x3 = wzF F 4 w) (hB : wzB L fr to rd F du th (fun n v => wzC n v < wzb4 w 0) R) (hR : wzR rd F du th I0 J0 R) (nx : ∀ I2 J2 R2, fr_off [(97, 98, 8, 10), (104, 106, 0, 2147483648)] I I2 → fr_off [(97, 98, 10, 11)] J J2 → (∀ k, k < 4 → I2 104 k = nI (w k)) → wzB L fr to rd F du th (fun n v => wzC n v < wzb4 w L) R2 → wzR rd F du th I2 J2 R2 → P I2 J2 T) : wp_X10_extend_l3 (nI 4) x2 x3 I0 J0 T P := by
  obtain ⟨k1, k2, k3, k4, k5, k6, k7, k8, k9⟩ := K
  have K : wzK L fr to rd F du th wt I J := ⟨k1, k2, k3, k4, k5, k6, k7, k8, k9⟩
  have w7 : ∀ k, k < 4 → w k < 7 := fun k hk => Nat.lt_of_lt_of_le (pv.2.1 k hk).1 k1
  have hrd : ∀ a b, a < 7 → b < 7 → rd a b ≤ 60 := fun a b ha hb => (k7 a b ha hb).1
  have wm : w 3 < 7 := w7 3 (by omega)
  unfold wp_X10_extend_l3
  refine ⟨fun z => absurd z (by decide), fun _ => ⟨fun _ => ⟨by decide, ?_⟩, fun z => absurd (by decide) z⟩⟩
  rw [show (nI 4 - 1).toNatClampNeg = 3 from rfl, hw0 3 (by omega)]
  intro V hV
  have key : ∀ (m x : Nat) (I1 : Nat → Nat → Int32) (J1 : Nat → Nat → Int64) (R1 : Option (Nat × (Nat → Nat))), x + m = L → fr_off [(97, 98, 8, 10), (104, 106, 0, 2147483648)] I I1 → fr_off [(97, 98, 10, 11)] J J1 → (∀ k, k < 4 → I1 104 k = nI (w k)) → wzB L fr to rd F du th (fun n v => wzC n v < wzb4 w x) R1 → wzR rd F du th I1 J1 R1 → V (nI 4) x2 x3 (nI (w 3)) (nI x) I1 J1 T := by
    intro m
    induction m with
    | zero =>
      intro x I1 J1 R1 hx o oj hw b r
      have hx : x = L := by omega
      subst hx
      apply hV
      unfold wb_X10_extend_l3_24 wp_X5_count
      rw [fr_at 8 0 o rfl, k4]
      exact ⟨fun z => absurd z (nI_nlt (Nat.le_refl _) (by omega)), fun _ => nx I1 J1 R1 o oj hw b r⟩
    | succ m ih =>
      intro x I1 J1 R1 hx o oj hw b r
      have hxL : x < L := by omega
      have x7 : x < 7 := by omega
      have K1 := wzK_fr K o oj
      obtain ⟨q1, q2, q3⟩ := K1.2.2.2.2.2.2.1 (w 3) x wm x7
      have x5 : (nI x).toNatClampNeg = x := nI_clamp (by omega)
      apply hV
      unfold wb_X10_extend_l3_24 wp_X5_count
      rw [fr_at 8 0 o rfl, k4]
      refine ⟨fun _ => ?_, fun z => absurd (nI_lt (by omega) (by omega)) z⟩
      simp only [nI_1]
      refine fn_hr wm x7 K1 (fun rp => ⟨fun z => absurd z (by decide), fun _ => ?_⟩) (fun rn => ⟨fun _ => ih (x + 1) I1 J1 R1 (by omega) o oj hw (wzs_4 k1 pv hxL b (Or.inl rn)) r, fun z => absurd rfl z⟩)
      refine fn_onp (by omega) x7 (fun k hk => ⟨hw k hk, w7 k hk⟩) (fun on => ⟨fun z => absurd z (by decide), fun _ => ih (x + 1) I1 J1 R1 (by omega) o oj hw (wzs_4 k1 pv hxL b (Or.inr on)) r⟩) (fun off => ⟨fun _ => ?_, fun z => absurd rfl z⟩)
      unfold wp_X5_daysOf wp_X5_freightOf
      rw [re_12 wm, re_20 wm, x5, show (nI 4).toNatClampNeg = 4 from rfl]
      have i7 := nI_in2 wm (by decide)
      have ix := nI_in2 x7 (by decide)
      refine ⟨i7, ix, i7, ix, by decide, ?_⟩
      have k5' : I1 97 2 = nI to := by rw [fr_at 97 2 o rfl]; exact k5
      have k6' : J1 97 3 = wt := by rw [fr_at 97 3 oj rfl]; exact k6
      rw [k5', k6', q2, ← q3, nI_eq (by omega) (by omega), e2, e3, nI_add, ← wzD_x (by omega), ← wzF_x (by omega)]
      have ow : fr_off [(97, 98, 8, 10), (104, 106, 0, 2147483648)] I (ix_u2 I1 104 4 (nI x)) := fr_put rfl o
      have hw2 : ∀ k, k < 5 → ix_u2 I1 104 4 (nI x) 104 k = nI (wzx w 4 x k) := fun k hk => by
        by_cases c : k = 4
        · subst c; rw [wzx_e]; exact u2_s
        · rw [u2_j c, wzx_l (by omega)]; exact hw k (by omega)
      have r2 : wzR rd F du th (ix_u2 I1 104 4 (nI x)) J1 R1 := by
        match R1, r with
        | none, r => exact r
        | some s, r => exact r
      rw [e2, e3] at ih
      refine ⟨fun t => ?_, fun t => ?_⟩
      · have vv := wzV_x (by omega) (by omega) pv hxL rp off t
        refine fn_arr (n := 5) (w := wzx w 4 x) (by omega) (by omega) (wzK_fr K ow oj) (fun k hk => ⟨hw2 k hk, wzV_7 k1 vv k hk⟩) (fun k a c => ?_) r2 rfl rfl (fun I2 J2 o2 oj2 r3 bt => ?_) (fun s es nb => ?_)
        · rw [wzx_l (by omega)]
          have := pv.2.2.2 0 k (by omega) (by omega)
          rw [pv.1] at this
          exact ⟨(pv.2.1 k (by omega)).1, fun e => this e.symm, (pv.2.1 k (by omega)).2⟩
        · refine ih (x + 1) I2 J2 _ (by omega) (fr_trans ow (fr_mono (by decide) o2)) (fr_trans oj oj2) (fun k hk => ?_) (wzn_4 k1 pv hxL rp off t b bt) r3
          rw [fr_rw1 o2 104 rfl, hw2 k (by omega), wzx_l hk]
        · subst es
          refine ih (x + 1) _ J1 _ (by omega) ow oj (fun k hk => ?_) (wzo_4 k1 pv hxL t b nb) r2
          rw [hw2 k (by omega), wzx_l hk]
      · unfold wp_X10_extend_l2
        refine ⟨fun z => absurd z (by decide), fun _ => ⟨fun z => absurd z (by decide), fun _ => ?_⟩⟩
        refine ih (x + 1) _ J1 _ (by omega) ow oj (fun k hk => ?_) (wzi_4 k1 pv hxL t b) r2
        rw [hw2 k (by omega), wzx_l hk]
  exact key L 0 I0 J0 R (by omega) o0 oj0 hw0 hB hR
theorem fn_ex3 {w : Nat → Nat} {R : Option (Nat × (Nat → Nat))} {x2 : Int32} {x3 : Int64} {I : Nat → Nat → Int32} {J : Nat → Nat → Int64} {T : Option Nat} {P : (Nat → Nat → Int32) → (Nat → Nat → Int64) → Option Nat → Prop} (K : wzK L fr to rd F du th wt I J) (pv : wzp L fr to rd 3 w) {I0 : Nat → Nat → Int32} {J0 : Nat → Nat → Int64} (o0 : fr_off [(97, 98, 8, 10), (104, 106, 0, 2147483648)] I I0) (oj0 : fr_off [(97, 98, 10, 11)] J J0) (hw0 : ∀ k, k < 3 → I0 104 k = nI (w k)) (e2 : x2 = nI (wzD rd 3 w)) (e3 : x3 = wzF F 3 w) (hB : wzB L fr to rd F du th (fun n v => wzC n v < wzb3 w 0) R) (hR : wzR rd F du th I0 J0 R) (nx : ∀ I2 J2 R2, fr_off [(97, 98, 8, 10), (104, 106, 0, 2147483648)] I I2 → fr_off [(97, 98, 10, 11)] J J2 → (∀ k, k < 3 → I2 104 k = nI (w k)) → wzB L fr to rd F du th (fun n v => wzC n v < wzb3 w L) R2 → wzR rd F du th I2 J2 R2 → P I2 J2 T) : wp_X10_extend_l4 (nI 3) x2 x3 I0 J0 T P := by
  obtain ⟨k1, k2, k3, k4, k5, k6, k7, k8, k9⟩ := K
  have K : wzK L fr to rd F du th wt I J := ⟨k1, k2, k3, k4, k5, k6, k7, k8, k9⟩
  have w7 : ∀ k, k < 3 → w k < 7 := fun k hk => Nat.lt_of_lt_of_le (pv.2.1 k hk).1 k1
  have hrd : ∀ a b, a < 7 → b < 7 → rd a b ≤ 60 := fun a b ha hb => (k7 a b ha hb).1
  have wm : w 2 < 7 := w7 2 (by omega)
  unfold wp_X10_extend_l4
  refine ⟨fun z => absurd z (by decide), fun _ => ⟨fun _ => ⟨by decide, ?_⟩, fun z => absurd (by decide) z⟩⟩
  rw [show (nI 3 - 1).toNatClampNeg = 2 from rfl, hw0 2 (by omega)]
  intro V hV
  have key : ∀ (m x : Nat) (I1 : Nat → Nat → Int32) (J1 : Nat → Nat → Int64) (R1 : Option (Nat × (Nat → Nat))), x + m = L → fr_off [(97, 98, 8, 10), (104, 106, 0, 2147483648)] I I1 → fr_off [(97, 98, 10, 11)] J J1 → (∀ k, k < 3 → I1 104 k = nI (w k)) → wzB L fr to rd F du th (fun n v => wzC n v < wzb3 w x) R1 → wzR rd F du th I1 J1 R1 → V (nI 3) x2 x3 (nI (w 2)) (nI x) I1 J1 T := by
    intro m
    induction m with
    | zero =>
      intro x I1 J1 R1 hx o oj hw b r
      have hx : x = L := by omega
      subst hx
      apply hV
      unfold wb_X10_extend_l4_24 wp_X5_count
      rw [fr_at 8 0 o rfl, k4]
      exact ⟨fun z => absurd z (nI_nlt (Nat.le_refl _) (by omega)), fun _ => nx I1 J1 R1 o oj hw b r⟩
    | succ m ih =>
      intro x I1 J1 R1 hx o oj hw b r
      have hxL : x < L := by omega
      have x7 : x < 7 := by omega
      have K1 := wzK_fr K o oj
      obtain ⟨q1, q2, q3⟩ := K1.2.2.2.2.2.2.1 (w 2) x wm x7
      have x5 : (nI x).toNatClampNeg = x := nI_clamp (by omega)
      apply hV
      unfold wb_X10_extend_l4_24 wp_X5_count
      rw [fr_at 8 0 o rfl, k4]
      refine ⟨fun _ => ?_, fun z => absurd (nI_lt (by omega) (by omega)) z⟩
      simp only [nI_1]
      refine fn_hr wm x7 K1 (fun rp => ⟨fun z => absurd z (by decide), fun _ => ?_⟩) (fun rn => ⟨fun _ => ih (x + 1) I1 J1 R1 (by omega) o oj hw (wzs_3 k1 pv hxL b (Or.inl rn)) r, fun z => absurd rfl z⟩)
      refine fn_onp (by omega) x7 (fun k hk => ⟨hw k hk, w7 k hk⟩) (fun on => ⟨fun z => absurd z (by decide), fun _ => ih (x + 1) I1 J1 R1 (by omega) o oj hw (wzs_3 k1 pv hxL b (Or.inr on)) r⟩) (fun off => ⟨fun _ => ?_, fun z => absurd rfl z⟩)
      unfold wp_X5_daysOf wp_X5_freightOf
      rw [re_12 wm, re_20 wm, x5, show (nI 3).toNatClampNeg = 3 from rfl]
      have i7 := nI_in2 wm (by decide)
      have ix := nI_in2 x7 (by decide)
      refine ⟨i7, ix, i7, ix, by decide, ?_⟩
      have k5' : I1 97 2 = nI to := by rw [fr_at 97 2 o rfl]; exact k5
      have k6' : J1 97 3 = wt := by rw [fr_at 97 3 oj rfl]; exact k6
      rw [k5', k6', q2, ← q3, nI_eq (by omega) (by omega), e2, e3, nI_add, ← wzD_x (by omega), ← wzF_x (by omega)]
      have ow : fr_off [(97, 98, 8, 10), (104, 106, 0, 2147483648)] I (ix_u2 I1 104 3 (nI x)) := fr_put rfl o
      have hw2 : ∀ k, k < 4 → ix_u2 I1 104 3 (nI x) 104 k = nI (wzx w 3 x k) := fun k hk => by
        by_cases c : k = 3
        · subst c; rw [wzx_e]; exact u2_s
        · rw [u2_j c, wzx_l (by omega)]; exact hw k (by omega)
      have r2 : wzR rd F du th (ix_u2 I1 104 3 (nI x)) J1 R1 := by
        match R1, r with
        | none, r => exact r
        | some s, r => exact r
      rw [e2, e3] at ih
      refine ⟨fun t => ?_, fun t => ?_⟩
      · have vv := wzV_x (by omega) (by omega) pv hxL rp off t
        refine fn_arr (n := 4) (w := wzx w 3 x) (by omega) (by omega) (wzK_fr K ow oj) (fun k hk => ⟨hw2 k hk, wzV_7 k1 vv k hk⟩) (fun k a c => ?_) r2 rfl rfl (fun I2 J2 o2 oj2 r3 bt => ?_) (fun s es nb => ?_)
        · rw [wzx_l (by omega)]
          have := pv.2.2.2 0 k (by omega) (by omega)
          rw [pv.1] at this
          exact ⟨(pv.2.1 k (by omega)).1, fun e => this e.symm, (pv.2.1 k (by omega)).2⟩
        · refine ih (x + 1) I2 J2 _ (by omega) (fr_trans ow (fr_mono (by decide) o2)) (fr_trans oj oj2) (fun k hk => ?_) (wzn_3 k1 pv hxL rp off t b bt) r3
          rw [fr_rw1 o2 104 rfl, hw2 k (by omega), wzx_l hk]
        · subst es
          refine ih (x + 1) _ J1 _ (by omega) ow oj (fun k hk => ?_) (wzo_3 k1 pv hxL t b nb) r2
          rw [hw2 k (by omega), wzx_l hk]
      · refine fn_ex4 (R := R1) (w := wzx w 3 x) K (wzp_x (by omega) pv hxL rp off t) ow oj hw2 rfl rfl (wzi_3 k1 pv hxL t b) r2 (fun I2 J2 R2 o2 oj2 w2 b2 r3 => ?_)
        refine ih (x + 1) I2 J2 R2 (by omega) o2 oj2 (fun k hk => ?_) (wzr_3 k1 pv hxL b2) r3
        rw [w2 k (by omega), wzx_l hk]
  exact key L 0 I0 J0 R (by omega) o0 oj0 hw0 hB hR
theorem fn_ex2 {w : Nat → Nat} {R : Option (Nat × (Nat → Nat))} {x2 : Int32} {x3 : Int64} {I : Nat → Nat → Int32} {J : Nat → Nat → Int64} {T : Option Nat} {P : (Nat → Nat → Int32) → (Nat → Nat → Int64) → Option Nat → Prop} (K : wzK L fr to rd F du th wt I J) (pv : wzp L fr to rd 2 w) {I0 : Nat → Nat → Int32} {J0 : Nat → Nat → Int64} (o0 : fr_off [(97, 98, 8, 10), (104, 106, 0, 2147483648)] I I0) (oj0 : fr_off [(97, 98, 10, 11)] J J0) (hw0 : ∀ k, k < 2 → I0 104 k = nI (w k)) (e2 : x2 = nI (wzD rd 2 w)) (e3 : x3 = wzF F 2 w) (hB : wzB L fr to rd F du th (fun n v => wzC n v < wzb2 w 0) R) (hR : wzR rd F du th I0 J0 R) (nx : ∀ I2 J2 R2, fr_off [(97, 98, 8, 10), (104, 106, 0, 2147483648)] I I2 → fr_off [(97, 98, 10, 11)] J J2 → (∀ k, k < 2 → I2 104 k = nI (w k)) → wzB L fr to rd F du th (fun n v => wzC n v < wzb2 w L) R2 → wzR rd F du th I2 J2 R2 → P I2 J2 T) : wp_X10_extend_l5 (nI 2) x2 x3 I0 J0 T P := by
  obtain ⟨k1, k2, k3, k4, k5, k6, k7, k8, k9⟩ := K
  have K : wzK L fr to rd F du th wt I J := ⟨k1, k2, k3, k4, k5, k6, k7, k8, k9⟩
  have w7 : ∀ k, k < 2 → w k < 7 := fun k hk => Nat.lt_of_lt_of_le (pv.2.1 k hk).1 k1
  have hrd : ∀ a b, a < 7 → b < 7 → rd a b ≤ 60 := fun a b ha hb => (k7 a b ha hb).1
  have wm : w 1 < 7 := w7 1 (by omega)
  unfold wp_X10_extend_l5
  refine ⟨fun z => absurd z (by decide), fun _ => ⟨fun _ => ⟨by decide, ?_⟩, fun z => absurd (by decide) z⟩⟩
  rw [show (nI 2 - 1).toNatClampNeg = 1 from rfl, hw0 1 (by omega)]
  intro V hV
  have key : ∀ (m x : Nat) (I1 : Nat → Nat → Int32) (J1 : Nat → Nat → Int64) (R1 : Option (Nat × (Nat → Nat))), x + m = L → fr_off [(97, 98, 8, 10), (104, 106, 0, 2147483648)] I I1 → fr_off [(97, 98, 10, 11)] J J1 → (∀ k, k < 2 → I1 104 k = nI (w k)) → wzB L fr to rd F du th (fun n v => wzC n v < wzb2 w x) R1 → wzR rd F du th I1 J1 R1 → V (nI 2) x2 x3 (nI (w 1)) (nI x) I1 J1 T := by
    intro m
    induction m with
    | zero =>
      intro x I1 J1 R1 hx o oj hw b r
      have hx : x = L := by omega
      subst hx
      apply hV
      unfold wb_X10_extend_l5_24 wp_X5_count
      rw [fr_at 8 0 o rfl, k4]
      exact ⟨fun z => absurd z (nI_nlt (Nat.le_refl _) (by omega)), fun _ => nx I1 J1 R1 o oj hw b r⟩
    | succ m ih =>
      intro x I1 J1 R1 hx o oj hw b r
      have hxL : x < L := by omega
      have x7 : x < 7 := by omega
      have K1 := wzK_fr K o oj
      obtain ⟨q1, q2, q3⟩ := K1.2.2.2.2.2.2.1 (w 1) x wm x7
      have x5 : (nI x).toNatClampNeg = x := nI_clamp (by omega)
      apply hV
      unfold wb_X10_extend_l5_24 wp_X5_count
      rw [fr_at 8 0 o rfl, k4]
      refine ⟨fun _ => ?_, fun z => absurd (nI_lt (by omega) (by omega)) z⟩
      simp only [nI_1]
      refine fn_hr wm x7 K1 (fun rp => ⟨fun z => absurd z (by decide), fun _ => ?_⟩) (fun rn => ⟨fun _ => ih (x + 1) I1 J1 R1 (by omega) o oj hw (wzs_2 k1 pv hxL b (Or.inl rn)) r, fun z => absurd rfl z⟩)
      refine fn_onp (by omega) x7 (fun k hk => ⟨hw k hk, w7 k hk⟩) (fun on => ⟨fun z => absurd z (by decide), fun _ => ih (x + 1) I1 J1 R1 (by omega) o oj hw (wzs_2 k1 pv hxL b (Or.inr on)) r⟩) (fun off => ⟨fun _ => ?_, fun z => absurd rfl z⟩)
      unfold wp_X5_daysOf wp_X5_freightOf
      rw [re_12 wm, re_20 wm, x5, show (nI 2).toNatClampNeg = 2 from rfl]
      have i7 := nI_in2 wm (by decide)
      have ix := nI_in2 x7 (by decide)
      refine ⟨i7, ix, i7, ix, by decide, ?_⟩
      have k5' : I1 97 2 = nI to := by rw [fr_at 97 2 o rfl]; exact k5
      have k6' : J1 97 3 = wt := by rw [fr_at 97 3 oj rfl]; exact k6
      rw [k5', k6', q2, ← q3, nI_eq (by omega) (by omega), e2, e3, nI_add, ← wzD_x (by omega), ← wzF_x (by omega)]
      have ow : fr_off [(97, 98, 8, 10), (104, 106, 0, 2147483648)] I (ix_u2 I1 104 2 (nI x)) := fr_put rfl o
      have hw2 : ∀ k, k < 3 → ix_u2 I1 104 2 (nI x) 104 k = nI (wzx w 2 x k) := fun k hk => by
        by_cases c : k = 2
        · subst c; rw [wzx_e]; exact u2_s
        · rw [u2_j c, wzx_l (by omega)]; exact hw k (by omega)
      have r2 : wzR rd F du th (ix_u2 I1 104 2 (nI x)) J1 R1 := by
        match R1, r with
        | none, r => exact r
        | some s, r => exact r
      rw [e2, e3] at ih
      refine ⟨fun t => ?_, fun t => ?_⟩
      · have vv := wzV_x (by omega) (by omega) pv hxL rp off t
        refine fn_arr (n := 3) (w := wzx w 2 x) (by omega) (by omega) (wzK_fr K ow oj) (fun k hk => ⟨hw2 k hk, wzV_7 k1 vv k hk⟩) (fun k a c => ?_) r2 rfl rfl (fun I2 J2 o2 oj2 r3 bt => ?_) (fun s es nb => ?_)
        · rw [wzx_l (by omega)]
          have := pv.2.2.2 0 k (by omega) (by omega)
          rw [pv.1] at this
          exact ⟨(pv.2.1 k (by omega)).1, fun e => this e.symm, (pv.2.1 k (by omega)).2⟩
        · refine ih (x + 1) I2 J2 _ (by omega) (fr_trans ow (fr_mono (by decide) o2)) (fr_trans oj oj2) (fun k hk => ?_) (wzn_2 k1 pv hxL rp off t b bt) r3
          rw [fr_rw1 o2 104 rfl, hw2 k (by omega), wzx_l hk]
        · subst es
          refine ih (x + 1) _ J1 _ (by omega) ow oj (fun k hk => ?_) (wzo_2 k1 pv hxL t b nb) r2
          rw [hw2 k (by omega), wzx_l hk]
      · refine fn_ex3 (R := R1) (w := wzx w 2 x) K (wzp_x (by omega) pv hxL rp off t) ow oj hw2 rfl rfl (wzi_2 k1 pv hxL t b) r2 (fun I2 J2 R2 o2 oj2 w2 b2 r3 => ?_)
        refine ih (x + 1) I2 J2 R2 (by omega) o2 oj2 (fun k hk => ?_) (wzr_2 k1 pv hxL b2) r3
        rw [w2 k (by omega), wzx_l hk]
  exact key L 0 I0 J0 R (by omega) o0 oj0 hw0 hB hR
theorem fn_ex1 {w : Nat → Nat} {R : Option (Nat × (Nat → Nat))} {x2 : Int32} {x3 : Int64} {I : Nat → Nat → Int32} {J : Nat → Nat → Int64} {T : Option Nat} {P : (Nat → Nat → Int32) → (Nat → Nat → Int64) → Option Nat → Prop} (K : wzK L fr to rd F du th wt I J) (pv : wzp L fr to rd 1 w) {I0 : Nat → Nat → Int32} {J0 : Nat → Nat → Int64} (o0 : fr_off [(97, 98, 8, 10), (104, 106, 0, 2147483648)] I I0) (oj0 : fr_off [(97, 98, 10, 11)] J J0) (hw0 : ∀ k, k < 1 → I0 104 k = nI (w k)) (e2 : x2 = nI (wzD rd 1 w)) (e3 : x3 = wzF F 1 w) (hB : wzB L fr to rd F du th (fun n v => wzC n v < wzb1 w 0) R) (hR : wzR rd F du th I0 J0 R) (nx : ∀ I2 J2 R2, fr_off [(97, 98, 8, 10), (104, 106, 0, 2147483648)] I I2 → fr_off [(97, 98, 10, 11)] J J2 → (∀ k, k < 1 → I2 104 k = nI (w k)) → wzB L fr to rd F du th (fun n v => wzC n v < wzb1 w L) R2 → wzR rd F du th I2 J2 R2 → P I2 J2 T) : wp_X10_extend_l6 (nI 1) x2 x3 I0 J0 T P := by
  obtain ⟨k1, k2, k3, k4, k5, k6, k7, k8, k9⟩ := K
  have K : wzK L fr to rd F du th wt I J := ⟨k1, k2, k3, k4, k5, k6, k7, k8, k9⟩
  have w7 : ∀ k, k < 1 → w k < 7 := fun k hk => Nat.lt_of_lt_of_le (pv.2.1 k hk).1 k1
  have hrd : ∀ a b, a < 7 → b < 7 → rd a b ≤ 60 := fun a b ha hb => (k7 a b ha hb).1
  have wm : w 0 < 7 := w7 0 (by omega)
  unfold wp_X10_extend_l6
  refine ⟨fun z => absurd z (by decide), fun _ => ⟨fun _ => ⟨by decide, ?_⟩, fun z => absurd (by decide) z⟩⟩
  rw [show (nI 1 - 1).toNatClampNeg = 0 from rfl, hw0 0 (by omega)]
  intro V hV
  have key : ∀ (m x : Nat) (I1 : Nat → Nat → Int32) (J1 : Nat → Nat → Int64) (R1 : Option (Nat × (Nat → Nat))), x + m = L → fr_off [(97, 98, 8, 10), (104, 106, 0, 2147483648)] I I1 → fr_off [(97, 98, 10, 11)] J J1 → (∀ k, k < 1 → I1 104 k = nI (w k)) → wzB L fr to rd F du th (fun n v => wzC n v < wzb1 w x) R1 → wzR rd F du th I1 J1 R1 → V (nI 1) x2 x3 (nI (w 0)) (nI x) I1 J1 T := by
    intro m
    induction m with
    | zero =>
      intro x I1 J1 R1 hx o oj hw b r
      have hx : x = L := by omega
      subst hx
      apply hV
      unfold wb_X10_extend_l6_24 wp_X5_count
      rw [fr_at 8 0 o rfl, k4]
      exact ⟨fun z => absurd z (nI_nlt (Nat.le_refl _) (by omega)), fun _ => nx I1 J1 R1 o oj hw b r⟩
    | succ m ih =>
      intro x I1 J1 R1 hx o oj hw b r
      have hxL : x < L := by omega
      have x7 : x < 7 := by omega
      have K1 := wzK_fr K o oj
      obtain ⟨q1, q2, q3⟩ := K1.2.2.2.2.2.2.1 (w 0) x wm x7
      have x5 : (nI x).toNatClampNeg = x := nI_clamp (by omega)
      apply hV
      unfold wb_X10_extend_l6_24 wp_X5_count
      rw [fr_at 8 0 o rfl, k4]
      refine ⟨fun _ => ?_, fun z => absurd (nI_lt (by omega) (by omega)) z⟩
      simp only [nI_1]
      refine fn_hr wm x7 K1 (fun rp => ⟨fun z => absurd z (by decide), fun _ => ?_⟩) (fun rn => ⟨fun _ => ih (x + 1) I1 J1 R1 (by omega) o oj hw (wzs_1 k1 pv hxL b (Or.inl rn)) r, fun z => absurd rfl z⟩)
      refine fn_onp (by omega) x7 (fun k hk => ⟨hw k hk, w7 k hk⟩) (fun on => ⟨fun z => absurd z (by decide), fun _ => ih (x + 1) I1 J1 R1 (by omega) o oj hw (wzs_1 k1 pv hxL b (Or.inr on)) r⟩) (fun off => ⟨fun _ => ?_, fun z => absurd rfl z⟩)
      unfold wp_X5_daysOf wp_X5_freightOf
      rw [re_12 wm, re_20 wm, x5, show (nI 1).toNatClampNeg = 1 from rfl]
      have i7 := nI_in2 wm (by decide)
      have ix := nI_in2 x7 (by decide)
      refine ⟨i7, ix, i7, ix, by decide, ?_⟩
      have k5' : I1 97 2 = nI to := by rw [fr_at 97 2 o rfl]; exact k5
      have k6' : J1 97 3 = wt := by rw [fr_at 97 3 oj rfl]; exact k6
      rw [k5', k6', q2, ← q3, nI_eq (by omega) (by omega), e2, e3, nI_add, ← wzD_x (by omega), ← wzF_x (by omega)]
      have ow : fr_off [(97, 98, 8, 10), (104, 106, 0, 2147483648)] I (ix_u2 I1 104 1 (nI x)) := fr_put rfl o
      have hw2 : ∀ k, k < 2 → ix_u2 I1 104 1 (nI x) 104 k = nI (wzx w 1 x k) := fun k hk => by
        by_cases c : k = 1
        · subst c; rw [wzx_e]; exact u2_s
        · rw [u2_j c, wzx_l (by omega)]; exact hw k (by omega)
      have r2 : wzR rd F du th (ix_u2 I1 104 1 (nI x)) J1 R1 := by
        match R1, r with
        | none, r => exact r
        | some s, r => exact r
      rw [e2, e3] at ih
      refine ⟨fun t => ?_, fun t => ?_⟩
      · have vv := wzV_x (by omega) (by omega) pv hxL rp off t
        refine fn_arr (n := 2) (w := wzx w 1 x) (by omega) (by omega) (wzK_fr K ow oj) (fun k hk => ⟨hw2 k hk, wzV_7 k1 vv k hk⟩) (fun k a c => ?_) r2 rfl rfl (fun I2 J2 o2 oj2 r3 bt => ?_) (fun s es nb => ?_)
        · rw [wzx_l (by omega)]
          have := pv.2.2.2 0 k (by omega) (by omega)
          rw [pv.1] at this
          exact ⟨(pv.2.1 k (by omega)).1, fun e => this e.symm, (pv.2.1 k (by omega)).2⟩
        · refine ih (x + 1) I2 J2 _ (by omega) (fr_trans ow (fr_mono (by decide) o2)) (fr_trans oj oj2) (fun k hk => ?_) (wzn_1 k1 pv hxL rp off t b bt) r3
          rw [fr_rw1 o2 104 rfl, hw2 k (by omega), wzx_l hk]
        · subst es
          refine ih (x + 1) _ J1 _ (by omega) ow oj (fun k hk => ?_) (wzo_1 k1 pv hxL t b nb) r2
          rw [hw2 k (by omega), wzx_l hk]
      · refine fn_ex2 (R := R1) (w := wzx w 1 x) K (wzp_x (by omega) pv hxL rp off t) ow oj hw2 rfl rfl (wzi_1 k1 pv hxL t b) r2 (fun I2 J2 R2 o2 oj2 w2 b2 r3 => ?_)
        refine ih (x + 1) I2 J2 R2 (by omega) o2 oj2 (fun k hk => ?_) (wzr_1 k1 pv hxL b2) r3
        rw [w2 k (by omega), wzx_l hk]
  exact key L 0 I0 J0 R (by omega) o0 oj0 hw0 hB hR
