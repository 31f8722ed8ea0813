/-! treaties: the reference reads a test; names -/
def yss : List (Bool × YO) → List YG
  | [] => []
  | x :: xs => (x.2.2.1 ++ x.2.2.2.2) ++ yss xs
def yrc : Nat → List (Bool × YO) → List YP
  | _, [] => []
  | p, x :: xs => (x.1, x.2.1, p, p + x.2.2.1.length, x.2.2.2.1, p + x.2.2.1.length + x.2.2.2.2.length) :: yrc (p + x.2.2.1.length + x.2.2.2.2.length) xs
theorem yrc_len : ∀ p xs, (yrc p xs).length = xs.length
  | _, [] => rfl
  | p, x :: xs => by rw [yrc, List.length_cons, List.length_cons, yrc_len]
set_option maxHeartbeats 4000000 in
theorem yg_test {b : Nat → Int32} {n L S O : Nat} {R : Nat → Nat → Int32} {RJ : Nat → Nat → Int64} {M : Nat} (hL : L ≤ n) (hn : n ≤ 600 ∧ M ≤ 1800) (hL1 : yk b n L = 21 ∨ yk b n L = 22) (hv : ∀ c, yk b n c = 20 → ∃ m : Nat, m ≤ 9999999 ∧ yv b n c = lZ m) (hO6 : O ≤ 600) {I0 : Nat → Nat → Int32} {J0 : Nat → Nat → Int64} {T : Option Nat} {V : Int32 → (Nat → Nat → Int32) → (Nat → Nat → Int64) → Option Nat → Prop} {P : Int32 → (Nat → Nat → Int32) → (Nat → Nat → Int64) → Option Nat → Prop} (hV : ∀ x1 I J T, wb_X12_test_6 x1 I J T V P → V x1 I J T) : ∀ m c (bg : Bool) ws o w I J, L < c + m → c ≤ L → S + o.length ≤ M + c → 3 * w.length ≤ c → yM1 b n S (R 232) (RJ 233) c o I J → yM2 S O R w I → fr_off yDO I0 I → fr_off yES J0 J → (∀ k c' I2 J2, yte (yk b n) (yv b n) m c bg ws = .inl (k, c') → fr_off yDO I0 I2 → fr_off yES J0 J2 → yMb b n S O R RJ k c' I2 J2 → P 0 I2 J2 T) → (∀ nw c' I2 J2, yte (yk b n) (yv b n) m c bg ws = .inr (ws ++ nw, c') → nw ≠ [] → c' ≤ L → fr_off yDO I0 I2 → fr_off yES J0 J2 → S + (o ++ yss nw).length ≤ M + c' → 3 * (w ++ yrc o.length nw).length ≤ c' → yM1 b n S (R 232) (RJ 233) c' (o ++ yss nw) I2 J2 → yM2 S O R (w ++ yrc o.length nw) I2 → P 1 I2 J2 T) → wp_X12_one (s01_ bg) I J T (fun v I J T => V v I J T) := by
  have kL : ∀ {c : Nat} {a : Int32}, c ≤ L → yk b n c = a → a ≠ 21 → a ≠ 22 → c + 1 ≤ L := fun {c a} hc e h1 h2 => by
    by_cases e2 : c = L
    · rw [← e2] at hL1
      rcases hL1 with g | g
      · exact absurd (e.symm.trans g) h1
      · exact absurd (e.symm.trans g) h2
    · omega
  intro m
  induction m with
  | zero => intro c bg ws o w I J h1 h2; omega
  | succ m ih =>
    intro c bg ws o w I J hm hc hS hW hM hM2 hO hE hbad hok
    rw [yte] at hbad hok
    refine yg_one hL hn hL1 hv hc hS (by omega) hM hM2 (fun k c' I2 J2 e o2 r2 mb => ?_) (fun x c' I2 J2 e hc' o2 r2 hS2 h3 hM3 hM4 => ?_)
    · rw [e] at hbad
      apply hV
      unfold wb_X12_test_6
      exact ⟨fun _ => ⟨by decide, hbad k c' I2 J2 rfl (fr_trans hO o2) (fr_trans hE r2) mb⟩, fun z => absurd rfl z⟩
    · rw [e] at hbad hok
      simp only at hbad hok
      have hO2 := fr_trans hO o2
      have hE2 := fr_trans hE r2
      have hx := hM3.1
      have hs := yps_le b n c'
      have hmt := hM3.2.1
      have wl : (w ++ [(bg, x.1, o.length, o.length + x.2.1.length, x.2.2.1, o.length + x.2.1.length + x.2.2.2.length)]).length = w.length + 1 := by rw [List.length_append, List.length_singleton]
      have lo : (o ++ (x.2.1 ++ x.2.2.2)).length = o.length + x.2.1.length + x.2.2.2.length := by simp only [List.length_append]; omega
      -- one more
      have more : ∀ bg2 : Bool, c' + 1 ≤ L → (∀ k c2 I2 J2, yte (yk b n) (yv b n) m (c' + 1) bg2 (ws ++ [(bg, x)]) = .inl (k, c2) → fr_off yDO I0 I2 → fr_off yES J0 J2 → yMb b n S O R RJ k c2 I2 J2 → P 0 I2 J2 T) → (∀ nw c2 I2 J2, yte (yk b n) (yv b n) m (c' + 1) bg2 (ws ++ [(bg, x)]) = .inr (ws ++ nw, c2) → nw ≠ [] → c2 ≤ L → fr_off yDO I0 I2 → fr_off yES J0 J2 → S + (o ++ yss nw).length ≤ M + c2 → 3 * (w ++ yrc o.length nw).length ≤ c2 → yM1 b n S (R 232) (RJ 233) c2 (o ++ yss nw) I2 J2 → yM2 S O R (w ++ yrc o.length nw) I2 → P 1 I2 J2 T) → wp_X12_next I2 J2 T (fun I14 J14 T14 => wp_X12_one (s01_ bg2) I14 J14 T14 (fun v15 I15 J15 T15 => V v15 I15 J15 T15)) := by
        intro bg2 hcL hb hg
        refine yM_nx hM3 (fun I4 J4 o4 r4 hM5 => ?_)
        refine ih (c' + 1) bg2 (ws ++ [(bg, x)]) _ _ I4 J4 (by omega) hcL (by omega) (by omega) hM5 (yM2_fr hM4 o4 rfl) (fr_trans hO2 (fr_mono (by decide) o4)) (fr_trans hE2 (fr_mono (by decide) r4)) hb (fun nw c2 I6 J6 e6 nn hc2 o6 r6 s6 w6 m6 m7 => ?_)
        have a1 : ws ++ [(bg, x)] ++ nw = ws ++ ((bg, x) :: nw) := by rw [List.append_assoc]; rfl
        have a2 : o ++ (x.2.1 ++ x.2.2.2) ++ yss nw = o ++ yss ((bg, x) :: nw) := by rw [List.append_assoc]; rfl
        have a3 : w ++ [(bg, x.1, o.length, o.length + x.2.1.length, x.2.2.1, o.length + x.2.1.length + x.2.2.2.length)] ++ yrc (o ++ (x.2.1 ++ x.2.2.2)).length nw = w ++ yrc o.length ((bg, x) :: nw) := by rw [List.append_assoc, lo]; rfl
        rw [a1] at e6
        rw [a2] at s6 m6
        rw [a3] at w6 m7
        exact hg _ c2 I6 J6 e6 (by simp) hc2 o6 r6 s6 w6 m6 m7
      apply hV
      unfold wb_X12_test_6
      refine ⟨fun z => absurd z (by decide), fun _ => yg_key hx hs hmt ⟨by decide, by decide⟩ (fun y => ⟨fun z => absurd z (by decide), fun _ => ?_⟩) (fun y6 => ⟨fun _ => yg_key hx hs hmt ⟨by decide, by decide⟩ (fun y => ⟨fun z => absurd z (by decide), fun _ => ?_⟩) (fun y7 => ⟨fun _ => ⟨by decide, ?_⟩, fun z => absurd rfl z⟩), fun z => absurd rfl z⟩)⟩
      · have y : yk b n c' = 6 := y
        rw [if_pos y] at hbad hok
        refine yg_key hx hs hmt ⟨by decide, by decide⟩ (fun _ => ?_) (fun z => absurd y z)
        exact more true (kL hc' y (by decide) (by decide)) hbad hok
      · have y6 : ¬ yk b n c' = 6 := y6
        have y : yk b n c' = 7 := y
        rw [if_neg y6, if_pos y] at hbad hok
        refine yg_key hx hs hmt ⟨by decide, by decide⟩ (fun z => absurd z y6) (fun _ => ?_)
        exact more false (kL hc' y (by decide) (by decide)) hbad hok
      · have y6 : ¬ yk b n c' = 6 := y6
        have y7 : ¬ yk b n c' = 7 := y7
        rw [if_neg y6, if_neg y7] at hok
        refine hok [(bg, x)] c' I2 J2 rfl (by simp) hc' hO2 hE2 ?_ ?_ ?_ ?_
        · show S + (o ++ (x.2.1 ++ x.2.2.2 ++ [])).length ≤ _
          rw [List.append_nil]; exact hS2
        · show 3 * (w ++ [(bg, x.1, o.length, o.length + x.2.1.length, x.2.2.1, o.length + x.2.1.length + x.2.2.2.length)]).length ≤ _
          omega
        · show yM1 b n S (R 232) (RJ 233) c' (o ++ (x.2.1 ++ x.2.2.2 ++ [])) I2 J2
          rw [List.append_nil]; exact hM3
        · exact hM4
/-! names -/
theorem ynm_cg {g h : Nat → Nat} {B : Nat} : ∀ {m p q v : Nat}, (∀ j, j < m → g (p + j) = h (q + j)) → ynm g B m p v = ynm h B m q v
  | 0, _, _, _, _ => rfl
  | m + 1, p, q, v, e => by
    rw [ynm, ynm, show g p = h q from e 0 (by omega)]
    exact ynm_cg (fun j hj => by have := e (j + 1) (by omega); rw [show p + 1 + j = p + (j + 1) by omega, show q + 1 + j = q + (j + 1) by omega]; exact this)
theorem ynm_hf {g : Nat → Nat} (hg : ∀ q, g q < 128) : ∀ m p, 2 * ynm g 256 m p 0 < 256 ^ m
  | 0, p => by simp [ynm]
  | m + 1, p => by
    rw [ynm_sn, Nat.pow_succ]
    have h1 := ynm_hf hg m p
    have h2 := hg (p + m)
    omega
def yna (b : Nat → Int32) (n c : Nat) : Int64 := lZ (ynm (yby b) 256 (ye b n c - yps b n c) (yps b n c) 0 : Nat)
theorem yk_18 {b : Nat → Int32} {n c : Nat} (h : yk b n c = 18) (hb : ∀ q, q < n → (b q).toInt8.toInt32 = b q) : ye b n c - yps b n c ≤ 8 ∧ ∀ q, yps b n c ≤ q → q < ye b n c → yL (b q) = true := by
  have h : ykd b n (yps b n c) = 18 := h
  rcases ykd_cs b hb (yps_le b n c) with ⟨j, j1, j2, j3, j4, j5⟩ | g | g | g | ⟨g, -⟩
  · rw [h] at j2
    have : j = 18 := ((nI_eq (a := 18) (by omega) (by omega)).mp j2).symm
    refine ⟨?_, fun q h1 h2 => ?_⟩
    · rw [this] at j5
      unfold ywk at j5
      by_cases e : yen b n (yps b n c) - yps b n c ≤ 8
      · exact e
      · rw [if_neg e] at j5; omega
    · have eE : yen b n (yps b n c) = yR (fun q => yL (b q)) (n - yps b n c) (yps b n c) := by unfold yen; rw [if_neg (by omega), if_pos j4]
      have h2 : q < yen b n (yps b n c) := h2
      rw [eE] at h2
      exact yR_in h1 h2
  · rw [h] at g; exact absurd g (by decide)
  · rw [h] at g; exact absurd g (by decide)
  · rw [h] at g; exact absurd g (by decide)
  · rw [h] at g; exact absurd g (by decide)
theorem yl_vals {b : Nat → Int32} {q : Nat} (h : yL (b q) = true) : ∃ j, j < 26 ∧ b q = nI (97 + j) ∧ ylt b q = j + 1 ∧ yby b q = 97 + j := by
  obtain ⟨j, hj, e⟩ := yL_j h
  refine ⟨j, hj, e, ?_, ?_⟩
  · unfold ylt
    rw [e, nI_toInt (by omega)]; omega
  · unfold yby
    rw [e, nI_toInt (by omega)]; omega
theorem yn_eq {b : Nat → Int32} {n c d : Nat} (hb : ∀ q, q < n → (b q).toInt8.toInt32 = b q) (hc : yk b n c = 18) (hd : yk b n d = 18) : yn b n c = yn b n d ↔ yna b n c = yna b n d := by
  obtain ⟨c1, c2⟩ := yk_18 hc hb
  obtain ⟨d1, d2⟩ := yk_18 hd hb
  have c3 := ye_le b n c
  have d3 := ye_le b n d
  have L27 : ∀ q, ylt b q < 27 := fun q => Nat.mod_lt _ (by decide)
  have L256 : ∀ q, yby b q < 128 := fun q => Nat.mod_lt _ (by decide)
  have B27 : ∀ m p, m ≤ 8 → ynm (ylt b) 27 m p 0 < 1000000000000 := fun m p hm => by
    have h1 := ynm_lt L27 m p
    have h2 : 27 ^ m ≤ 27 ^ 8 := Nat.pow_le_pow_right (by decide) hm
    omega
  have B256 : ∀ m p, m ≤ 8 → ynm (yby b) 256 m p 0 < 9223372036854775808 := fun m p hm => by
    have h1 := ynm_hf L256 m p
    have h2 : 256 ^ m ≤ 256 ^ 8 := Nat.pow_le_pow_right (by decide) hm
    omega
  unfold yn yna
  have x1 := B27 _ (yps b n c) c1
  have x2 := B27 _ (yps b n d) d1
  have x3 := B256 _ (yps b n c) c1
  have x4 := B256 _ (yps b n d) d1
  rw [lZ_eq (by omega) (by omega), lZ_eq (by omega) (by omega)]
  constructor
  · intro h
    have h := Int.ofNat.inj h
    obtain ⟨m1, m2⟩ := ynm_inj L27 L27 _ _ _ _ (fun j hj => by obtain ⟨i, i1, i2, i3, i4⟩ := yl_vals (c2 (yps b n c + j) (by omega) (by omega)); omega) (fun j hj => by obtain ⟨i, i1, i2, i3, i4⟩ := yl_vals (d2 (yps b n d + j) (by omega) (by omega)); omega) h
    rw [← m1]
    congr 1
    refine ynm_cg (fun j hj => ?_)
    obtain ⟨i, i1, i2, i3, i4⟩ := yl_vals (c2 (yps b n c + j) (by omega) (by omega))
    obtain ⟨k, k1, k2, k3, k4⟩ := yl_vals (d2 (yps b n d + j) (by omega) (by omega))
    have := m2 j hj
    omega
  · intro h
    have h := Int.ofNat.inj h
    obtain ⟨m1, m2⟩ := ynm_inj (fun q => Nat.lt_trans (L256 q) (by decide)) (fun q => Nat.lt_trans (L256 q) (by decide)) _ _ _ _ (fun j hj => by obtain ⟨i, i1, i2, i3, i4⟩ := yl_vals (c2 (yps b n c + j) (by omega) (by omega)); omega) (fun j hj => by obtain ⟨i, i1, i2, i3, i4⟩ := yl_vals (d2 (yps b n d + j) (by omega) (by omega)); omega) h
    rw [← m1]
    congr 1
    refine ynm_cg (fun j hj => ?_)
    obtain ⟨i, i1, i2, i3, i4⟩ := yl_vals (c2 (yps b n c + j) (by omega) (by omega))
    obtain ⟨k, k1, k2, k3, k4⟩ := yl_vals (d2 (yps b n d + j) (by omega) (by omega))
    have := m2 j hj
    omega
theorem ynm_sh {N d : Nat} (hd : d < 128) (hN : N * 256 + d < 9223372036854775808) : (lZ N <<< ((8 : Int32).toInt64 &&& 63)) ||| (nI d).toInt64 = lZ (N * 256 + d : Nat) := by
  have e8 : (8 : Int32).toInt64 &&& 63 = 8 := by decide
  rw [e8, nI_lZ (by omega)]
  apply Int64.toBitVec_inj.mp
  apply BitVec.eq_of_toNat_eq
  have nn : ∀ k : Nat, k < 9223372036854775808 → (lZ (k : Int)).toBitVec.toNat = k := fun k hk => by
    show (BitVec.ofInt 64 (k : Int)).toNat = k
    rw [BitVec.ofInt_natCast, BitVec.toNat_ofNat]
    exact Nat.mod_eq_of_lt (by omega)
  rw [Int64.toBitVec_or, BitVec.toNat_or, nn d (by omega), nn (N * 256 + d) hN]
  have : (lZ (N : Int) <<< (8 : Int64)).toBitVec = (lZ (N : Int)).toBitVec <<< 8 := rfl
  rw [this, BitVec.toNat_shiftLeft, nn N (by omega), Nat.shiftLeft_eq]
  have lt1 : N * 2 ^ 8 < 9223372036854775808 := Nat.lt_of_le_of_lt (Nat.le_add_right (N * 256) d) hN
  have e : N * 2 ^ 8 % 2 ^ 64 = N * 2 ^ 8 := Nat.mod_eq_of_lt (Nat.lt_trans lt1 (by decide))
  rw [e, ← Nat.shiftLeft_eq, ← Nat.shiftLeft_add_eq_or_of_lt (show d < 2 ^ 8 from Nat.lt_trans hd (by decide)), Nat.shiftLeft_eq]
theorem yg_nm {b : Nat → Int32} {n c : Nat} {I : Nat → Nat → Int32} {J : Nat → Nat → Int64} {T : Option Nat} {P : Int32 → (Nat → Nat → Int32) → (Nat → Nat → Int64) → Option Nat → Prop} (hx : ytx b n I) (h18 : yk b n c = 18) (e18 : I 204 18 = nI (yps b n c)) (e19 : I 204 19 = nI (ye b n c)) (hP : ∀ V77, ix_inb (I 204 24) 5 = true ∧ wl_X12_clause_130_77 (yna b n c) (12 * I 204 24 + I 216 (I 204 24).toNatClampNeg) (12 * I 204 24) I J T V77 P) : wl_X12_clause_77 0 (I 204 18) I J T P := by
  have hn := hx.1
  obtain ⟨c1, c2⟩ := yk_18 h18 (fun q hq => (hx.2.2 q hq).2)
  have c3 := ye_le b n c
  intro V hV
  have key : ∀ m k, k + m = ye b n c → yps b n c ≤ k → V (lZ (ynm (yby b) 256 (k - yps b n c) (yps b n c) 0 : Nat)) (nI k) I J T := by
    intro m
    induction m with
    | zero =>
      intro k hk hsk
      have hk : k = ye b n c := by omega
      subst hk
      apply hV
      unfold wb_X12_clause_77
      rw [e19]
      exact ⟨fun z => absurd ((yi_lt (by omega) (by omega)).mp z) (by omega), fun _ => hP V⟩
    | succ m ih =>
      intro k hk hsk
      apply hV
      unfold wb_X12_clause_77
      rw [e19]
      refine ⟨fun _ => yga hx (by omega) (fun g => ?_) (fun g => by omega), fun z => absurd ((yi_lt (by omega) (by omega)).mpr (by omega)) z⟩
      obtain ⟨j, j1, j2, j3, j4⟩ := yl_vals (c2 k hsk (by omega))
      rw [(yby_m (hx.2.2 k g).2).2.2.2.2.2.1 (c2 k hsk (by omega)), nI_1, j2]
      have L256 : ∀ q, yby b q < 128 := fun q => Nat.mod_lt _ (by decide)
      have h1 := ynm_hf L256 (k - yps b n c + 1) (yps b n c)
      have h2 : 256 ^ (k - yps b n c + 1) ≤ 256 ^ 8 := Nat.pow_le_pow_right (by decide) (by omega)
      have h3 : ynm (yby b) 256 (k - yps b n c + 1) (yps b n c) 0 = ynm (yby b) 256 (k - yps b n c) (yps b n c) 0 * 256 + (97 + j) := by
        rw [ynm_sn, show yps b n c + (k - yps b n c) = k by omega, j4]
      rw [ynm_sh (by omega) (by omega), ← h3, show k - yps b n c + 1 = k + 1 - yps b n c by omega]
      exact ih (k + 1) (by omega) (by omega)
  have := key (ye b n c - yps b n c) (yps b n c) (by omega) (Nat.le_refl _)
  rw [Nat.sub_self] at this
  rw [e18]
  exact this
