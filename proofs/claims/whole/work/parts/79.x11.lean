/-! books: costs and weights in memory -/
def bkD (a b : Nat) : Nat := (a - b) + (b - a)
def bko (N D G : Nat → Nat → Nat) (a b : Nat) : Nat := (if N 0 a = N 1 b then 0 else 20) + min 10 (bkD (D 0 a) (D 1 b)) + min 20 (bkD (G 0 a) (G 1 b) / 100)
theorem bko_le {N D G : Nat → Nat → Nat} {a b : Nat} : bko N D G a b ≤ 50 := by
  unfold bko
  split <;> omega
def bkM (I : Nat → Nat → Int32) (n0 n1 : Nat) (N D G : Nat → Nat → Nat) : Prop := (∀ a, a < n0 → N 0 a ≤ 9999 ∧ D 0 a ≤ 9999 ∧ G 0 a ≤ 1000000 ∧ I 184 a = nI (N 0 a) ∧ I 187 a = nI (D 0 a) ∧ I 190 a = nI (G 0 a)) ∧ ∀ b, b < n1 → N 1 b ≤ 9999 ∧ D 1 b ≤ 9999 ∧ G 1 b ≤ 1000000 ∧ I 185 b = nI (N 1 b) ∧ I 188 b = nI (D 1 b) ∧ I 191 b = nI (G 1 b)
theorem mn_nI {a b : Nat} (ha : a < 2147483648) (hb : b < 2147483648) {I : Nat → Nat → Int32} {J : Nat → Nat → Int64} {T : Option Nat} {P : Int32 → (Nat → Nat → Int32) → (Nat → Nat → Int64) → Option Nat → Prop} (hP : P (nI (min a b)) I J T) : wp_J9_min_7cf53 (nI a) (nI b) I J T P := by
  unfold wp_J9_min_7cf53
  have e : nI a ≤ nI b ↔ a ≤ b := by
    rw [Int32.le_iff_toInt_le, nI_toInt (by omega), nI_toInt (by omega)]
    omega
  rw [e]
  refine ⟨fun c => ?_, fun c => ?_⟩
  · rw [Nat.min_eq_left c] at hP; exact hP
  · rw [Nat.min_eq_right (by omega)] at hP; exact hP
theorem fn_cst {n0 n1 a b : Nat} {N D G : Nat → Nat → Nat} (h0 : n0 ≤ 12) (h1 : n1 ≤ 12) (ha : a < n0) (hb : b < n1) {I : Nat → Nat → Int32} {J : Nat → Nat → Int64} {T : Option Nat} {P : Int32 → (Nat → Nat → Int32) → (Nat → Nat → Int64) → Option Nat → Prop} (h : bkM I n0 n1 N D G) (hP : P (nI (bko N D G a b)) I J T) : wp_X2_cost (nI a) (nI b) I J T P := by
  obtain ⟨x1, x2, x3, x4, x5, x6⟩ := h.1 a ha
  obtain ⟨y1, y2, y3, y4, y5, y6⟩ := h.2 b hb
  have ia : ix_inb (nI a) 12 = true := nI_in2 (by omega) (by decide)
  have ib : ix_inb (nI b) 12 = true := nI_in2 (by omega) (by decide)
  have e10 : (10 : Int32) = nI 10 := rfl
  have e20 : (20 : Int32) = nI 20 := rfl
  have e100 : (100 : Int32) = nI 100 := rfl
  have dd : bkD (D 0 a) (D 1 b) ≤ 9999 := by unfold bkD; omega
  have gg : bkD (G 0 a) (G 1 b) ≤ 1000000 := by unfold bkD; omega
  have g2 : bkD (G 0 a) (G 1 b) / 100 ≤ 10000 := by omega
  unfold wp_X2_cost
  rw [nI_clamp (show a < 2 ^ 31 by omega), nI_clamp (show b < 2 ^ 31 by omega), x4, x5, y4, y5, nI_eq (by omega) (by omega)]
  unfold bko at hP
  refine ⟨ia, ib, fun c => ?_, fun c => ?_⟩
  · rw [if_pos c] at hP
    refine ⟨ia, ib, ab_nJ (by omega) (by omega) ?_⟩
    rw [e10]
    refine mn_nI (by omega) (by unfold bkD at dd; omega) ⟨ia, ib, ?_⟩
    show wp_J9_abs_0f7a4 (I 190 a - I 191 b) I J T _
    rw [x6, y6]
    refine ab_nJ (by omega) (by omega) ?_
    rw [e100, nI_div (by unfold bkD at gg; omega) (by omega) (by omega), e20]
    refine mn_nI (by omega) (by unfold bkD at g2; omega) ?_
    show P (0 + nI (min 10 (bkD (D 0 a) (D 1 b))) + nI (min 20 (bkD (G 0 a) (G 1 b) / 100))) I J T
    rw [show (0 : Int32) = nI 0 from rfl, nI_add, nI_add]
    exact hP
  · rw [if_neg c] at hP
    refine ⟨ia, ib, ab_nJ (by omega) (by omega) ?_⟩
    rw [e10]
    refine mn_nI (by omega) (by unfold bkD at dd; omega) ⟨ia, ib, ?_⟩
    show wp_J9_abs_0f7a4 (I 190 a - I 191 b) I J T _
    rw [x6, y6]
    refine ab_nJ (by omega) (by omega) ?_
    rw [e100, nI_div (by unfold bkD at gg; omega) (by omega) (by omega), e20]
    refine mn_nI (by omega) (by unfold bkD at g2; omega) ?_
    show P (nI 20 + nI (min 10 (bkD (D 0 a) (D 1 b))) + nI (min 20 (bkD (G 0 a) (G 1 b) / 100))) I J T
    rw [nI_add, nI_add]
    exact hP
/-- the class's weights: rows and columns from 1 on -/
def bkw (n1 : Nat) (co : Nat → Nat → Nat) (r c : Nat) : Int := if c - 1 < n1 then ((co (r - 1) (c - 1) : Int) - 25) * 23298085122481 + ((c - 1 : Nat) : Int) * 13 ^ (11 - (r - 1)) else 25 * 23298085122481 + 12 * 13 ^ (11 - (r - 1))
theorem p13 (k : Nat) : (0 : Int) < 13 ^ (11 - k) ∧ (13 : Int) ^ (11 - k) ≤ 1792160394037 := by
  refine ⟨Int.pow_pos (by decide), ?_⟩
  have h : (13 : Nat) ^ (11 - k) ≤ 13 ^ 11 := Nat.pow_le_pow_right (by decide) (by omega)
  have e : (13 : Nat) ^ 11 = 1792160394037 := by decide
  rw [e] at h
  have : ((13 ^ (11 - k) : Nat) : Int) ≤ ((1792160394037 : Nat) : Int) := Int.ofNat_le.mpr h
  rw [Int.natCast_pow] at this
  exact this
theorem bkw_bd {n1 : Nat} {co : Nat → Nat → Nat} (h1 : n1 ≤ 12) (hc : ∀ a b, co a b ≤ 50) (r c : Nat) : -605750213184506 ≤ bkw n1 co r c ∧ bkw n1 co r c ≤ 605750213184506 := by
  obtain ⟨p1, p2⟩ := p13 (r - 1)
  unfold bkw
  by_cases l : c - 1 < n1
  · rw [if_pos l]
    have := hc (r - 1) (c - 1)
    have q : (0 : Int) ≤ ((c - 1 : Nat) : Int) * 13 ^ (11 - (r - 1)) := Int.mul_nonneg (by omega) (Int.le_of_lt p1)
    have q2 : ((c - 1 : Nat) : Int) * 13 ^ (11 - (r - 1)) ≤ 12 * 13 ^ (11 - (r - 1)) := Int.mul_le_mul_of_nonneg_right (by omega) (Int.le_of_lt p1)
    omega
  · rw [if_neg l]
    omega
theorem fn_wof {n0 n1 r c : Nat} {N D G : Nat → Nat → Nat} (h0 : n0 ≤ 12) (h1 : n1 ≤ 12) (hr : 1 ≤ r) (hr2 : r ≤ n0) (hc : 1 ≤ c) (hc2 : c ≤ n0 + n1) {I : Nat → Nat → Int32} {J : Nat → Nat → Int64} {T : Option Nat} {P : Int64 → (Nat → Nat → Int32) → (Nat → Nat → Int64) → Option Nat → Prop} (e1 : I 182 1 = nI n1) (h : bkM I n0 n1 N D G) (hf : ∀ k, k < 12 → J 193 k = lZ (13 ^ (11 - k))) (hP : P (lZ (bkw n1 (bko N D G) r c)) I J T) : wp_X2_weightOf (nI (r - 1)) (nI (c - 1)) I J T P := by
  have ia : ix_inb (nI (r - 1)) 12 = true := nI_in2 (by omega) (by decide)
  obtain ⟨p1, p2⟩ := p13 (r - 1)
  unfold wp_X2_weightOf
  rw [show ((1 : Int32)).toNatClampNeg = 1 from rfl, e1, nI_clamp (show r - 1 < 2 ^ 31 by omega), hf (r - 1) (by omega), nI_ltI (by omega) (by omega)]
  unfold bkw at hP
  refine ⟨fun l => ?_, fun l => ⟨ia, ?_⟩⟩
  · rw [if_pos l] at hP
    refine fn_cst h0 h1 (by omega) l h ⟨ia, ?_⟩
    have b := bko_le (N := N) (D := D) (G := G) (a := r - 1) (b := c - 1)
    rw [hf (r - 1) (by omega)]
    have e : (nI (bko N D G (r - 1) (c - 1)) - 25).toInt64 * (23298085122481 : Int64) + (nI (c - 1)).toInt64 * lZ (13 ^ (11 - (r - 1))) = lZ (((bko N D G (r - 1) (c - 1) : Int) - 25) * 23298085122481 + ((c - 1 : Nat) : Int) * 13 ^ (11 - (r - 1))) := by
      rw [nI_iZ, show (25 : Int32) = iZ 25 from rfl, iZ_sub, iZ_64 (by omega), nI_iZ, iZ_64 (by omega), show (23298085122481 : Int64) = lZ 23298085122481 from rfl, lZ_mul, lZ_mul, lZ_add]
    rw [e]
    exact hP
  · rw [if_neg l] at hP
    rw [show (582452128062025 : Int64) = lZ (25 * 23298085122481) from rfl, show (12 : Int64) = lZ 12 from rfl, lZ_mul, lZ_add]
    exact hP
/-- the search's rows in memory -/
def hM (m : Nat) (kn : Nat → Prop) (I : Nat → Nat → Int32) (J : Nat → Nat → Int64) (u v sl : Nat → Int) (p wy : Nat → Nat) (us : Nat → Bool) : Prop := (∀ r, r ≤ 12 → J 194 r = lZ (u r)) ∧ ∀ c, c ≤ m → J 195 c = lZ (v c) ∧ J 196 c = lZ (sl c) ∧ I 197 c = nI (p c) ∧ (kn c → I 198 c = nI (wy c)) ∧ I 199 c = s01_ (us c)
theorem fn_near {m n0 n1 a k i : Nat} {N D G : Nat → Nat → Nat} {u v sl : Nat → Int} {p wy : Nat → Nat} {us us1 : Nat → Bool} (h0 : n0 ≤ 12) (h1 : n1 ≤ 12) (hm : m = n0 + n1) (hi : i < n0) {I : Nat → Nat → Int32} {J : Nat → Nat → Int64} {T : Option Nat} {P : Int32 → (Nat → Nat → Int32) → (Nat → Nat → Int64) → Option Nat → Prop} (e1 : I 182 1 = nI n1) (h : bkM I n0 n1 N D G) (hf : ∀ k, k < 12 → J 193 k = lZ (13 ^ (11 - k))) (ha : a ≤ m) (hus : ∀ c, c ≤ m → us1 c = (if c = a then true else us c)) (mm : hM m (fun c => 0 < k ∧ 1 ≤ c) I J u v sl p wy us1) (hk0 : k = 0 → ∀ c, 1 ≤ c → c ≤ m → us1 c = false) (pa : 1 ≤ p a ∧ p a ≤ i + 1) (bu : -605750213184506 ≤ u (p a) ∧ u (p a) ≤ 605750213184506) (bv : ∀ c, 1 ≤ c → c ≤ m → -1211500426369012 ≤ v c ∧ v c ≤ 0) (bs : ∀ c, 1 ≤ c → c ≤ m → us1 c = false → (k = 0 ∧ sl c = 2305843009213693951) ∨ (0 < k ∧ -605750213184506 * 4 ≤ sl c ∧ sl c ≤ 605750213184506 * 4)) (ex : ∃ c, 1 ≤ c ∧ c ≤ m ∧ us1 c = false) (hP : ∀ I2 J2 nr sl1 wy1, fr_off [(198, 199, 0, 2147483648)] I I2 → fr_off [(196, 197, 0, 2147483648)] J J2 → hM m (fun c => 1 ≤ c) I2 J2 u v sl1 p wy1 us1 → (∀ c, 1 ≤ c → c ≤ m → us1 c = false → (sl1 c = bkw n1 (bko N D G) (p a) c - u (p a) - v c ∧ wy1 c = a ∧ (0 < k → bkw n1 (bko N D G) (p a) c - u (p a) - v c ≤ sl c)) ∨ (0 < k ∧ sl1 c = sl c ∧ wy1 c = wy c ∧ sl c ≤ bkw n1 (bko N D G) (p a) c - u (p a) - v c)) → (∀ c, c ≤ m → us1 c = true → wy1 c = wy c) → (∀ c, 1 ≤ c → c ≤ m → us1 c = false → -605750213184506 * 4 ≤ sl1 c ∧ sl1 c ≤ 605750213184506 * 4) → (1 ≤ nr ∧ nr ≤ m ∧ us1 nr = false ∧ ∀ c, 1 ≤ c → c ≤ m → us1 c = false → sl1 nr ≤ sl1 c) → P (nI nr) I2 J2 T) : wp_X2_nearestFrom (nI a) (nI m) I J T P := by
  have cb : ∀ a b, bko N D G a b ≤ 50 := fun a b => bko_le
  have ia : ix_inb (nI a) 25 = true := nI_in2 (by omega) (by decide)
  unfold wp_X2_nearestFrom
  rw [nI_clamp (show a < 2 ^ 31 by omega), (mm.2 a ha).2.2.1]
  refine ⟨ia, ?_⟩
  intro V hV
  have key : ∀ (q c : Nat) (I1 : Nat → Nat → Int32) (J1 : Nat → Nat → Int64) (nr : Nat) (ls : Int) (sl1 : Nat → Int) (wy1 : Nat → Nat), c + q = m + 1 → 1 ≤ c → fr_off [(198, 199, 0, 2147483648)] I I1 → fr_off [(196, 197, 0, 2147483648)] J J1 → hM m (fun x => 1 ≤ x ∧ (0 < k ∨ (x < c ∧ us1 x = false))) I1 J1 u v sl1 p wy1 us1 → (∀ x, 1 ≤ x → x < c → us1 x = false → (sl1 x = bkw n1 (bko N D G) (p a) x - u (p a) - v x ∧ wy1 x = a ∧ (0 < k → bkw n1 (bko N D G) (p a) x - u (p a) - v x ≤ sl x)) ∨ (0 < k ∧ sl1 x = sl x ∧ wy1 x = wy x ∧ sl x ≤ bkw n1 (bko N D G) (p a) x - u (p a) - v x)) → (∀ x, c ≤ x → x ≤ m → sl1 x = sl x ∧ wy1 x = wy x) → (∀ x, x ≤ m → us1 x = true → wy1 x = wy x) → (∀ x, 1 ≤ x → x < c → us1 x = false → -605750213184506 * 4 ≤ sl1 x ∧ sl1 x ≤ 605750213184506 * 4) → ((ls = 2305843009213693951 ∧ nr = 0 ∧ ∀ x, 1 ≤ x → x < c → us1 x = true) ∨ (1 ≤ nr ∧ nr < c ∧ us1 nr = false ∧ ls = sl1 nr ∧ ∀ x, 1 ≤ x → x < c → us1 x = false → sl1 nr ≤ sl1 x)) → V (nI a) (nI m) (nI nr) (nI (p a)) (lZ ls) (nI c) I1 J1 T := by
    intro q
    induction q with
    | zero =>
      intro c I1 J1 nr ls sl1 wy1 hc c1 o oj hm1 g1 g2 g3 g4 g5
      have hc : c = m + 1 := by omega
      subst hc
      apply hV
      unfold wb_X2_nearestFrom_18
      have nle : ¬ nI (m + 1) ≤ nI m := fun z => by
        rw [Int32.le_iff_toInt_le, nI_toInt (by omega), nI_toInt (by omega)] at z
        omega
      refine ⟨fun z => absurd z nle, fun _ => ?_⟩
      rcases g5 with ⟨y1, y2, y3⟩ | ⟨y1, y2, y3, y4, y5⟩
      · obtain ⟨x, x1, x2, x3⟩ := ex
        rw [y3 x x1 (by omega)] at x3
        cases x3
      · exact hP I1 J1 nr sl1 wy1 o oj ⟨hm1.1, fun x hx => ⟨(hm1.2 x hx).1, (hm1.2 x hx).2.1, (hm1.2 x hx).2.2.1, fun kx => (hm1.2 x hx).2.2.2.1 ⟨kx, by
            by_cases k0 : k = 0
            · exact Or.inr ⟨by omega, hk0 k0 x kx hx⟩
            · exact Or.inl (by omega)⟩, (hm1.2 x hx).2.2.2.2⟩⟩ (fun x x1 x2 => g1 x x1 (by omega)) g3 (fun x x1 x2 => g4 x x1 (by omega)) ⟨y1, by omega, y3, fun x x1 x2 => y5 x x1 (by omega)⟩
    | succ q ih =>
      intro c I1 J1 nr ls sl1 wy1 hc c1 o oj hm1 g1 g2 g3 g4 g5
      have cm : c ≤ m := by omega
      have le : nI c ≤ nI m := by
        rw [Int32.le_iff_toInt_le, nI_toInt (by omega), nI_toInt (by omega)]
        omega
      have ic : ix_inb (nI c) 25 = true := nI_in2 (by omega) (by decide)
      have c5 : (nI c).toNatClampNeg = c := nI_clamp (by omega)
      obtain ⟨t1, t2, t3, t4, t5⟩ := hm1.2 c cm
      apply hV
      unfold wb_X2_nearestFrom_18
      rw [c5, t5]
      simp only [nI_1]
      refine ⟨fun _ => ⟨ic, ?_⟩, fun z => absurd le z⟩
      cases hu : us1 c with
      | true =>
        refine ⟨fun z => absurd z (show ¬ (1 : Int32) = 0 by decide), fun _ => ?_⟩
        refine ih (c + 1) I1 J1 nr ls sl1 wy1 (by omega) (by omega) o oj ⟨hm1.1, fun x hx => ⟨(hm1.2 x hx).1, (hm1.2 x hx).2.1, (hm1.2 x hx).2.2.1, fun kx => (hm1.2 x hx).2.2.2.1 ⟨kx.1, kx.2.imp id (fun y => ⟨by
            have : x ≠ c := fun e => by rw [e, hu] at y; cases y.2
            omega, y.2⟩)⟩, (hm1.2 x hx).2.2.2.2⟩⟩ (fun x x1 x2 x3 => ?_) (fun x x1 x2 => g2 x (by omega) x2) g3 (fun x x1 x2 x3 => ?_) ?_
        · by_cases e : x = c
          · subst e; rw [hu] at x3; cases x3
          · exact g1 x x1 (by omega) x3
        · by_cases e : x = c
          · subst e; rw [hu] at x3; cases x3
          · exact g4 x x1 (by omega) x3
        · rcases g5 with ⟨y1, y2, y3⟩ | ⟨y1, y2, y3, y4, y5⟩
          · refine Or.inl ⟨y1, y2, fun x x1 x2 => ?_⟩
            by_cases e : x = c
            · subst e; exact hu
            · exact y3 x x1 (by omega)
          · refine Or.inr ⟨y1, by omega, y3, y4, fun x x1 x2 x3 => ?_⟩
            by_cases e : x = c
            · subst e; rw [hu] at x3; cases x3
            · exact y5 x x1 (by omega) x3
      | false =>
        refine ⟨fun _ => ?_, fun z => absurd rfl z⟩
        obtain ⟨bv1, bv2⟩ := bv c c1 cm
        obtain ⟨bw1, bw2⟩ := bkw_bd h1 cb (p a) c
        obtain ⟨gs, gw⟩ := g2 c (Nat.le_refl _) cm
        have bsc := bs c c1 cm hu
        rw [nI_dec (show 0 < p a by omega), nI_dec (show 0 < c by omega)]
        have h9 : bkM I1 n0 n1 N D G := by
          unfold bkM
          rw [fr_rw1 o 184 rfl, fr_rw1 o 185 rfl, fr_rw1 o 187 rfl, fr_rw1 o 188 rfl, fr_rw1 o 190 rfl, fr_rw1 o 191 rfl]
          exact h
        refine fn_wof (n0 := n0) h0 h1 pa.1 (by omega) c1 (by omega) (by rw [fr_at 182 1 o rfl]; exact e1) h9 (by rw [fr_rw1 oj 193 rfl]; exact hf) ⟨nI_in2 (by omega) (by decide), ic, ic, ?_⟩
        have em : lZ (bkw n1 (bko N D G) (p a) c) - J1 194 (nI (p a)).toNatClampNeg - J1 195 c = lZ (bkw n1 (bko N D G) (p a) c - u (p a) - v c) := by
          rw [nI_clamp (show p a < 2 ^ 31 by omega), hm1.1 (p a) (by omega), t1, lZ_sub, lZ_sub]
        rw [em, t2]
        generalize hM0 : bkw n1 (bko N D G) (p a) c - u (p a) - v c = M at *
        have bM : -605750213184506 * 4 ≤ M ∧ M ≤ 605750213184506 * 4 := by omega
        have bls : -605750213184506 * 4 ≤ ls ∧ ls ≤ 2305843009213693951 := by
          rcases g5 with ⟨y1, y2, y3⟩ | ⟨y1, y2, y3, y4, y5⟩
          · omega
          · have := g4 nr y1 y2 y3; omega
        rw [gs] at t2 ⊢
        rw [lgc_lt, lgc_lt, lgc_lt, lZ_lt (by omega) (by omega), u2_s, lZ_lt (by omega) (by omega), lZ_lt (by omega) (by omega)]
        -- the memory with the nearer one told
        have hmN : hM m (fun x => 1 ≤ x ∧ (0 < k ∨ (x < c + 1 ∧ us1 x = false))) (ix_u2 I1 198 c (nI a)) (ix_u2 J1 196 c (lZ M)) u v (fun x => if x = c then M else sl1 x) p (fun x => if x = c then a else wy1 x) us1 := by
          refine ⟨fun r hr => by rw [u2_c (by decide)]; exact hm1.1 r hr, fun x hx => ?_⟩
          obtain ⟨z1, z2, z3, z4, z5⟩ := hm1.2 x hx
          rw [u2_c (show 195 ≠ 196 by decide), u2_c (show 197 ≠ 198 by decide), u2_c (show 199 ≠ 198 by decide)]
          by_cases e : x = c
          · subst e
            rw [u2_s, u2_s]
            dsimp only
            rw [if_pos rfl, if_pos rfl]
            exact ⟨z1, rfl, z3, fun _ => rfl, z5⟩
          · rw [u2_j e, u2_j e]
            dsimp only
            rw [if_neg e, if_neg e]
            exact ⟨z1, z2, z3, fun kx => z4 ⟨kx.1, kx.2.imp id (fun y => ⟨by omega, y.2⟩)⟩, z5⟩
        have g1N : M < sl c → ∀ x, 1 ≤ x → x < c + 1 → us1 x = false → ((fun x => if x = c then M else sl1 x) x = bkw n1 (bko N D G) (p a) x - u (p a) - v x ∧ (fun x => if x = c then a else wy1 x) x = a ∧ (0 < k → bkw n1 (bko N D G) (p a) x - u (p a) - v x ≤ sl x)) ∨ (0 < k ∧ (fun x => if x = c then M else sl1 x) x = sl x ∧ (fun x => if x = c then a else wy1 x) x = wy x ∧ sl x ≤ bkw n1 (bko N D G) (p a) x - u (p a) - v x) := fun l x x1 x2 x3 => by
          by_cases e : x = c
          · subst e
            left
            show (if x = x then M else sl1 x) = _ ∧ (if x = x then a else wy1 x) = a ∧ _
            rw [if_pos rfl, if_pos rfl]
            exact ⟨hM0.symm, rfl, fun _ => by rw [hM0]; omega⟩
          · show ((if x = c then M else sl1 x) = _ ∧ (if x = c then a else wy1 x) = a ∧ _) ∨ (_ ∧ (if x = c then M else sl1 x) = _ ∧ (if x = c then a else wy1 x) = _ ∧ _)
            rw [if_neg e, if_neg e]
            exact g1 x x1 (by omega) x3
        have g2N : ∀ x, c + 1 ≤ x → x ≤ m → (fun x => if x = c then M else sl1 x) x = sl x ∧ (fun x => if x = c then a else wy1 x) x = wy x := fun x x1 x2 => by
          show (if x = c then M else sl1 x) = sl x ∧ (if x = c then a else wy1 x) = wy x
          rw [if_neg (by omega), if_neg (by omega)]
          exact g2 x (by omega) x2
        have g3N : ∀ x, x ≤ m → us1 x = true → (fun x => if x = c then a else wy1 x) x = wy x := fun x x1 x2 => by
          by_cases e : x = c
          · subst e; rw [hu] at x2; cases x2
          · show (if x = c then a else wy1 x) = wy x
            rw [if_neg e]; exact g3 x x1 x2
        have g4N : ∀ x, 1 ≤ x → x < c + 1 → us1 x = false → -605750213184506 * 4 ≤ (fun x => if x = c then M else sl1 x) x ∧ (fun x => if x = c then M else sl1 x) x ≤ 605750213184506 * 4 := fun x x1 x2 x3 => by
          show _ ≤ (if x = c then M else sl1 x) ∧ (if x = c then M else sl1 x) ≤ _
          by_cases e : x = c
          · rw [if_pos e]; exact bM
          · rw [if_neg e]; exact g4 x x1 (by omega) x3
        refine ⟨fun l => ⟨ic, ic, ic, fun l2 => ⟨ic, ?_⟩, fun l2 => ?_⟩, fun l => ⟨ic, ?_⟩⟩
        · refine ih (c + 1) _ _ c M _ _ (by omega) (by omega) (fr_putn rfl (by omega) o) (fr_putn rfl (by omega) oj) hmN (g1N l) g2N g3N g4N (Or.inr ⟨c1, by omega, hu, by show M = if c = c then M else sl1 c; rw [if_pos rfl], fun x x1 x2 x3 => ?_⟩)
          show (if c = c then M else sl1 c) ≤ if x = c then M else sl1 x
          rw [if_pos rfl]
          by_cases e : x = c
          · rw [if_pos e]; exact Int.le_refl _
          · rw [if_neg e]
            rcases g5 with ⟨y1, y2, y3⟩ | ⟨y1, y2, y3, y4, y5⟩
            · rw [y3 x x1 (by omega)] at x3; cases x3
            · have := y5 x x1 (by omega) x3; omega
        · refine ih (c + 1) _ _ nr ls _ _ (by omega) (by omega) (fr_putn rfl (by omega) o) (fr_putn rfl (by omega) oj) hmN (g1N l) g2N g3N g4N ?_
          rcases g5 with ⟨y1, y2, y3⟩ | ⟨y1, y2, y3, y4, y5⟩
          · omega
          · refine Or.inr ⟨y1, by omega, y3, by show ls = if nr = c then M else sl1 nr; rw [if_neg (by omega)]; exact y4, fun x x1 x2 x3 => ?_⟩
            show (if nr = c then M else sl1 nr) ≤ if x = c then M else sl1 x
            rw [if_neg (by omega)]
            by_cases e : x = c
            · rw [if_pos e]; omega
            · rw [if_neg e]; exact y5 x x1 (by omega) x3
        · have bsl : 0 < k ∧ -605750213184506 * 4 ≤ sl c ∧ sl c ≤ 605750213184506 * 4 := by
            rcases bsc with ⟨z1, z2⟩ | z
            · omega
            · exact z
          have g1O : ∀ x, 1 ≤ x → x < c + 1 → us1 x = false → (sl1 x = bkw n1 (bko N D G) (p a) x - u (p a) - v x ∧ wy1 x = a ∧ (0 < k → bkw n1 (bko N D G) (p a) x - u (p a) - v x ≤ sl x)) ∨ (0 < k ∧ sl1 x = sl x ∧ wy1 x = wy x ∧ sl x ≤ bkw n1 (bko N D G) (p a) x - u (p a) - v x) := fun x x1 x2 x3 => by
            by_cases e : x = c
            · subst e; exact Or.inr ⟨bsl.1, gs, gw, by rw [hM0]; omega⟩
            · exact g1 x x1 (by omega) x3
          have g4O : ∀ x, 1 ≤ x → x < c + 1 → us1 x = false → -605750213184506 * 4 ≤ sl1 x ∧ sl1 x ≤ 605750213184506 * 4 := fun x x1 x2 x3 => by
            by_cases e : x = c
            · subst e; rw [gs]; exact bsl.2
            · exact g4 x x1 (by omega) x3
          have hmO : hM m (fun x => 1 ≤ x ∧ (0 < k ∨ (x < c + 1 ∧ us1 x = false))) I1 J1 u v sl1 p wy1 us1 := ⟨hm1.1, fun x hx => ⟨(hm1.2 x hx).1, (hm1.2 x hx).2.1, (hm1.2 x hx).2.2.1, fun kx => (hm1.2 x hx).2.2.2.1 ⟨kx.1, Or.inl bsl.1⟩, (hm1.2 x hx).2.2.2.2⟩⟩
          refine ⟨fun l2 => ⟨ic, ?_⟩, fun l2 => ?_⟩
          · refine ih (c + 1) I1 J1 c (sl c) sl1 wy1 (by omega) (by omega) o oj hmO g1O (fun x x1 x2 => g2 x (by omega) x2) g3 g4O (Or.inr ⟨c1, by omega, hu, gs.symm, fun x x1 x2 x3 => ?_⟩)
            by_cases e : x = c
            · rw [e]; exact Int.le_refl _
            · rcases g5 with ⟨y1, y2, y3⟩ | ⟨y1, y2, y3, y4, y5⟩
              · rw [y3 x x1 (by omega)] at x3; cases x3
              · have := y5 x x1 (by omega) x3; omega
          · refine ih (c + 1) I1 J1 nr ls sl1 wy1 (by omega) (by omega) o oj hmO g1O (fun x x1 x2 => g2 x (by omega) x2) g3 g4O ?_
            rcases g5 with ⟨y1, y2, y3⟩ | ⟨y1, y2, y3, y4, y5⟩
            · omega
            · refine Or.inr ⟨y1, by omega, y3, y4, fun x x1 x2 x3 => ?_⟩
              by_cases e : x = c
              · rw [e]; omega
              · exact y5 x x1 (by omega) x3
  exact key m 1 I J 0 2305843009213693951 sl wy (by omega) (by omega) fr_refl fr_refl ⟨mm.1, fun x hx => ⟨(mm.2 x hx).1, (mm.2 x hx).2.1, (mm.2 x hx).2.2.1, fun kx => (mm.2 x hx).2.2.2.1 ⟨by rcases kx.2 with y | y <;> omega, kx.1⟩, (mm.2 x hx).2.2.2.2⟩⟩ (fun x x1 x2 => by omega) (fun x x1 x2 => ⟨rfl, rfl⟩) (fun x x1 x2 => rfl) (fun x x1 x2 => by omega) (Or.inl ⟨rfl, rfl, fun x x1 x2 => by omega⟩)
