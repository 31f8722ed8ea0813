/-! which places changed: rectangles of cells and slots -/
abbrev fr_R : Type := Nat × Nat × Nat × Nat
def fr_1 (r : fr_R) (a j : Nat) : Bool := Nat.ble r.1 a && (Nat.blt a r.2.1 && (Nat.ble r.2.2.1 j && Nat.blt j r.2.2.2))
def fr_in (D : List fr_R) (a j : Nat) : Bool := D.any (fun r => fr_1 r a j)
def fr_off {α : Type} (D : List fr_R) (f g : Nat → Nat → α) : Prop := ∀ a j, fr_in D a j = false → g a j = f a j
theorem fr_refl {α : Type} {D : List fr_R} {f : Nat → Nat → α} : fr_off D f f := fun _ _ _ => rfl
theorem fr_trans {α : Type} {D : List fr_R} {f g h : Nat → Nat → α} (h1 : fr_off D f g) (h2 : fr_off D g h) : fr_off D f h := fun a j q => (h2 a j q).trans (h1 a j q)
theorem fr_put {α : Type} {D : List fr_R} {f g : Nat → Nat → α} {k j : Nat} {v : α} (hk : fr_in D k j = true) (h : fr_off D f g) : fr_off D f (ix_u2 g k j v) := fun a b q => by
  unfold ix_u2
  by_cases h1 : a = k
  · by_cases h2 : b = j
    · subst h1; subst h2
      rw [hk] at q
      cases q
    · rw [if_pos h1, if_neg h2]
      exact h a b q
  · rw [if_neg h1]
    exact h a b q
def fr_le (D E : List fr_R) : Bool := D.all (fun d => E.any (fun e => Nat.ble e.1 d.1 && (Nat.ble d.2.1 e.2.1 && (Nat.ble e.2.2.1 d.2.2.1 && Nat.ble d.2.2.2 e.2.2.2))))
theorem fr_1_iff {r : fr_R} {a j : Nat} : fr_1 r a j = true ↔ (r.1 ≤ a ∧ a < r.2.1 ∧ r.2.2.1 ≤ j ∧ j < r.2.2.2) := by
  unfold fr_1
  simp [Bool.and_eq_true]
theorem fr_le_ok {D E : List fr_R} {a j : Nat} (h : fr_le D E = true) (q : fr_in D a j = true) : fr_in E a j = true := by
  unfold fr_in at q ⊢
  rw [List.any_eq_true] at q ⊢
  obtain ⟨d, hd, q⟩ := q
  unfold fr_le at h
  rw [List.all_eq_true] at h
  have h2 := h d hd
  rw [List.any_eq_true] at h2
  obtain ⟨e, he, h3⟩ := h2
  refine ⟨e, he, ?_⟩
  rw [fr_1_iff] at q ⊢
  simp only [Bool.and_eq_true, Nat.ble_eq] at h3
  omega
theorem fr_mono {α : Type} {D E : List fr_R} {f g : Nat → Nat → α} (hD : fr_le D E = true) (h : fr_off D f g) : fr_off E f g := fun a j q => h a j (by
  cases e : fr_in D a j with
  | false => rfl
  | true => rw [fr_le_ok hD e] at q; cases q)
def fr_dj (S D : List fr_R) : Bool := S.all (fun s => D.all (fun d => Nat.ble s.2.1 d.1 || (Nat.ble d.2.1 s.1 || (Nat.ble s.2.2.2 d.2.2.1 || Nat.ble d.2.2.2 s.2.2.1))))
theorem fr_dj_ok {S D : List fr_R} {a j : Nat} (h : fr_dj S D = true) (q : fr_in S a j = true) : fr_in D a j = false := by
  cases e : fr_in D a j with
  | false => rfl
  | true =>
    exfalso
    unfold fr_in at q e
    rw [List.any_eq_true] at q e
    obtain ⟨s, hs, q⟩ := q
    obtain ⟨d, hd, e⟩ := e
    unfold fr_dj at h
    rw [List.all_eq_true] at h
    have h2 := h s hs
    rw [List.all_eq_true] at h2
    have h3 := h2 d hd
    rw [fr_1_iff] at q e
    simp only [Bool.or_eq_true, Nat.ble_eq] at h3
    omega
/-- what a piece reads is as it was -/
theorem fr_eq {α : Type} {S D : List fr_R} {f g : Nat → Nat → α} (h : fr_off D f g) (hd : fr_dj S D = true) {a j : Nat} (hs : fr_in S a j = true) : g a j = f a j := h a j (fr_dj_ok hd hs)
theorem fr_at {α : Type} {D : List fr_R} {f g : Nat → Nat → α} (a j : Nat) (h : fr_off D f g) (hd : fr_in D a j = false) : g a j = f a j := h a j hd
theorem u2_c {α : Type} {f : Nat → Nat → α} {k j a b : Nat} {v : α} (h : a ≠ k) : ix_u2 f k j v a b = f a b := by simp [ix_u2, h]
theorem u2_j {α : Type} {f : Nat → Nat → α} {k j b : Nat} {v : α} (h : b ≠ j) : ix_u2 f k j v k b = f k b := by simp [ix_u2, h]
theorem u2_r {α : Type} {f : Nat → Nat → α} {k j a : Nat} {v : α} (h : a ≠ k) : ix_u2 f k j v a = f a := funext fun b => by simp [ix_u2, h]
/-! ints as numbers -/
def iZ (z : Int) : Int32 := Int32.ofInt z
def lZ (z : Int) : Int64 := Int64.ofInt z
theorem iZ_toInt {z : Int} (h1 : -2147483648 ≤ z) (h2 : z < 2147483648) : (iZ z).toInt = z := Int32.toInt_ofInt_of_le h1 h2
theorem lZ_toInt {z : Int} (h1 : -9223372036854775808 ≤ z) (h2 : z < 9223372036854775808) : (lZ z).toInt = z := Int64.toInt_ofInt_of_le h1 h2
theorem iZ_of (x : Int32) : x = iZ x.toInt := (Int32.ofInt_toInt x).symm
theorem lZ_of (x : Int64) : x = lZ x.toInt := (Int64.ofInt_toInt x).symm
theorem iZ_add (a b : Int) : iZ a + iZ b = iZ (a + b) := (Int32.ofInt_add a b).symm
theorem iZ_sub (a b : Int) : iZ a - iZ b = iZ (a - b) := (Int32.ofInt_sub a b).symm
theorem iZ_mul (a b : Int) : iZ a * iZ b = iZ (a * b) := (Int32.ofInt_mul a b).symm
theorem iZ_neg (a : Int) : -(iZ a) = iZ (-a) := (Int32.ofInt_neg a).symm
theorem lZ_add (a b : Int) : lZ a + lZ b = lZ (a + b) := (Int64.ofInt_add a b).symm
theorem lZ_sub (a b : Int) : lZ a - lZ b = lZ (a - b) := (Int64.ofInt_sub a b).symm
theorem lZ_mul (a b : Int) : lZ a * lZ b = lZ (a * b) := (Int64.ofInt_mul a b).symm
theorem lZ_neg (a : Int) : -(lZ a) = lZ (-a) := (Int64.ofInt_neg a).symm
theorem nI_iZ (n : Nat) : nI n = iZ n := rfl
theorem iZ_lt {a b : Int} (ha : -2147483648 ≤ a ∧ a < 2147483648) (hb : -2147483648 ≤ b ∧ b < 2147483648) : iZ a < iZ b ↔ a < b := by
  rw [Int32.lt_iff_toInt_lt, iZ_toInt ha.1 ha.2, iZ_toInt hb.1 hb.2]
theorem iZ_le {a b : Int} (ha : -2147483648 ≤ a ∧ a < 2147483648) (hb : -2147483648 ≤ b ∧ b < 2147483648) : iZ a ≤ iZ b ↔ a ≤ b := by
  rw [Int32.le_iff_toInt_le, iZ_toInt ha.1 ha.2, iZ_toInt hb.1 hb.2]
theorem iZ_eq {a b : Int} (ha : -2147483648 ≤ a ∧ a < 2147483648) (hb : -2147483648 ≤ b ∧ b < 2147483648) : iZ a = iZ b ↔ a = b := by
  rw [← Int32.toInt_inj, iZ_toInt ha.1 ha.2, iZ_toInt hb.1 hb.2]
theorem lZ_lt {a b : Int} (ha : -9223372036854775808 ≤ a ∧ a < 9223372036854775808) (hb : -9223372036854775808 ≤ b ∧ b < 9223372036854775808) : lZ a < lZ b ↔ a < b := by
  rw [Int64.lt_iff_toInt_lt, lZ_toInt ha.1 ha.2, lZ_toInt hb.1 hb.2]
theorem lZ_le {a b : Int} (ha : -9223372036854775808 ≤ a ∧ a < 9223372036854775808) (hb : -9223372036854775808 ≤ b ∧ b < 9223372036854775808) : lZ a ≤ lZ b ↔ a ≤ b := by
  rw [Int64.le_iff_toInt_le, lZ_toInt ha.1 ha.2, lZ_toInt hb.1 hb.2]
theorem lZ_eq {a b : Int} (ha : -9223372036854775808 ≤ a ∧ a < 9223372036854775808) (hb : -9223372036854775808 ≤ b ∧ b < 9223372036854775808) : lZ a = lZ b ↔ a = b := by
  rw [← Int64.toInt_inj, lZ_toInt ha.1 ha.2, lZ_toInt hb.1 hb.2]
theorem iZ_64 {a : Int} (ha : -2147483648 ≤ a ∧ a < 2147483648) : (iZ a).toInt64 = lZ a := Int64.toInt_inj.mp (by rw [Int32.toInt_toInt64, iZ_toInt ha.1 ha.2, lZ_toInt (by omega) (by omega)])
theorem lZ_32 (a : Int) : (lZ a).toInt32 = iZ a := Int64.toInt32_ofInt
theorem tdiv_bd {a b : Int} {m : Int} (hb : 0 < b) (h1 : -m ≤ a) (h2 : a ≤ m) : -m ≤ a.tdiv b ∧ a.tdiv b ≤ m := by
  have h0 : 0 ≤ m := by omega
  rcases Int.le_total 0 a with h | h
  · rw [Int.tdiv_eq_ediv_of_nonneg h]
    have := Int.ediv_le_self b h
    have := Int.ediv_nonneg h (Int.le_of_lt hb)
    omega
  · have e : a.tdiv b = -((-a).tdiv b) := by rw [Int.neg_tdiv]; omega
    rw [e, Int.tdiv_eq_ediv_of_nonneg (by omega)]
    have := Int.ediv_le_self (a := -a) b (by omega)
    have := Int.ediv_nonneg (a := -a) (b := b) (by omega) (Int.le_of_lt hb)
    omega
theorem iZ_div {a b : Int} (ha : -2147483647 ≤ a ∧ a < 2147483648) (hb : 0 < b ∧ b < 2147483648) : iZ a / iZ b = iZ (a.tdiv b) := by
  apply Int32.toInt_inj.mp
  have := tdiv_bd (m := 2147483647) hb.1 (a := a) (by omega) (by omega)
  rw [Int32.toInt_div, iZ_toInt (by omega) (by omega), iZ_toInt (by omega) (by omega), iZ_toInt (by omega) (by omega), Int.bmod_eq_of_le (by omega) (by omega)]
theorem lZ_div {a b : Int} (ha : -9223372036854775807 ≤ a ∧ a < 9223372036854775808) (hb : 0 < b ∧ b < 9223372036854775808) : lZ a / lZ b = lZ (a.tdiv b) := by
  apply Int64.toInt_inj.mp
  have := tdiv_bd (m := 9223372036854775807) hb.1 (a := a) (by omega) (by omega)
  rw [Int64.toInt_div, lZ_toInt (by omega) (by omega), lZ_toInt (by omega) (by omega), lZ_toInt (by omega) (by omega), Int.bmod_eq_of_le (by omega) (by omega)]
theorem i32_lit (n : Nat) : (OfNat.ofNat n : Int32) = iZ (OfNat.ofNat n : Int) := rfl
theorem i64_lit (n : Nat) : (OfNat.ofNat n : Int64) = lZ (OfNat.ofNat n : Int) := rfl
theorem iZ_m1 : (-1 : Int32) = iZ (-1) := rfl
theorem lZ_m1 : (-1 : Int64) = lZ (-1) := rfl
