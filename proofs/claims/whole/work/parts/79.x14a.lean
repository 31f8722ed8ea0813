theorem bt_5 : ∀ b : Fin 12, ∀ h l : Fin 64, decide ((nI (64 * h.val + l.val) >>> (nI b.val &&& 31)) &&& 1 = 0) = !((64 * h.val + l.val).testBit b.val) := by decide +kernel
theorem bt_6 : ∀ b : Fin 12, ∀ h l : Fin 64, decide (nI (64 * h.val + l.val) ||| ((1 : Int32) <<< (nI b.val &&& 31)) = nI ((64 * h.val + l.val) ||| 2 ^ b.val)) = true := by decide +kernel
theorem bt_7 : ∀ b : Fin 13, (1 : Int32) <<< (nI b.val &&& 31) = nI (2 ^ b.val) := by decide +kernel
theorem bi_t {s b : Nat} (hs : s < 4096) (hb : b < 12) : ((nI s >>> (nI b &&& 31)) &&& 1 = 0) ↔ s.testBit b = false := by
  have := bt_5 ⟨b, hb⟩ ⟨s / 64, by omega⟩ ⟨s % 64, by omega⟩
  have e : 64 * (s / 64) + s % 64 = s := by omega
  dsimp only at this
  rw [e] at this
  constructor
  · intro h
    rw [decide_eq_true h] at this
    cases c : s.testBit b with
    | false => rfl
    | true => rw [c] at this; cases this
  · intro h
    rw [h] at this
    exact of_decide_eq_true this
theorem bi_o {s b : Nat} (hs : s < 4096) (hb : b < 12) : nI s ||| ((1 : Int32) <<< (nI b &&& 31)) = nI (s ||| 2 ^ b) := by
  have := bt_6 ⟨b, hb⟩ ⟨s / 64, by omega⟩ ⟨s % 64, by omega⟩
  have e : 64 * (s / 64) + s % 64 = s := by omega
  dsimp only at this
  rw [e] at this
  exact of_decide_eq_true this
theorem bi_b {s b x : Nat} : (s ||| 2 ^ b).testBit x = (s.testBit x || decide (x = b)) := by
  rw [Nat.testBit_or, Nat.testBit_two_pow]
  congr 1
  exact decide_eq_decide.mpr ⟨fun h => h.symm, fun h => h.symm⟩
theorem bi_l {s b n : Nat} (hs : s < 2 ^ n) (hb : b < n) : s ||| 2 ^ b < 2 ^ n := Nat.or_lt_two_pow hs (Nat.pow_lt_pow_right (by omega) hb)
