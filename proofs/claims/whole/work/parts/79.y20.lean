/-! treaties: lists in the class -/
def ybt (m : Nat) : Nat := ((List.range 7).filter (fun j => m.testBit j)).length
theorem ybt_1 : ∀ m : Fin 128, ybt m.1 ≤ 7 ∧ ∀ j : Fin 7, (nI m.1 >>> (nI j.1 &&& 31)) &&& 1 = 0 → ybt (m.1 ||| 2 ^ j.1) = ybt m.1 + 1 := by decide +kernel
theorem lz_7 (x : Int64) : lg_cmp x 7 < 0 ↔ x ≤ 6 := by
  rw [lgc_lt, Int64.lt_iff_toInt_lt, Int64.le_iff_toInt_le]
  show x.toInt < 7 ↔ x.toInt ≤ 6
  omega
