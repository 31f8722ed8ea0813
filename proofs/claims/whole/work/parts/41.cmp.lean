theorem lgc_lt (a b : Int64) : lg_cmp a b < 0 ↔ a < b := by
  unfold lg_cmp
  by_cases h1 : a > b
  · rw [if_pos h1]
    refine ⟨fun h => absurd h (by decide), fun h => ?_⟩
    have h1 : b < a := h1
    rw [Int64.lt_iff_toInt_lt] at h h1
    omega
  · rw [if_neg h1]
    by_cases h2 : a = b
    · rw [if_pos h2]
      refine ⟨fun h => absurd h (by decide), fun h => ?_⟩
      rw [h2, Int64.lt_iff_toInt_lt] at h
      omega
    · rw [if_neg h2]
      refine ⟨fun _ => ?_, fun _ => by decide⟩
      have h1 : ¬ b < a := h1
      rw [Int64.lt_iff_toInt_lt] at h1 ⊢
      have : a.toInt ≠ b.toInt := fun e => h2 (Int64.toInt_inj.mp e)
      omega
theorem lgc_le (a b : Int64) : lg_cmp a b ≤ 0 ↔ a ≤ b := by
  unfold lg_cmp
  by_cases h1 : a > b
  · rw [if_pos h1]
    refine ⟨fun h => absurd h (by decide), fun h => ?_⟩
    have h1 : b < a := h1
    rw [Int64.le_iff_toInt_le] at h
    rw [Int64.lt_iff_toInt_lt] at h1
    omega
  · rw [if_neg h1]
    have h1 : ¬ b < a := h1
    rw [Int64.lt_iff_toInt_lt] at h1
    by_cases h2 : a = b
    · rw [if_pos h2]
      exact ⟨fun _ => by rw [h2, Int64.le_iff_toInt_le]; omega, fun _ => by decide⟩
    · rw [if_neg h2]
      exact ⟨fun _ => by rw [Int64.le_iff_toInt_le]; omega, fun _ => by decide⟩
theorem lgc_eq (a b : Int64) : lg_cmp a b = 0 ↔ a = b := by
  unfold lg_cmp
  by_cases h1 : a > b
  · rw [if_pos h1]
    refine ⟨fun h => absurd h (by decide), fun h => ?_⟩
    have h1 : b < a := h1
    rw [h, Int64.lt_iff_toInt_lt] at h1
    omega
  · rw [if_neg h1]
    by_cases h2 : a = b
    · rw [if_pos h2]
      exact ⟨fun _ => h2, fun _ => rfl⟩
    · rw [if_neg h2]
      exact ⟨fun h => absurd h (by decide), fun h => absurd h h2⟩
theorem cmp_s (a : Int32) (b : Int64) : a.toInt64 < b ↔ a.toInt < b.toInt := by rw [Int64.lt_iff_toInt_lt, Int32.toInt_toInt64]
theorem cmp_t (a : Int32) (b : Int64) : a.toInt64 ≤ b ↔ a.toInt ≤ b.toInt := by rw [Int64.le_iff_toInt_le, Int32.toInt_toInt64]
/-- an index inside -/
theorem inb_of {x : Int32} {n : Nat} (h0 : 0 ≤ x.toInt) (h1 : x.toInt < n) : ix_inb x n = true := ix_inb_of (vp_in_iff.mpr ⟨h0, h1⟩)
