/-! treaties: small facts for the class's sums -/
theorem ye_0 (x : Int64) : yen_c [(0, x)] = [x.toInt32] := by
  unfold yen_c tc_enc
  rw [List.map_cons, List.map_nil, if_pos rfl]
theorem ye_v1 : ∀ j : Fin 7, tc_enc 1 (nI (11 + j.1) - 11).toInt64 = -1 - nI (11 + j.1) := by decide +kernel
theorem ye_1 {x : Int32} (h1 : 11 ≤ x) (h2 : x ≤ 17) : yen_c [(1, (x - 11).toInt64)] = [-1 - x] := by
  obtain ⟨j, hj, e⟩ := y_var h1 h2
  unfold yen_c
  rw [List.map_cons, List.map_nil, e]
  have := ye_v1 ⟨j, hj⟩
  simp only at this
  rw [this]
theorem yq1_rev (x : Int32) : (yq1 x).reverse = yq1 x := by unfold yq1; split <;> rfl
theorem yq1_m {x y : Int32} (h : y ∈ yq1 x) : y = x := by
  unfold yq1 at h
  split at h
  · cases h
  · exact List.mem_singleton.mp h
theorem ybn_5 {k : Int32} (h1 : ¬ (k = 42 ∨ k = 47)) (h2 : ¬ (k = 43 ∨ k = 45)) : ybn k < 5 := by
  unfold ybn
  split
  · decide
  · split
    · decide
    · split
      · decide
      · split
        · next e => exact absurd (Or.inl e) h1
        · split
          · next e => exact absurd (Or.inl e) h2
          · split
            · next e => exact absurd (Or.inr e) h2
            · split
              · next e => exact absurd (Or.inr e) h1
              · split
                · decide
                · split
                  · decide
                  · split <;> decide
theorem ymk_c {k : Nat} (hk : k ≤ 4) : ((k = 1 ∨ k = 3) → ¬ ymk k ≤ 100 ∧ ymk k ≠ 0 ∧ ymk k - 100 = ymk (k + 1)) ∧ (¬ (k = 1 ∨ k = 3) → ymk k ≤ 100 ∧ ymk k ≠ 0 ∧ (k = 0 → ymk k = 40) ∧ (k ≠ 0 → ymk k ≠ 40 ∧ [-1 - ymk k] = yen_c (ycl k))) := by
  have h : ∀ k : Fin 5, ((k.1 = 1 ∨ k.1 = 3) → ¬ ymk k.1 ≤ 100 ∧ ymk k.1 ≠ 0 ∧ ymk k.1 - 100 = ymk (k.1 + 1)) ∧ (¬ (k.1 = 1 ∨ k.1 = 3) → ymk k.1 ≤ 100 ∧ ymk k.1 ≠ 0 ∧ (k.1 = 0 → ymk k.1 = 40) ∧ (k.1 ≠ 0 → ymk k.1 ≠ 40 ∧ [-1 - ymk k.1] = yen_c (ycl k.1))) := by decide +kernel
  exact h ⟨k, by omega⟩
theorem ypt_n (p : Int32) : ypt p ≠ 0 ∧ ypt (ypt p) = ypt p := by
  unfold ypt
  by_cases h : p = 0
  · rw [if_pos h]; decide
  · rw [if_neg h, if_neg h]; exact ⟨h, rfl⟩
theorem ypt_4 {p : Int32} (h : p ≠ 4) : ypt p ≠ 4 := by
  unfold ypt
  split
  · decide
  · exact h
theorem yBs_f {f g : YF} {fs : List YF} (h : g.1 = f.1) : yBs g fs = yBs f fs := by
  cases fs with
  | nil => rfl
  | cons x xs => show yop x xs ++ [ymk g.1] = yop x xs ++ [ymk f.1]; rw [h]
theorem yfo_x (f : YF) : yfo f = (yq1 f.2.2 ++ yq1 f.2.1).reverse := by
  unfold yfo
  rw [List.reverse_append, yq1_rev, yq1_rev]
theorem yneg_app (a b : List Int32) : yneg (a ++ b) = yneg a ++ yneg b := by unfold yneg; rw [List.map_append]
theorem yng_f {f : YF} (h : yfw f) : yneg (yq1 f.2.2 ++ yq1 f.2.1) = yen_c (yo f.2.2 ++ yo f.2.1) := by
  rw [yneg_app, yen_app, yneg_yo, yneg_yo]
  · rcases h.2.1 with g | g | g <;> rw [g] <;> decide
  · rcases h.2.2 with g | g | g <;> rw [g] <;> decide
theorem yel_f {f : YF} (h : yfw f) {x : Int32} (hx : x ∈ yq1 f.2.2 ++ yq1 f.2.1) : x = 42 ∨ x = 47 ∨ x = 43 ∨ x = 45 := by
  have nz : ∀ {y z : Int32}, y ∈ yq1 z → z ≠ 0 := fun h e => by
    unfold yq1 at h
    rw [if_pos e] at h
    cases h
  rcases List.mem_append.mp hx with g | g
  · have e := yq1_m g
    rcases h.2.2 with w | w | w
    · exact absurd w (nz g)
    · exact Or.inl (e.trans w)
    · exact Or.inr (Or.inl (e.trans w))
  · have e := yq1_m g
    rcases h.2.1 with w | w | w
    · exact absurd w (nz g)
    · exact Or.inr (Or.inr (Or.inl (e.trans w)))
    · exact Or.inr (Or.inr (Or.inr (e.trans w)))
theorem yel_b {x bd : Int32} (h : x = 42 ∨ x = 47 ∨ x = 43 ∨ x = 45) (hb : bd ≤ 5) : ¬ ybn x < bd := fun z => by
  have e : (5 : Int32) ≤ ybn x := by rcases h with g | g | g | g <;> rw [g] <;> decide
  have := Int32.lt_of_lt_of_le z hb
  exact Int32.lt_irrefl (Int32.lt_of_lt_of_le this e)
