/-! ways: the search's bounds -/
def wzp (L fr to : Nat) (rd : Nat → Nat → Nat) (n : Nat) (w : Nat → Nat) : Prop := w 0 = fr ∧ (∀ k, k < n → w k < L ∧ w k ≠ to) ∧ (∀ k, k + 1 < n → 0 < rd (w k) (w (k + 1))) ∧ ∀ i k, i < k → k < n → w i ≠ w k
def wzx (w : Nat → Nat) (n x : Nat) : Nat → Nat := fun k => if k = n then x else w k
theorem wzx_e {w : Nat → Nat} {n x : Nat} : wzx w n x n = x := if_pos rfl
theorem wzx_l {w : Nat → Nat} {n x k : Nat} (h : k < n) : wzx w n x k = w k := if_neg (by omega)
section
variable {L fr to : Nat} {rd : Nat → Nat → Nat} {F : Nat → Nat → Int64} {du : Nat → Int64} {th : Nat → Nat → Int64} {R : Option (Nat × (Nat → Nat))} {w : Nat → Nat} {x : Nat}
theorem wzp_x {n : Nat} (hn : 1 ≤ n) (h : wzp L fr to rd n w) (hx : x < L) (hr : 0 < rd (w (n - 1)) x) (ho : ∀ k, k < n → w k ≠ x) (ht : x ≠ to) : wzp L fr to rd (n + 1) (wzx w n x) := by
  obtain ⟨h1, h2, h3, h4⟩ := h
  refine ⟨by rw [wzx_l (by omega)]; exact h1, fun k hk => ?_, fun k hk => ?_, fun i k hi hk => ?_⟩
  · by_cases c : k = n
    · subst c; rw [wzx_e]; exact ⟨hx, ht⟩
    · rw [wzx_l (by omega)]; exact h2 k (by omega)
  · by_cases c : k + 1 = n
    · rw [wzx_l (show k < n by omega), c, wzx_e, show k = n - 1 by omega]; exact hr
    · rw [wzx_l (show k < n by omega), wzx_l (show k + 1 < n by omega)]; exact h3 k (by omega)
  · by_cases c : k = n
    · subst c; rw [wzx_e, wzx_l hi]; exact ho i hi
    · rw [wzx_l (show k < n by omega), wzx_l (show i < n by omega)]; exact h4 i k hi (by omega)
theorem wzV_x {n : Nat} (hn : 1 ≤ n) (hn4 : n ≤ 4) (h : wzp L fr to rd n w) (hx : x < L) (hr : 0 < rd (w (n - 1)) x) (ho : ∀ k, k < n → w k ≠ x) (ht : x = to) : wzV L fr to rd (n + 1) (wzx w n x) := by
  obtain ⟨h1, h2, h3, h4⟩ := h
  refine ⟨by omega, by omega, by rw [wzx_l (by omega)]; exact h1, by rw [show n + 1 - 1 = n by omega, wzx_e]; exact ht, fun k hk => ?_, fun k hk => ?_, fun i k hi hk => ?_⟩
  · by_cases c : k = n
    · subst c; rw [wzx_e]; exact hx
    · rw [wzx_l (by omega)]; exact (h2 k (by omega)).1
  · by_cases c : k + 1 = n
    · rw [wzx_l (show k < n by omega), c, wzx_e, show k = n - 1 by omega]; exact hr
    · rw [wzx_l (show k < n by omega), wzx_l (show k + 1 < n by omega)]; exact h3 k (by omega)
  · by_cases c : k = n
    · subst c; rw [wzx_e, wzx_l hi]; exact ho i hi
    · rw [wzx_l (show k < n by omega), wzx_l (show i < n by omega)]; exact h4 i k hi (by omega)
theorem wzs_1 (hL : L ≤ 7) (h : wzp L fr to rd 1 w) (hx : x < L) (hB : wzB L fr to rd F du th (fun n v => wzC n v < wzb1 w x) R) (q : ¬ 0 < rd (w 0) x ∨ ∃ k, k < 1 ∧ w k = x) : wzB L fr to rd F du th (fun n v => wzC n v < wzb1 w (x + 1)) R := by
  refine wzB_ext hB (fun n v hv => ⟨fun z => Nat.lt_of_lt_of_le z (by unfold wzb1; omega), fun z => ?_⟩)
  by_cases c : wzC n v < wzb1 w x
  · exact c
  · exfalso
    obtain ⟨d1, d2, d3⟩ := wzd_1 (fun k hk => Nat.lt_of_lt_of_le (h.2.1 k hk).1 hL) (by omega) (wzV_7 hL hv) (Nat.le_of_not_lt c) z
    rcases q with q | ⟨k, hk, q⟩
    · have := hv.2.2.2.2.2.1 0 (by omega)
      rw [d2 0 (by omega), d3] at this
      exact q this
    · exact hv.2.2.2.2.2.2 k 1 hk d1 (by rw [d2 k hk, d3, q])
theorem wzn_1 (hL : L ≤ 7) (h : wzp L fr to rd 1 w) (hx : x < L) (hr : 0 < rd (w 0) x) (ho : ∀ k, k < 1 → w k ≠ x) (ht : x = to) (hB : wzB L fr to rd F du th (fun n v => wzC n v < wzb1 w x) R) (q : R = none ∨ ∃ r, R = some r ∧ ((wzP F du th 2 (wzx w 1 x)).toInt < (wzP F du th r.1 r.2).toInt ∨ ((wzP F du th 2 (wzx w 1 x)).toInt = (wzP F du th r.1 r.2).toInt ∧ wzD rd 2 (wzx w 1 x) < wzD rd r.1 r.2))) : wzB L fr to rd F du th (fun n v => wzC n v < wzb1 w (x + 1)) (some (2, wzx w 1 x)) := by
  have hc : wzC 2 (wzx w 1 x) = wzb1 w x := by unfold wzC wzb1; simp [wzG, wzx]
  refine wzB_new hB (wzV_x (by omega) (by omega) h hx hr ho ht) (by rw [hc]; unfold wzb1; omega) (fun n v hv z => ?_) (fun r e => ?_)
  · by_cases c : wzC n v < wzb1 w x
    · exact Or.inl c
    · obtain ⟨d1, d2, d3⟩ := wzd_1 (fun k hk => Nat.lt_of_lt_of_le (h.2.1 k hk).1 hL) (by omega) (wzV_7 hL hv) (Nat.le_of_not_lt c) z
      have e : n = 2 := by
        by_cases e : n = 2
        · exact e
        · exfalso
          exact hv.2.2.2.2.2.2 1 (n - 1) (by omega) (by omega) (by rw [hv.2.2.2.1, d3, ht])
      refine Or.inr ⟨e, fun k hk => ?_⟩
      by_cases c2 : k = 1
      · subst c2; rw [wzx_e]; exact d3
      · rw [wzx_l (by omega)]; exact d2 k (by omega)
  · rcases q with q | ⟨r2, e2, q⟩
    · rw [q] at e; cases e
    · rw [e2] at e; cases e
      unfold wzL
      omega
theorem wzo_1 (hL : L ≤ 7) (h : wzp L fr to rd 1 w) (hx : x < L) (ht : x = to) {r : Nat × (Nat → Nat)} (hB : wzB L fr to rd F du th (fun n v => wzC n v < wzb1 w x) (some r)) (q : ¬ ((wzP F du th 2 (wzx w 1 x)).toInt < (wzP F du th r.1 r.2).toInt ∨ ((wzP F du th 2 (wzx w 1 x)).toInt = (wzP F du th r.1 r.2).toInt ∧ wzD rd 2 (wzx w 1 x) < wzD rd r.1 r.2))) : wzB L fr to rd F du th (fun n v => wzC n v < wzb1 w (x + 1)) (some r) := by
  have hc : wzC 2 (wzx w 1 x) = wzb1 w x := by unfold wzC wzb1; simp [wzG, wzx]
  have hr : wzC r.1 r.2 < wzb1 w x := hB.2.1
  refine wzB_old (n := 2) (w := wzx w 1 x) hB (Nat.lt_of_lt_of_le hr (by unfold wzb1; omega)) (fun n v hv z => ?_) ?_
  · by_cases c : wzC n v < wzb1 w x
    · exact Or.inl c
    · obtain ⟨d1, d2, d3⟩ := wzd_1 (fun k hk => Nat.lt_of_lt_of_le (h.2.1 k hk).1 hL) (by omega) (wzV_7 hL hv) (Nat.le_of_not_lt c) z
      have e : n = 2 := by
        by_cases e : n = 2
        · exact e
        · exfalso
          exact hv.2.2.2.2.2.2 1 (n - 1) (by omega) (by omega) (by rw [hv.2.2.2.1, d3, ht])
      refine Or.inr ⟨e, fun k hk => ?_⟩
      by_cases c2 : k = 1
      · subst c2; rw [wzx_e]; exact d3
      · rw [wzx_l (by omega)]; exact d2 k (by omega)
  · unfold wzL
    rw [hc]
    omega
theorem wzi_1 (hL : L ≤ 7) (h : wzp L fr to rd 1 w) (hx : x < L) (ht : x ≠ to) (hB : wzB L fr to rd F du th (fun n v => wzC n v < wzb1 w x) R) : wzB L fr to rd F du th (fun n v => wzC n v < wzb2 (wzx w 1 x) 0) R := by
  have hc : wzb2 (wzx w 1 x) 0 = wzb1 w x + 64 := rfl
  refine wzB_ext hB (fun n v hv => ⟨fun z => by rw [hc]; exact Nat.lt_of_lt_of_le z (by omega), fun z => ?_⟩)
  by_cases c : wzC n v < wzb1 w x
  · exact c
  · exfalso
    rw [hc] at z
    have z2 : wzC n v < wzb1 w (x + 1) := Nat.lt_of_lt_of_le z (by unfold wzb1; omega)
    obtain ⟨d1, d2, d3⟩ := wzd_1 (fun k hk => Nat.lt_of_lt_of_le (h.2.1 k hk).1 hL) (by omega) (wzV_7 hL hv) (Nat.le_of_not_lt c) z2
    have n2 : 2 < n := by
      by_cases e : 2 < n
      · exact e
      · exfalso
        have := hv.2.2.2.1
        rw [show n - 1 = 1 by omega, d3] at this
        exact ht this
    have : wzC n v ≥ wzb1 w x + 64 := by
      unfold wzC wzb1
      rw [wzG_pos (k := 0) (n := n) (w := v) (by omega), wzG_pos (k := 1) (n := n) (w := v) (by omega), wzG_pos (k := 2) (n := n) (w := v) (by omega)]
      rw [d2 0 (by omega), d3]
      omega
    omega
theorem wzr_1 (hL : L ≤ 7) (h : wzp L fr to rd 1 w) (hx : x < L) (hB : wzB L fr to rd F du th (fun n v => wzC n v < wzb2 (wzx w 1 x) L) R) : wzB L fr to rd F du th (fun n v => wzC n v < wzb1 w (x + 1)) R := by
  have hc : wzb2 (wzx w 1 x) L = wzb1 w x + 64 * (L + 1) := rfl
  refine wzB_ext hB (fun n v hv => ⟨fun z => ?_, fun z => ?_⟩)
  · rw [hc] at z
    exact Nat.lt_of_lt_of_le z (by unfold wzb1; omega)
  · rw [hc]
    by_cases c : wzC n v < wzb1 w x
    · omega
    · obtain ⟨d1, d2, d3⟩ := wzd_1 (fun k hk => Nat.lt_of_lt_of_le (h.2.1 k hk).1 hL) (by omega) (wzV_7 hL hv) (Nat.le_of_not_lt c) z
      have g : wzG n v 2 ≤ L := by
        unfold wzG
        by_cases e : 2 < n
        · rw [if_pos e]; have := hv.2.2.2.2.1 2 e; omega
        · rw [if_neg e]; omega
      have a := wzG_lt (wzV_7 hL hv)
      have a2 := a 2
      have a3 := a 3
      have a4 := a 4
      unfold wzC wzb1
      rw [wzG_pos (k := 0) (n := n) (w := v) (by omega), wzG_pos (k := 1) (n := n) (w := v) (by omega)]
      rw [d2 0 (by omega), d3]
      omega
theorem wzs_2 (hL : L ≤ 7) (h : wzp L fr to rd 2 w) (hx : x < L) (hB : wzB L fr to rd F du th (fun n v => wzC n v < wzb2 w x) R) (q : ¬ 0 < rd (w 1) x ∨ ∃ k, k < 2 ∧ w k = x) : wzB L fr to rd F du th (fun n v => wzC n v < wzb2 w (x + 1)) R := by
  refine wzB_ext hB (fun n v hv => ⟨fun z => Nat.lt_of_lt_of_le z (by unfold wzb2; omega), fun z => ?_⟩)
  by_cases c : wzC n v < wzb2 w x
  · exact c
  · exfalso
    obtain ⟨d1, d2, d3⟩ := wzd_2 (fun k hk => Nat.lt_of_lt_of_le (h.2.1 k hk).1 hL) (by omega) (wzV_7 hL hv) (Nat.le_of_not_lt c) z
    rcases q with q | ⟨k, hk, q⟩
    · have := hv.2.2.2.2.2.1 1 (by omega)
      rw [d2 1 (by omega), d3] at this
      exact q this
    · exact hv.2.2.2.2.2.2 k 2 hk d1 (by rw [d2 k hk, d3, q])
theorem wzn_2 (hL : L ≤ 7) (h : wzp L fr to rd 2 w) (hx : x < L) (hr : 0 < rd (w 1) x) (ho : ∀ k, k < 2 → w k ≠ x) (ht : x = to) (hB : wzB L fr to rd F du th (fun n v => wzC n v < wzb2 w x) R) (q : R = none ∨ ∃ r, R = some r ∧ ((wzP F du th 3 (wzx w 2 x)).toInt < (wzP F du th r.1 r.2).toInt ∨ ((wzP F du th 3 (wzx w 2 x)).toInt = (wzP F du th r.1 r.2).toInt ∧ wzD rd 3 (wzx w 2 x) < wzD rd r.1 r.2))) : wzB L fr to rd F du th (fun n v => wzC n v < wzb2 w (x + 1)) (some (3, wzx w 2 x)) := by
  have hc : wzC 3 (wzx w 2 x) = wzb2 w x := by unfold wzC wzb2; simp [wzG, wzx]
  refine wzB_new hB (wzV_x (by omega) (by omega) h hx hr ho ht) (by rw [hc]; unfold wzb2; omega) (fun n v hv z => ?_) (fun r e => ?_)
  · by_cases c : wzC n v < wzb2 w x
    · exact Or.inl c
    · obtain ⟨d1, d2, d3⟩ := wzd_2 (fun k hk => Nat.lt_of_lt_of_le (h.2.1 k hk).1 hL) (by omega) (wzV_7 hL hv) (Nat.le_of_not_lt c) z
      have e : n = 3 := by
        by_cases e : n = 3
        · exact e
        · exfalso
          exact hv.2.2.2.2.2.2 2 (n - 1) (by omega) (by omega) (by rw [hv.2.2.2.1, d3, ht])
      refine Or.inr ⟨e, fun k hk => ?_⟩
      by_cases c2 : k = 2
      · subst c2; rw [wzx_e]; exact d3
      · rw [wzx_l (by omega)]; exact d2 k (by omega)
  · rcases q with q | ⟨r2, e2, q⟩
    · rw [q] at e; cases e
    · rw [e2] at e; cases e
      unfold wzL
      omega
theorem wzo_2 (hL : L ≤ 7) (h : wzp L fr to rd 2 w) (hx : x < L) (ht : x = to) {r : Nat × (Nat → Nat)} (hB : wzB L fr to rd F du th (fun n v => wzC n v < wzb2 w x) (some r)) (q : ¬ ((wzP F du th 3 (wzx w 2 x)).toInt < (wzP F du th r.1 r.2).toInt ∨ ((wzP F du th 3 (wzx w 2 x)).toInt = (wzP F du th r.1 r.2).toInt ∧ wzD rd 3 (wzx w 2 x) < wzD rd r.1 r.2))) : wzB L fr to rd F du th (fun n v => wzC n v < wzb2 w (x + 1)) (some r) := by
  have hc : wzC 3 (wzx w 2 x) = wzb2 w x := by unfold wzC wzb2; simp [wzG, wzx]
  have hr : wzC r.1 r.2 < wzb2 w x := hB.2.1
  refine wzB_old (n := 3) (w := wzx w 2 x) hB (Nat.lt_of_lt_of_le hr (by unfold wzb2; omega)) (fun n v hv z => ?_) ?_
  · by_cases c : wzC n v < wzb2 w x
    · exact Or.inl c
    · obtain ⟨d1, d2, d3⟩ := wzd_2 (fun k hk => Nat.lt_of_lt_of_le (h.2.1 k hk).1 hL) (by omega) (wzV_7 hL hv) (Nat.le_of_not_lt c) z
      have e : n = 3 := by
        by_cases e : n = 3
        · exact e
        · exfalso
          exact hv.2.2.2.2.2.2 2 (n - 1) (by omega) (by omega) (by rw [hv.2.2.2.1, d3, ht])
      refine Or.inr ⟨e, fun k hk => ?_⟩
      by_cases c2 : k = 2
      · subst c2; rw [wzx_e]; exact d3
      · rw [wzx_l (by omega)]; exact d2 k (by omega)
  · unfold wzL
    rw [hc]
    omega
theorem wzi_2 (hL : L ≤ 7) (h : wzp L fr to rd 2 w) (hx : x < L) (ht : x ≠ to) (hB : wzB L fr to rd F du th (fun n v => wzC n v < wzb2 w x) R) : wzB L fr to rd F du th (fun n v => wzC n v < wzb3 (wzx w 2 x) 0) R := by
  have hc : wzb3 (wzx w 2 x) 0 = wzb2 w x + 8 := rfl
  refine wzB_ext hB (fun n v hv => ⟨fun z => by rw [hc]; exact Nat.lt_of_lt_of_le z (by omega), fun z => ?_⟩)
  by_cases c : wzC n v < wzb2 w x
  · exact c
  · exfalso
    rw [hc] at z
    have z2 : wzC n v < wzb2 w (x + 1) := Nat.lt_of_lt_of_le z (by unfold wzb2; omega)
    obtain ⟨d1, d2, d3⟩ := wzd_2 (fun k hk => Nat.lt_of_lt_of_le (h.2.1 k hk).1 hL) (by omega) (wzV_7 hL hv) (Nat.le_of_not_lt c) z2
    have n2 : 3 < n := by
      by_cases e : 3 < n
      · exact e
      · exfalso
        have := hv.2.2.2.1
        rw [show n - 1 = 2 by omega, d3] at this
        exact ht this
    have : wzC n v ≥ wzb2 w x + 8 := by
      unfold wzC wzb2
      rw [wzG_pos (k := 0) (n := n) (w := v) (by omega), wzG_pos (k := 1) (n := n) (w := v) (by omega), wzG_pos (k := 2) (n := n) (w := v) (by omega), wzG_pos (k := 3) (n := n) (w := v) (by omega)]
      rw [d2 0 (by omega), d2 1 (by omega), d3]
      omega
    omega
theorem wzr_2 (hL : L ≤ 7) (h : wzp L fr to rd 2 w) (hx : x < L) (hB : wzB L fr to rd F du th (fun n v => wzC n v < wzb3 (wzx w 2 x) L) R) : wzB L fr to rd F du th (fun n v => wzC n v < wzb2 w (x + 1)) R := by
  have hc : wzb3 (wzx w 2 x) L = wzb2 w x + 8 * (L + 1) := rfl
  refine wzB_ext hB (fun n v hv => ⟨fun z => ?_, fun z => ?_⟩)
  · rw [hc] at z
    exact Nat.lt_of_lt_of_le z (by unfold wzb2; omega)
  · rw [hc]
    by_cases c : wzC n v < wzb2 w x
    · omega
    · obtain ⟨d1, d2, d3⟩ := wzd_2 (fun k hk => Nat.lt_of_lt_of_le (h.2.1 k hk).1 hL) (by omega) (wzV_7 hL hv) (Nat.le_of_not_lt c) z
      have g : wzG n v 3 ≤ L := by
        unfold wzG
        by_cases e : 3 < n
        · rw [if_pos e]; have := hv.2.2.2.2.1 3 e; omega
        · rw [if_neg e]; omega
      have a := wzG_lt (wzV_7 hL hv)
      have a2 := a 2
      have a3 := a 3
      have a4 := a 4
      unfold wzC wzb2
      rw [wzG_pos (k := 0) (n := n) (w := v) (by omega), wzG_pos (k := 1) (n := n) (w := v) (by omega), wzG_pos (k := 2) (n := n) (w := v) (by omega)]
      rw [d2 0 (by omega), d2 1 (by omega), d3]
      omega
theorem wzs_3 (hL : L ≤ 7) (h : wzp L fr to rd 3 w) (hx : x < L) (hB : wzB L fr to rd F du th (fun n v => wzC n v < wzb3 w x) R) (q : ¬ 0 < rd (w 2) x ∨ ∃ k, k < 3 ∧ w k = x) : wzB L fr to rd F du th (fun n v => wzC n v < wzb3 w (x + 1)) R := by
  refine wzB_ext hB (fun n v hv => ⟨fun z => Nat.lt_of_lt_of_le z (by unfold wzb3; omega), fun z => ?_⟩)
  by_cases c : wzC n v < wzb3 w x
  · exact c
  · exfalso
    obtain ⟨d1, d2, d3⟩ := wzd_3 (fun k hk => Nat.lt_of_lt_of_le (h.2.1 k hk).1 hL) (by omega) (wzV_7 hL hv) (Nat.le_of_not_lt c) z
    rcases q with q | ⟨k, hk, q⟩
    · have := hv.2.2.2.2.2.1 2 (by omega)
      rw [d2 2 (by omega), d3] at this
      exact q this
    · exact hv.2.2.2.2.2.2 k 3 hk d1 (by rw [d2 k hk, d3, q])
theorem wzn_3 (hL : L ≤ 7) (h : wzp L fr to rd 3 w) (hx : x < L) (hr : 0 < rd (w 2) x) (ho : ∀ k, k < 3 → w k ≠ x) (ht : x = to) (hB : wzB L fr to rd F du th (fun n v => wzC n v < wzb3 w x) R) (q : R = none ∨ ∃ r, R = some r ∧ ((wzP F du th 4 (wzx w 3 x)).toInt < (wzP F du th r.1 r.2).toInt ∨ ((wzP F du th 4 (wzx w 3 x)).toInt = (wzP F du th r.1 r.2).toInt ∧ wzD rd 4 (wzx w 3 x) < wzD rd r.1 r.2))) : wzB L fr to rd F du th (fun n v => wzC n v < wzb3 w (x + 1)) (some (4, wzx w 3 x)) := by
  have hc : wzC 4 (wzx w 3 x) = wzb3 w x := by unfold wzC wzb3; simp [wzG, wzx]
  refine wzB_new hB (wzV_x (by omega) (by omega) h hx hr ho ht) (by rw [hc]; unfold wzb3; omega) (fun n v hv z => ?_) (fun r e => ?_)
  · by_cases c : wzC n v < wzb3 w x
    · exact Or.inl c
    · obtain ⟨d1, d2, d3⟩ := wzd_3 (fun k hk => Nat.lt_of_lt_of_le (h.2.1 k hk).1 hL) (by omega) (wzV_7 hL hv) (Nat.le_of_not_lt c) z
      have e : n = 4 := by
        by_cases e : n = 4
        · exact e
        · exfalso
          exact hv.2.2.2.2.2.2 3 (n - 1) (by omega) (by omega) (by rw [hv.2.2.2.1, d3, ht])
      refine Or.inr ⟨e, fun k hk => ?_⟩
      by_cases c2 : k = 3
      · subst c2; rw [wzx_e]; exact d3
      · rw [wzx_l (by omega)]; exact d2 k (by omega)
  · rcases q with q | ⟨r2, e2, q⟩
    · rw [q] at e; cases e
    · rw [e2] at e; cases e
      unfold wzL
      omega
theorem wzo_3 (hL : L ≤ 7) (h : wzp L fr to rd 3 w) (hx : x < L) (ht : x = to) {r : Nat × (Nat → Nat)} (hB : wzB L fr to rd F du th (fun n v => wzC n v < wzb3 w x) (some r)) (q : ¬ ((wzP F du th 4 (wzx w 3 x)).toInt < (wzP F du th r.1 r.2).toInt ∨ ((wzP F du th 4 (wzx w 3 x)).toInt = (wzP F du th r.1 r.2).toInt ∧ wzD rd 4 (wzx w 3 x) < wzD rd r.1 r.2))) : wzB L fr to rd F du th (fun n v => wzC n v < wzb3 w (x + 1)) (some r) := by
  have hc : wzC 4 (wzx w 3 x) = wzb3 w x := by unfold wzC wzb3; simp [wzG, wzx]
  have hr : wzC r.1 r.2 < wzb3 w x := hB.2.1
  refine wzB_old (n := 4) (w := wzx w 3 x) hB (Nat.lt_of_lt_of_le hr (by unfold wzb3; omega)) (fun n v hv z => ?_) ?_
  · by_cases c : wzC n v < wzb3 w x
    · exact Or.inl c
    · obtain ⟨d1, d2, d3⟩ := wzd_3 (fun k hk => Nat.lt_of_lt_of_le (h.2.1 k hk).1 hL) (by omega) (wzV_7 hL hv) (Nat.le_of_not_lt c) z
      have e : n = 4 := by
        by_cases e : n = 4
        · exact e
        · exfalso
          exact hv.2.2.2.2.2.2 3 (n - 1) (by omega) (by omega) (by rw [hv.2.2.2.1, d3, ht])
      refine Or.inr ⟨e, fun k hk => ?_⟩
      by_cases c2 : k = 3
      · subst c2; rw [wzx_e]; exact d3
      · rw [wzx_l (by omega)]; exact d2 k (by omega)
  · unfold wzL
    rw [hc]
    omega
theorem wzi_3 (hL : L ≤ 7) (h : wzp L fr to rd 3 w) (hx : x < L) (ht : x ≠ to) (hB : wzB L fr to rd F du th (fun n v => wzC n v < wzb3 w x) R) : wzB L fr to rd F du th (fun n v => wzC n v < wzb4 (wzx w 3 x) 0) R := by
  have hc : wzb4 (wzx w 3 x) 0 = wzb3 w x + 1 := rfl
  refine wzB_ext hB (fun n v hv => ⟨fun z => by rw [hc]; exact Nat.lt_of_lt_of_le z (by omega), fun z => ?_⟩)
  by_cases c : wzC n v < wzb3 w x
  · exact c
  · exfalso
    rw [hc] at z
    have z2 : wzC n v < wzb3 w (x + 1) := Nat.lt_of_lt_of_le z (by unfold wzb3; omega)
    obtain ⟨d1, d2, d3⟩ := wzd_3 (fun k hk => Nat.lt_of_lt_of_le (h.2.1 k hk).1 hL) (by omega) (wzV_7 hL hv) (Nat.le_of_not_lt c) z2
    have n2 : 4 < n := by
      by_cases e : 4 < n
      · exact e
      · exfalso
        have := hv.2.2.2.1
        rw [show n - 1 = 3 by omega, d3] at this
        exact ht this
    have : wzC n v ≥ wzb3 w x + 1 := by
      unfold wzC wzb3
      rw [wzG_pos (k := 0) (n := n) (w := v) (by omega), wzG_pos (k := 1) (n := n) (w := v) (by omega), wzG_pos (k := 2) (n := n) (w := v) (by omega), wzG_pos (k := 3) (n := n) (w := v) (by omega), wzG_pos (k := 4) (n := n) (w := v) (by omega)]
      rw [d2 0 (by omega), d2 1 (by omega), d2 2 (by omega), d3]
      omega
    omega
theorem wzr_3 (hL : L ≤ 7) (h : wzp L fr to rd 3 w) (hx : x < L) (hB : wzB L fr to rd F du th (fun n v => wzC n v < wzb4 (wzx w 3 x) L) R) : wzB L fr to rd F du th (fun n v => wzC n v < wzb3 w (x + 1)) R := by
  have hc : wzb4 (wzx w 3 x) L = wzb3 w x + 1 * (L + 1) := rfl
  refine wzB_ext hB (fun n v hv => ⟨fun z => ?_, fun z => ?_⟩)
  · rw [hc] at z
    exact Nat.lt_of_lt_of_le z (by unfold wzb3; omega)
  · rw [hc]
    by_cases c : wzC n v < wzb3 w x
    · omega
    · obtain ⟨d1, d2, d3⟩ := wzd_3 (fun k hk => Nat.lt_of_lt_of_le (h.2.1 k hk).1 hL) (by omega) (wzV_7 hL hv) (Nat.le_of_not_lt c) z
      have g : wzG n v 4 ≤ L := by
        unfold wzG
        by_cases e : 4 < n
        · rw [if_pos e]; have := hv.2.2.2.2.1 4 e; omega
        · rw [if_neg e]; omega
      have a := wzG_lt (wzV_7 hL hv)
      have a2 := a 2
      have a3 := a 3
      have a4 := a 4
      unfold wzC wzb3
      rw [wzG_pos (k := 0) (n := n) (w := v) (by omega), wzG_pos (k := 1) (n := n) (w := v) (by omega), wzG_pos (k := 2) (n := n) (w := v) (by omega), wzG_pos (k := 3) (n := n) (w := v) (by omega)]
      rw [d2 0 (by omega), d2 1 (by omega), d2 2 (by omega), d3]
      omega
theorem wzs_4 (hL : L ≤ 7) (h : wzp L fr to rd 4 w) (hx : x < L) (hB : wzB L fr to rd F du th (fun n v => wzC n v < wzb4 w x) R) (q : ¬ 0 < rd (w 3) x ∨ ∃ k, k < 4 ∧ w k = x) : wzB L fr to rd F du th (fun n v => wzC n v < wzb4 w (x + 1)) R := by
  refine wzB_ext hB (fun n v hv => ⟨fun z => Nat.lt_of_lt_of_le z (by unfold wzb4; omega), fun z => ?_⟩)
  by_cases c : wzC n v < wzb4 w x
  · exact c
  · exfalso
    obtain ⟨d1, d2, d3⟩ := wzd_4 (fun k hk => Nat.lt_of_lt_of_le (h.2.1 k hk).1 hL) (by omega) (wzV_7 hL hv) (Nat.le_of_not_lt c) z
    rcases q with q | ⟨k, hk, q⟩
    · have := hv.2.2.2.2.2.1 3 (by omega)
      rw [d2 3 (by omega), d3] at this
      exact q this
    · exact hv.2.2.2.2.2.2 k 4 hk d1 (by rw [d2 k hk, d3, q])
theorem wzn_4 (hL : L ≤ 7) (h : wzp L fr to rd 4 w) (hx : x < L) (hr : 0 < rd (w 3) x) (ho : ∀ k, k < 4 → w k ≠ x) (ht : x = to) (hB : wzB L fr to rd F du th (fun n v => wzC n v < wzb4 w x) R) (q : R = none ∨ ∃ r, R = some r ∧ ((wzP F du th 5 (wzx w 4 x)).toInt < (wzP F du th r.1 r.2).toInt ∨ ((wzP F du th 5 (wzx w 4 x)).toInt = (wzP F du th r.1 r.2).toInt ∧ wzD rd 5 (wzx w 4 x) < wzD rd r.1 r.2))) : wzB L fr to rd F du th (fun n v => wzC n v < wzb4 w (x + 1)) (some (5, wzx w 4 x)) := by
  have hc : wzC 5 (wzx w 4 x) = wzb4 w x := by unfold wzC wzb4; simp [wzG, wzx]
  refine wzB_new hB (wzV_x (by omega) (by omega) h hx hr ho ht) (by rw [hc]; unfold wzb4; omega) (fun n v hv z => ?_) (fun r e => ?_)
  · by_cases c : wzC n v < wzb4 w x
    · exact Or.inl c
    · obtain ⟨d1, d2, d3⟩ := wzd_4 (fun k hk => Nat.lt_of_lt_of_le (h.2.1 k hk).1 hL) (by omega) (wzV_7 hL hv) (Nat.le_of_not_lt c) z
      have e : n = 5 := by
        by_cases e : n = 5
        · exact e
        · exfalso
          exact hv.2.2.2.2.2.2 4 (n - 1) (by omega) (by omega) (by rw [hv.2.2.2.1, d3, ht])
      refine Or.inr ⟨e, fun k hk => ?_⟩
      by_cases c2 : k = 4
      · subst c2; rw [wzx_e]; exact d3
      · rw [wzx_l (by omega)]; exact d2 k (by omega)
  · rcases q with q | ⟨r2, e2, q⟩
    · rw [q] at e; cases e
    · rw [e2] at e; cases e
      unfold wzL
      omega
theorem wzo_4 (hL : L ≤ 7) (h : wzp L fr to rd 4 w) (hx : x < L) (ht : x = to) {r : Nat × (Nat → Nat)} (hB : wzB L fr to rd F du th (fun n v => wzC n v < wzb4 w x) (some r)) (q : ¬ ((wzP F du th 5 (wzx w 4 x)).toInt < (wzP F du th r.1 r.2).toInt ∨ ((wzP F du th 5 (wzx w 4 x)).toInt = (wzP F du th r.1 r.2).toInt ∧ wzD rd 5 (wzx w 4 x) < wzD rd r.1 r.2))) : wzB L fr to rd F du th (fun n v => wzC n v < wzb4 w (x + 1)) (some r) := by
  have hc : wzC 5 (wzx w 4 x) = wzb4 w x := by unfold wzC wzb4; simp [wzG, wzx]
  have hr : wzC r.1 r.2 < wzb4 w x := hB.2.1
  refine wzB_old (n := 5) (w := wzx w 4 x) hB (Nat.lt_of_lt_of_le hr (by unfold wzb4; omega)) (fun n v hv z => ?_) ?_
  · by_cases c : wzC n v < wzb4 w x
    · exact Or.inl c
    · obtain ⟨d1, d2, d3⟩ := wzd_4 (fun k hk => Nat.lt_of_lt_of_le (h.2.1 k hk).1 hL) (by omega) (wzV_7 hL hv) (Nat.le_of_not_lt c) z
      have e : n = 5 := by
        by_cases e : n = 5
        · exact e
        · exfalso
          exact hv.2.2.2.2.2.2 4 (n - 1) (by omega) (by omega) (by rw [hv.2.2.2.1, d3, ht])
      refine Or.inr ⟨e, fun k hk => ?_⟩
      by_cases c2 : k = 4
      · subst c2; rw [wzx_e]; exact d3
      · rw [wzx_l (by omega)]; exact d2 k (by omega)
  · unfold wzL
    rw [hc]
    omega
theorem wzi_4 (hL : L ≤ 7) (h : wzp L fr to rd 4 w) (hx : x < L) (ht : x ≠ to) (hB : wzB L fr to rd F du th (fun n v => wzC n v < wzb4 w x) R) : wzB L fr to rd F du th (fun n v => wzC n v < wzb4 w (x + 1)) R := by
  refine wzB_ext hB (fun n v hv => ⟨fun z => Nat.lt_of_lt_of_le z (by unfold wzb4; omega), fun z => ?_⟩)
  by_cases c : wzC n v < wzb4 w x
  · exact c
  · exfalso
    obtain ⟨d1, d2, d3⟩ := wzd_4 (fun k hk => Nat.lt_of_lt_of_le (h.2.1 k hk).1 hL) (by omega) (wzV_7 hL hv) (Nat.le_of_not_lt c) z
    have := hv.2.2.2.1
    have n5 := hv.2.1
    rw [show n - 1 = 4 by omega, d3] at this
    exact ht this
theorem wz_0 (hL : L ≤ 7) (hw : w 0 = fr) : wzB L fr to rd F du th (fun n v => wzC n v < wzb1 w 0) none := by
  intro n v hv z
  have z : wzC n v < wzb1 w 0 := z
  unfold wzC wzb1 at z
  have n2 := hv.1
  rw [wzG_pos (k := 0) (n := n) (w := v) (by omega), wzG_pos (k := 1) (n := n) (w := v) (by omega), hv.2.2.1, hw] at z
  omega
theorem wz_end (hL : L ≤ 7) (hw : w 0 = fr) (h : wzB L fr to rd F du th (fun n v => wzC n v < wzb1 w L) R) : wzB L fr to rd F du th (fun _ _ => True) R := by
  refine wzB_ext h (fun n v hv => ⟨fun _ => trivial, fun _ => ?_⟩)
  have a := wzG_lt (wzV_7 hL hv)
  have a2 := a 2
  have a3 := a 3
  have a4 := a 4
  have n2 := hv.1
  have b := hv.2.2.2.2.1 1 (by omega)
  show wzC n v < wzb1 w L
  unfold wzC wzb1
  rw [wzG_pos (k := 0) (n := n) (w := v) (by omega), wzG_pos (k := 1) (n := n) (w := v) (by omega), hv.2.2.1, hw]
  omega
end
