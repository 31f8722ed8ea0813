/-! least freights, as numbers -/
def fwS (v : Nat) (m : Nat → Nat → Nat) : Nat → Nat → Nat := fun a b => min (m a b) (m a v + m v b)
def fwN : Nat → (Nat → Nat → Nat) → Nat → Nat → Nat
  | 0, m => m
  | v + 1, m => fwS v (fwN v m)
def fwB : Nat → Nat
  | 0 => 10000
  | 1 => 20000
  | 2 => 30000
  | 3 => 60000
  | 4 => 120000
  | 5 => 240000
  | 6 => 480000
  | _ => 960000
theorem fwS_gen {v B : Nat} {m : Nat → Nat → Nat} (hv : v < 7) (h : ∀ a b, a < 7 → b < 7 → m a b ≤ B ∨ m a b = 1000000) : ∀ a b, a < 7 → b < 7 → fwS v m a b ≤ 2 * B ∨ fwS v m a b = 1000000 := by
  intro a b ha hb
  have h1 := h a b ha hb
  have h2 := h a v ha hv
  have h3 := h v b hv hb
  unfold fwS
  generalize m a b = x at *
  generalize m a v = y at *
  generalize m v b = z at *
  omega
theorem fwN_two {m : Nat → Nat → Nat} (h : ∀ a b, a < 7 → b < 7 → m a b ≤ 10000 ∨ m a b = 1000000) : ∀ a b, a < 7 → b < 7 → fwN 2 m a b ≤ 30000 ∨ fwN 2 m a b = 1000000 := by
  intro a b ha hb
  have h1 := h a b ha hb
  have h2 := h a 0 ha (by omega)
  have h3 := h 0 b (by omega) hb
  have h4 := h a 1 ha (by omega)
  have h5 := h 1 b (by omega) hb
  have h6 := h 0 1 (by omega) (by omega)
  have h7 := h 1 0 (by omega) (by omega)
  show min (min (m a b) (m a 0 + m 0 b)) (min (m a 1) (m a 0 + m 0 1) + min (m 1 b) (m 1 0 + m 0 b)) ≤ 30000 ∨ min (min (m a b) (m a 0 + m 0 b)) (min (m a 1) (m a 0 + m 0 1) + min (m 1 b) (m 1 0 + m 0 b)) = 1000000
  generalize m a b = x1 at *
  generalize m a 0 = x2 at *
  generalize m 0 b = x3 at *
  generalize m a 1 = x4 at *
  generalize m 1 b = x5 at *
  generalize m 0 1 = x6 at *
  generalize m 1 0 = x7 at *
  omega
theorem fwN_bd {m : Nat → Nat → Nat} (h : ∀ a b, a < 7 → b < 7 → m a b ≤ 10000 ∨ m a b = 1000000) : ∀ v, v ≤ 7 → ∀ a b, a < 7 → b < 7 → fwN v m a b ≤ fwB v ∨ fwN v m a b = 1000000 := by
  have g0 : ∀ a b, a < 7 → b < 7 → fwN 0 m a b ≤ fwB 0 ∨ fwN 0 m a b = 1000000 := h
  have g1 : ∀ a b, a < 7 → b < 7 → fwN 1 m a b ≤ fwB 1 ∨ fwN 1 m a b = 1000000 := fwS_gen (v := 0) (by omega) g0
  have g2 : ∀ a b, a < 7 → b < 7 → fwN 2 m a b ≤ fwB 2 ∨ fwN 2 m a b = 1000000 := fwN_two h
  have g3 : ∀ a b, a < 7 → b < 7 → fwN 3 m a b ≤ fwB 3 ∨ fwN 3 m a b = 1000000 := fwS_gen (v := 2) (by omega) g2
  have g4 : ∀ a b, a < 7 → b < 7 → fwN 4 m a b ≤ fwB 4 ∨ fwN 4 m a b = 1000000 := fwS_gen (v := 3) (by omega) g3
  have g5 : ∀ a b, a < 7 → b < 7 → fwN 5 m a b ≤ fwB 5 ∨ fwN 5 m a b = 1000000 := fwS_gen (v := 4) (by omega) g4
  have g6 : ∀ a b, a < 7 → b < 7 → fwN 6 m a b ≤ fwB 6 ∨ fwN 6 m a b = 1000000 := fwS_gen (v := 5) (by omega) g5
  have g7 : ∀ a b, a < 7 → b < 7 → fwN 7 m a b ≤ fwB 7 ∨ fwN 7 m a b = 1000000 := fwS_gen (v := 6) (by omega) g6
  intro v hv
  match v, hv with
  | 0, _ => exact g0
  | 1, _ => exact g1
  | 2, _ => exact g2
  | 3, _ => exact g3
  | 4, _ => exact g4
  | 5, _ => exact g5
  | 6, _ => exact g6
  | 7, _ => exact g7
  | n + 8, hv => exact absurd hv (by omega)
theorem fwB_le (v : Nat) : fwB v ≤ 960000 := by
  unfold fwB
  split <;> omega
theorem fwN_le {m : Nat → Nat → Nat} (h : ∀ a b, a < 7 → b < 7 → m a b ≤ 10000 ∨ m a b = 1000000) {v : Nat} (hv : v ≤ 7) {a b : Nat} (ha : a < 7) (hb : b < 7) : fwN v m a b ≤ 960000 ∨ fwN v m a b = 1000000 := by
  have h1 := fwN_bd h v hv a b ha hb
  have h2 := fwB_le v
  omega
theorem fwN_diag {m : Nat → Nat → Nat} (hd : ∀ a, a < 7 → m a a = 0) : ∀ v, ∀ a, a < 7 → fwN v m a a = 0 := by
  intro v
  induction v with
  | zero => exact hd
  | succ v ih =>
    intro a ha
    have h := ih a ha
    show min (fwN v m a a) (fwN v m a v + fwN v m v a) = 0
    rw [h]
    exact Nat.zero_min _
/-- lands behind the last one are not reached -/
theorem fwN_far {m : Nat → Nat → Nat} {n : Nat} (h : ∀ a b, a < 7 → b < 7 → m a b ≤ 10000 ∨ m a b = 1000000) (hf : ∀ a b, a < 7 → b < 7 → a < n → n ≤ b → m a b = 1000000 ∧ m b a = 1000000) : ∀ v, v ≤ 7 → ∀ a b, a < 7 → b < 7 → a < n → n ≤ b → fwN v m a b = 1000000 ∧ fwN v m b a = 1000000 := by
  intro v
  induction v with
  | zero => intro _; exact hf
  | succ v ih =>
    intro hv a b ha hb han hbn
    have i1 := ih (by omega) a b ha hb han hbn
    have l1 := fwN_le h (v := v) (by omega) ha (show v < 7 by omega)
    have l2 := fwN_le h (v := v) (by omega) (show v < 7 by omega) ha
    have l3 := fwN_le h (v := v) (by omega) hb (show v < 7 by omega)
    have l4 := fwN_le h (v := v) (by omega) (show v < 7 by omega) hb
    show min (fwN v m a b) (fwN v m a v + fwN v m v b) = 1000000 ∧ min (fwN v m b a) (fwN v m b v + fwN v m v a) = 1000000
    by_cases hc : v < n
    · have i2 := ih (by omega) v b (by omega) hb hc hbn
      omega
    · have i2 := ih (by omega) a v ha (by omega) han (by omega)
      omega
/-- among the lands that there are, those behind them change nothing -/
theorem fwN_stop {m : Nat → Nat → Nat} {n : Nat} (h : ∀ a b, a < 7 → b < 7 → m a b ≤ 10000 ∨ m a b = 1000000) (hf : ∀ a b, a < 7 → b < 7 → a < n → n ≤ b → m a b = 1000000 ∧ m b a = 1000000) : ∀ k, n + k ≤ 7 → ∀ a b, a < n → b < n → fwN (n + k) m a b = fwN n m a b := by
  intro k
  induction k with
  | zero => intro _ a b _ _; rfl
  | succ k ih =>
    intro hk a b ha hb
    have i1 := ih (by omega) a b ha hb
    have f1 := fwN_far h hf (n + k) (by omega) a (n + k) (by omega) (by omega) ha (by omega)
    have l1 := fwN_le h (v := n + k) (by omega) (show a < 7 by omega) (show b < 7 by omega)
    show min (fwN (n + k) m a b) (fwN (n + k) m a (n + k) + fwN (n + k) m (n + k) b) = _
    omega
