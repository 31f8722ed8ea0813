/-! books: the least cost and the first of several, in pure numbers -/
section
variable (n0 n1 : Nat) (co : Nat → Nat → Nat)
/-- mates: 12 is none -/
def bkV (g : Nat → Nat) : Prop := (∀ i, i < n0 → g i < n1 ∨ g i = 12) ∧ ∀ i j, i < j → j < n0 → g i = g j → g i = 12
def bkc (g : Nat → Nat) (i : Nat) : Int := if g i = 12 then 25 else (co i (g i) : Int) - 25
def bkA (g : Nat → Nat) : Nat → Int
  | 0 => 0
  | i + 1 => bkA g i + bkc co g i
def bkL (g : Nat → Nat) : Nat → Int
  | 0 => 0
  | i + 1 => bkL g i + (g i : Int) * 13 ^ (11 - i)
def bkn (U : Nat → Bool) : Nat → Nat
  | 0 => 0
  | b + 1 => bkn U b + (if U b then 0 else 1)
def bki (U : Nat → Bool) (b : Nat) : Nat → Bool := fun x => U x || decide (x = b)
/-- the least of the first b columns and of none, where V tells what the rest costs -/
def bkm (V : (Nat → Bool) → Nat) (U : Nat → Bool) (i : Nat) : Nat → Nat
  | 0 => 25 + V U
  | b + 1 => if U b then bkm V U i b else min (bkm V U i b) (co i b + V (bki U b))
def bkW : Nat → Nat → (Nat → Bool) → Nat
  | 0, _, U => 25 * bkn U n1
  | k + 1, i, U => bkm co (bkW k (i + 1)) U i n1
def bkT (g : Nat → Nat) : Nat → Nat → (Nat → Bool) → Nat
  | 0, _, U => 25 * bkn U n1
  | k + 1, i, U => if g i = 12 then 25 + bkT g k (i + 1) U else co i (g i) + bkT g k (i + 1) (bki U (g i))
end
section
variable {n0 n1 : Nat} {co : Nat → Nat → Nat}
theorem bkL_bd {g : Nat → Nat} : ∀ {n : Nat}, n ≤ 12 → (∀ i, i < n → g i ≤ 12) → 0 ≤ bkL g n ∧ bkL g n + 13 ^ (12 - n) ≤ 13 ^ 12
  | 0, _, _ => ⟨Int.le_refl _, by show (0 : Int) + 13 ^ 12 ≤ 13 ^ 12; decide⟩
  | n + 1, hn, h => by
    obtain ⟨h1, h2⟩ := bkL_bd (g := g) (n := n) (by omega) (fun i hi => h i (by omega))
    have h3 := h n (by omega)
    have e : (13 : Int) ^ (12 - n) = 13 * 13 ^ (11 - n) := by
      rw [show 12 - n = (11 - n) + 1 by omega, Int.pow_succ, Int.mul_comm]
    have p : (0 : Int) < 13 ^ (11 - n) := Int.pow_pos (by decide)
    have q : (0 : Int) ≤ (g n : Int) * 13 ^ (11 - n) := Int.mul_nonneg (by omega) (Int.le_of_lt p)
    have r : (g n : Int) * 13 ^ (11 - n) ≤ 12 * 13 ^ (11 - n) := Int.mul_le_mul_of_nonneg_right (by omega) (Int.le_of_lt p)
    rw [bkL, show 12 - (n + 1) = 11 - n by omega]
    rw [e] at h2
    omega
theorem bkL_eq {g f : Nat → Nat} : ∀ {n : Nat}, (∀ i, i < n → g i = f i) → bkL g n = bkL f n
  | 0, _ => rfl
  | n + 1, h => by rw [bkL, bkL, bkL_eq (n := n) (fun i hi => h i (by omega)), h n (by omega)]
/-- the first difference decides -/
theorem bkL_lt {g f : Nat → Nat} {j : Nat} (e : ∀ i, i < j → g i = f i) (lt : g j < f j) : ∀ {m : Nat}, j + 1 + m ≤ 12 → (∀ i, i < j + 1 + m → g i ≤ 12) → bkL g (j + 1 + m) + 13 ^ (12 - (j + 1 + m)) ≤ bkL f (j + 1 + m)
  | 0, hm, h => by
    rw [Nat.add_zero, bkL, bkL, bkL_eq e, show 12 - (j + 1) = 11 - j by omega]
    have p : (0 : Int) < 13 ^ (11 - j) := Int.pow_pos (by decide)
    have : ((g j : Int) + 1) * 13 ^ (11 - j) ≤ (f j : Int) * 13 ^ (11 - j) := Int.mul_le_mul_of_nonneg_right (by omega) (Int.le_of_lt p)
    rw [Int.add_mul, Int.one_mul] at this
    omega
  | m + 1, hm, h => by
    have ih := bkL_lt e lt (m := m) (by omega) (fun i hi => h i (by omega))
    have h3 := h (j + 1 + m) (by omega)
    have e2 : (13 : Int) ^ (12 - (j + 1 + m)) = 13 * 13 ^ (11 - (j + 1 + m)) := by
      rw [show 12 - (j + 1 + m) = (11 - (j + 1 + m)) + 1 by omega, Int.pow_succ, Int.mul_comm]
    have p : (0 : Int) < 13 ^ (11 - (j + 1 + m)) := Int.pow_pos (by decide)
    have q : (0 : Int) ≤ (f (j + 1 + m) : Int) * 13 ^ (11 - (j + 1 + m)) := Int.mul_nonneg (by omega) (Int.le_of_lt p)
    have r : (g (j + 1 + m) : Int) * 13 ^ (11 - (j + 1 + m)) ≤ 12 * 13 ^ (11 - (j + 1 + m)) := Int.mul_le_mul_of_nonneg_right (by omega) (Int.le_of_lt p)
    show bkL g (j + 1 + m + 1) + 13 ^ (12 - (j + 1 + m + 1)) ≤ bkL f (j + 1 + m + 1)
    rw [bkL, bkL, show 12 - (j + 1 + m + 1) = 11 - (j + 1 + m) by omega]
    rw [e2] at ih
    omega
theorem bk_first {g f : Nat → Nat} : ∀ {n : Nat}, (∀ i, i < n → g i = f i) ∨ ∃ j, j < n ∧ (∀ i, i < j → g i = f i) ∧ g j ≠ f j
  | 0 => Or.inl (fun i hi => by omega)
  | n + 1 => by
    rcases bk_first (g := g) (f := f) (n := n) with h | ⟨j, h1, h2, h3⟩
    · by_cases c : g n = f n
      · left
        intro i hi
        by_cases d : i = n
        · subst d; exact c
        · exact h i (by omega)
      · exact Or.inr ⟨n, by omega, h, c⟩
    · exact Or.inr ⟨j, by omega, h2, h3⟩
theorem bkV_12 {g : Nat → Nat} (hn : n1 ≤ 12) (h : bkV n0 n1 g) : ∀ i, i < n0 → g i ≤ 12 := fun i hi => by
  rcases h.1 i hi with h | h <;> omega
/-- the class's least sum and the reference's least cost and first mates: the same mates -/
theorem bk_one {g f : Nat → Nat} (hn0 : n0 ≤ 12) (hn1 : n1 ≤ 12) (hg : bkV n0 n1 g) (hf : bkV n0 n1 f) (h1 : bkA co g n0 * 23298085122481 + bkL g n0 ≤ bkA co f n0 * 23298085122481 + bkL f n0) (h2 : bkA co f n0 ≤ bkA co g n0) (h3 : bkA co f n0 = bkA co g n0 → bkL f n0 ≤ bkL g n0) : ∀ i, i < n0 → g i = f i := by
  have bg := bkL_bd hn0 (bkV_12 hn1 hg)
  have bf := bkL_bd hn0 (bkV_12 hn1 hf)
  have p : (0 : Int) < 13 ^ (12 - n0) := Int.pow_pos (by decide)
  have s : (13 : Int) ^ 12 = 23298085122481 := by decide
  have e : bkA co f n0 = bkA co g n0 := by omega
  have h3 := h3 e
  rw [e] at h1
  have el : bkL g n0 = bkL f n0 := by omega
  rcases bk_first (g := g) (f := f) (n := n0) with h | ⟨j, j1, j2, j3⟩
  · exact h
  · exfalso
    by_cases c : g j < f j
    · have := bkL_lt j2 c (m := n0 - (j + 1)) (by omega) (fun i hi => bkV_12 hn1 hg i (by omega))
      rw [show j + 1 + (n0 - (j + 1)) = n0 by omega] at this
      omega
    · have := bkL_lt (fun i hi => (j2 i hi).symm) (show f j < g j by omega) (m := n0 - (j + 1)) (by omega) (fun i hi => bkV_12 hn1 hf i (by omega))
      rw [show j + 1 + (n0 - (j + 1)) = n0 by omega] at this
      omega
theorem bkn_i {U : Nat → Bool} {b : Nat} (h : U b = false) : ∀ {n : Nat}, b < n → bkn (bki U b) n + 1 = bkn U n
  | 0, hb => by omega
  | n + 1, hb => by
    rw [bkn, bkn]
    by_cases c : b = n
    · subst c
      have e : ∀ {m : Nat}, m ≤ b → bkn (bki U b) m = bkn U m := by
        intro m
        induction m with
        | zero => intro _; rfl
        | succ m ih =>
          intro hm
          rw [bkn, bkn, ih (by omega)]
          have : bki U b m = U m := by
            unfold bki
            rw [decide_eq_false (by omega), Bool.or_false]
          rw [this]
      rw [e (Nat.le_refl _), h]
      have : bki U b b = true := by unfold bki; simp
      rw [this]
      simp
    · have := bkn_i h (n := n) (by omega)
      have e : bki U b n = U n := by
        unfold bki
        rw [decide_eq_false (by omega), Bool.or_false]
      rw [e]
      omega
def bkok (n0 n1 : Nat) (g : Nat → Nat) (i : Nat) (U : Nat → Bool) : Prop := ∀ j, i ≤ j → j < n0 → g j ≠ 12 → U (g j) = false
theorem bkT_A {g : Nat → Nat} (hn1 : n1 ≤ 12) (hg : bkV n0 n1 g) : ∀ {k i : Nat} {U : Nat → Bool}, i + k = n0 → bkok n0 n1 g i U → (bkT n1 co g k i U : Int) = 25 * (bkn U n1 : Int) + (bkA co g n0 - bkA co g i)
  | 0, i, U, h, _ => by
    have h : i = n0 := by omega
    subst h
    rw [bkT]
    omega
  | k + 1, i, U, h, ok => by
    rw [bkT]
    have e : bkA co g (i + 1) = bkA co g i + bkc co g i := rfl
    by_cases c : g i = 12
    · rw [if_pos c]
      have := bkT_A hn1 hg (k := k) (i := i + 1) (U := U) (by omega) (fun j a b d => ok j (by omega) b d)
      have e2 : bkc co g i = 25 := if_pos c
      omega
    · rw [if_neg c]
      have gi : g i < n1 := (hg.1 i (by omega)).resolve_right c
      have u := ok i (Nat.le_refl _) (by omega) c
      have := bkT_A hn1 hg (k := k) (i := i + 1) (U := bki U (g i)) (by omega) (fun j a b d => by
        unfold bki
        rw [ok j (by omega) b d, Bool.false_or]
        exact decide_eq_false (fun z => c (hg.2 i j (by omega) b z.symm)))
      have e2 : bkc co g i = (co i (g i) : Int) - 25 := if_neg c
      have e3 := bkn_i u gi
      omega
theorem bkm_0 {V : (Nat → Bool) → Nat} {U : Nat → Bool} {i : Nat} : ∀ {n : Nat}, bkm co V U i n ≤ 25 + V U
  | 0 => Nat.le_refl _
  | n + 1 => by
    rw [bkm]
    have := bkm_0 (V := V) (U := U) (i := i) (n := n)
    split
    · exact this
    · omega
theorem bkm_b {V : (Nat → Bool) → Nat} {U : Nat → Bool} {i b : Nat} (h : U b = false) : ∀ {n : Nat}, b < n → bkm co V U i n ≤ co i b + V (bki U b)
  | 0, hb => by omega
  | n + 1, hb => by
    rw [bkm]
    by_cases c : b = n
    · subst c
      rw [h, if_neg (by decide)]
      omega
    · have := bkm_b (V := V) (i := i) h (n := n) (by omega)
      split
      · exact this
      · omega
theorem bkm_ex {V : (Nat → Bool) → Nat} {U : Nat → Bool} {i : Nat} : ∀ {n : Nat}, bkm co V U i n = 25 + V U ∨ ∃ b, b < n ∧ U b = false ∧ bkm co V U i n = co i b + V (bki U b)
  | 0 => Or.inl rfl
  | n + 1 => by
    rw [bkm]
    have ih := bkm_ex (V := V) (U := U) (i := i) (n := n)
    by_cases c : U n = true
    · rw [if_pos c]
      rcases ih with h | ⟨b, b1, b2, b3⟩
      · exact Or.inl h
      · exact Or.inr ⟨b, by omega, b2, b3⟩
    · rw [if_neg c]
      have c : U n = false := by simpa using c
      by_cases l : bkm co V U i n ≤ co i n + V (bki U n)
      · rw [Nat.min_eq_left l]
        rcases ih with h | ⟨b, b1, b2, b3⟩
        · exact Or.inl h
        · exact Or.inr ⟨b, by omega, b2, b3⟩
      · rw [Nat.min_eq_right (by omega)]
        exact Or.inr ⟨n, by omega, c, rfl⟩
theorem bkW_le {g : Nat → Nat} (hg : bkV n0 n1 g) : ∀ {k i : Nat} {U : Nat → Bool}, i + k = n0 → bkok n0 n1 g i U → bkW n1 co k i U ≤ bkT n1 co g k i U
  | 0, _, _, _, _ => Nat.le_refl _
  | k + 1, i, U, h, ok => by
    rw [bkW, bkT]
    by_cases c : g i = 12
    · rw [if_pos c]
      have := bkW_le hg (k := k) (i := i + 1) (U := U) (by omega) (fun j a b d => ok j (by omega) b d)
      have := bkm_0 (co := co) (V := bkW n1 co k (i + 1)) (U := U) (i := i) (n := n1)
      omega
    · rw [if_neg c]
      have gi : g i < n1 := (hg.1 i (by omega)).resolve_right c
      have u := ok i (Nat.le_refl _) (by omega) c
      have := bkW_le hg (k := k) (i := i + 1) (U := bki U (g i)) (by omega) (fun j a b d => by
        unfold bki
        rw [ok j (by omega) b d, Bool.false_or]
        exact decide_eq_false (fun z => c (hg.2 i j (by omega) b z.symm)))
      have := bkm_b (co := co) (V := bkW n1 co k (i + 1)) (i := i) u gi
      omega
/-- the reference's choice of a mate, and the columns used ahead of a row -/
def bkp (n1 : Nat) (co : Nat → Nat → Nat) (V : (Nat → Bool) → Nat) (U : Nat → Bool) (i M : Nat) : Nat → Nat → Nat
  | 0, _ => 12
  | f + 1, b => if U b = false ∧ co i b + V (bki U b) = M then b else bkp n1 co V U i M f (b + 1)
theorem bkp_sp {V : (Nat → Bool) → Nat} {U : Nat → Bool} {i M : Nat} : ∀ {f b : Nat}, b + f = n1 → (bkp n1 co V U i M f b = 12 ∧ (∀ x, b ≤ x → x < n1 → ¬ (U x = false ∧ co i x + V (bki U x) = M))) ∨ (b ≤ bkp n1 co V U i M f b ∧ bkp n1 co V U i M f b < n1 ∧ U (bkp n1 co V U i M f b) = false ∧ co i (bkp n1 co V U i M f b) + V (bki U (bkp n1 co V U i M f b)) = M ∧ ∀ x, b ≤ x → x < bkp n1 co V U i M f b → ¬ (U x = false ∧ co i x + V (bki U x) = M))
  | 0, b, h => Or.inl ⟨rfl, fun x h1 h2 => by omega⟩
  | f + 1, b, h => by
    rw [bkp]
    by_cases c : U b = false ∧ co i b + V (bki U b) = M
    · rw [if_pos c]
      exact Or.inr ⟨Nat.le_refl _, by omega, c.1, c.2, fun x h1 h2 => by omega⟩
    · rw [if_neg c]
      rcases bkp_sp (V := V) (U := U) (i := i) (M := M) (f := f) (b := b + 1) (by omega) with ⟨h1, h2⟩ | ⟨h1, h2, h3, h4, h5⟩
      · refine Or.inl ⟨h1, fun x a d => ?_⟩
        by_cases e : x = b
        · subst e; exact c
        · exact h2 x (by omega) d
      · refine Or.inr ⟨by omega, h2, h3, h4, fun x a d => ?_⟩
        by_cases e : x = b
        · subst e; exact c
        · exact h5 x (by omega) d
section
variable (n0 n1 : Nat) (co : Nat → Nat → Nat)
def bkU : Nat → Nat → Bool
  | 0 => fun _ => false
  | i + 1 => if bkp n1 co (bkW n1 co (n0 - i - 1) (i + 1)) (bkU i) i (bkW n1 co (n0 - i) i (bkU i)) n1 0 = 12 then bkU i else bki (bkU i) (bkp n1 co (bkW n1 co (n0 - i - 1) (i + 1)) (bkU i) i (bkW n1 co (n0 - i) i (bkU i)) n1 0)
def bkg (i : Nat) : Nat := bkp n1 co (bkW n1 co (n0 - i - 1) (i + 1)) (bkU n0 n1 co i) i (bkW n1 co (n0 - i) i (bkU n0 n1 co i)) n1 0
end
theorem bkU_s {i : Nat} : bkU n0 n1 co (i + 1) = if bkg n0 n1 co i = 12 then bkU n0 n1 co i else bki (bkU n0 n1 co i) (bkg n0 n1 co i) := rfl
theorem bkU_in {x : Nat} (hx : x ≠ 12) : ∀ {i : Nat}, bkU n0 n1 co i x = true ↔ ∃ j, j < i ∧ bkg n0 n1 co j = x
  | 0 => ⟨fun h => (by cases h), fun ⟨j, h, _⟩ => (by omega)⟩
  | i + 1 => by
    have ih := bkU_in hx (i := i)
    rw [bkU_s]
    by_cases c : bkg n0 n1 co i = 12
    · rw [if_pos c, ih]
      constructor
      · rintro ⟨j, h1, h2⟩
        exact ⟨j, by omega, h2⟩
      · rintro ⟨j, h1, h2⟩
        by_cases e : j = i
        · subst e; omega
        · exact ⟨j, by omega, h2⟩
    · rw [if_neg c]
      unfold bki
      rw [Bool.or_eq_true, ih, decide_eq_true_eq]
      constructor
      · rintro (⟨j, h1, h2⟩ | h)
        · exact ⟨j, by omega, h2⟩
        · exact ⟨i, by omega, h.symm⟩
      · rintro ⟨j, h1, h2⟩
        by_cases e : j = i
        · subst e; exact Or.inr h2.symm
        · exact Or.inl ⟨j, by omega, h2⟩
theorem bkg_sp (hn1 : n1 ≤ 12) (i : Nat) : (bkg n0 n1 co i = 12 ∧ ∀ x, x < n1 → ¬ (bkU n0 n1 co i x = false ∧ co i x + bkW n1 co (n0 - i - 1) (i + 1) (bki (bkU n0 n1 co i) x) = bkW n1 co (n0 - i) i (bkU n0 n1 co i))) ∨ (bkg n0 n1 co i < n1 ∧ bkU n0 n1 co i (bkg n0 n1 co i) = false ∧ co i (bkg n0 n1 co i) + bkW n1 co (n0 - i - 1) (i + 1) (bki (bkU n0 n1 co i) (bkg n0 n1 co i)) = bkW n1 co (n0 - i) i (bkU n0 n1 co i) ∧ ∀ x, x < bkg n0 n1 co i → ¬ (bkU n0 n1 co i x = false ∧ co i x + bkW n1 co (n0 - i - 1) (i + 1) (bki (bkU n0 n1 co i) x) = bkW n1 co (n0 - i) i (bkU n0 n1 co i))) := by
  have := bkp_sp (n1 := n1) (co := co) (V := bkW n1 co (n0 - i - 1) (i + 1)) (U := bkU n0 n1 co i) (i := i) (M := bkW n1 co (n0 - i) i (bkU n0 n1 co i)) (f := n1) (b := 0) (by omega)
  rcases this with ⟨h1, h2⟩ | ⟨h1, h2, h3, h4, h5⟩
  · exact Or.inl ⟨h1, fun x hx => h2 x (by omega) hx⟩
  · exact Or.inr ⟨h2, h3, h4, fun x hx => h5 x (by omega) hx⟩
theorem bkg_V (hn1 : n1 ≤ 12) : bkV n0 n1 (bkg n0 n1 co) := by
  refine ⟨fun i hi => ?_, fun i j hij hj e => ?_⟩
  · rcases bkg_sp (n0 := n0) (co := co) hn1 i with ⟨h, -⟩ | ⟨h, -⟩
    · exact Or.inr h
    · exact Or.inl h
  · by_cases c : bkg n0 n1 co i = 12
    · exact c
    · exfalso
      rcases bkg_sp (n0 := n0) (co := co) hn1 j with ⟨h, -⟩ | ⟨-, h, -⟩
      · rw [h] at e; exact c e
      · have := (bkU_in (n0 := n0) (n1 := n1) (co := co) (x := bkg n0 n1 co j) (by rw [← e]; exact c) (i := j)).mpr ⟨i, hij, e⟩
        rw [h] at this
        cases this
theorem bkg_ok (hn1 : n1 ≤ 12) {g : Nat → Nat} (hg : bkV n0 n1 g) {j : Nat} (hj : j ≤ n0) (e : ∀ i, i < j → bkg n0 n1 co i = g i) : bkok n0 n1 g j (bkU n0 n1 co j) := fun x h1 h2 h3 => by
  cases c : bkU n0 n1 co j (g x) with
  | false => rfl
  | true =>
    exfalso
    obtain ⟨i, i1, i2⟩ := (bkU_in h3).mp c
    rw [e i i1] at i2
    have := hg.2 i x (by omega) h2 i2
    omega
theorem bkg_T (hn1 : n1 ≤ 12) : ∀ {k i : Nat}, i + k = n0 → bkT n1 co (bkg n0 n1 co) k i (bkU n0 n1 co i) = bkW n1 co k i (bkU n0 n1 co i)
  | 0, i, h => rfl
  | k + 1, i, h => by
    have ih := bkg_T hn1 (k := k) (i := i + 1) (by omega)
    rw [bkU_s] at ih
    rw [bkT]
    have e1 : n0 - i - 1 = k := by omega
    have e2 : n0 - i = k + 1 := by omega
    rcases bkg_sp (n0 := n0) (co := co) hn1 i with ⟨h1, h2⟩ | ⟨h1, h2, h3, -⟩
    · rw [if_pos h1] at ih ⊢
      rw [ih]
      rw [e1, e2] at h2
      rcases bkm_ex (co := co) (V := bkW n1 co k (i + 1)) (U := bkU n0 n1 co i) (i := i) (n := n1) with m | ⟨b, b1, b2, b3⟩
      · exact m.symm
      · exact absurd ⟨b2, b3.symm⟩ (h2 b b1)
    · have c : ¬ bkg n0 n1 co i = 12 := by omega
      rw [if_neg c] at ih ⊢
      rw [ih]
      rw [e1, e2] at h3
      exact h3
theorem bkA_eq {g f : Nat → Nat} : ∀ {n : Nat}, (∀ i, i < n → g i = f i) → bkA co g n = bkA co f n
  | 0, _ => rfl
  | n + 1, h => by
    rw [bkA, bkA, bkA_eq (n := n) (fun i hi => h i (by omega))]
    unfold bkc
    rw [h n (by omega)]
theorem bkg_best (hn1 : n1 ≤ 12) {f : Nat → Nat} (hf : bkV n0 n1 f) : bkA co (bkg n0 n1 co) n0 ≤ bkA co f n0 := by
  have h1 := bkT_A (co := co) hn1 (bkg_V (n0 := n0) (co := co) hn1) (k := n0) (i := 0) (U := bkU n0 n1 co 0) (by omega) (bkg_ok hn1 (bkg_V hn1) (by omega) (fun i hi => by omega))
  have h2 := bkT_A (co := co) hn1 hf (k := n0) (i := 0) (U := bkU n0 n1 co 0) (by omega) (bkg_ok hn1 hf (by omega) (fun i hi => by omega))
  have h3 := bkW_le (co := co) hf (k := n0) (i := 0) (U := bkU n0 n1 co 0) (by omega) (bkg_ok hn1 hf (by omega) (fun i hi => by omega))
  rw [← bkg_T hn1 (k := n0) (i := 0) (by omega)] at h3
  have z : ∀ g, bkA co g 0 = 0 := fun _ => rfl
  rw [z] at h1 h2
  omega
theorem bkg_first (hn0 : n0 ≤ 12) (hn1 : n1 ≤ 12) {f : Nat → Nat} (hf : bkV n0 n1 f) (e : bkA co (bkg n0 n1 co) n0 = bkA co f n0) : bkL (bkg n0 n1 co) n0 ≤ bkL f n0 := by
  rcases bk_first (g := bkg n0 n1 co) (f := f) (n := n0) with h | ⟨j, j1, j2, j3⟩
  · rw [bkL_eq h]; exact Int.le_refl _
  · have gV := bkg_V (n0 := n0) (co := co) hn1
    have h1 := bkT_A (co := co) hn1 gV (k := n0 - j) (i := j) (U := bkU n0 n1 co j) (by omega) (bkg_ok hn1 gV (by omega) (fun i hi => rfl))
    have ok := bkg_ok (co := co) hn1 hf (j := j) (by omega) j2
    have h2 := bkT_A (co := co) hn1 hf (k := n0 - j) (i := j) (U := bkU n0 n1 co j) (by omega) ok
    have h4 := bkg_T (n0 := n0) (co := co) hn1 (k := n0 - j) (i := j) (by omega)
    have ea := bkA_eq (co := co) j2
    have eT : bkT n1 co f (n0 - j) j (bkU n0 n1 co j) = bkW n1 co (n0 - j) j (bkU n0 n1 co j) := by omega
    have e2 : n0 - j = (n0 - j - 1) + 1 := by omega
    have lt : bkg n0 n1 co j < f j := by
      rcases bkg_sp (n0 := n0) (co := co) hn1 j with ⟨g1, g2⟩ | ⟨g1, g2, g3, g4⟩
      · exfalso
        have c : ¬ f j = 12 := fun z => j3 (g1.trans z.symm)
        have fj : f j < n1 := (hf.1 j j1).resolve_right c
        have u := ok j (Nat.le_refl _) j1 c
        refine g2 (f j) fj ⟨u, ?_⟩
        have l1 := bkm_b (co := co) (V := bkW n1 co (n0 - j - 1) (j + 1)) (i := j) u fj
        have l2 := bkW_le (co := co) hf (k := n0 - j - 1) (i := j + 1) (U := bki (bkU n0 n1 co j) (f j)) (by omega) (fun x a b d => by
          unfold bki
          rw [ok x (by omega) b d, Bool.false_or]
          exact decide_eq_false (fun z => c (hf.2 j x (by omega) b z.symm)))
        rw [e2, bkT, if_neg c, ← e2] at eT
        have e5 : bkW n1 co (n0 - j) j (bkU n0 n1 co j) = bkm co (bkW n1 co (n0 - j - 1) (j + 1)) (bkU n0 n1 co j) j n1 := by
          rw [e2]; rfl
        omega
      · by_cases c : f j = 12
        · omega
        · have fj : f j < n1 := (hf.1 j j1).resolve_right c
          have u := ok j (Nat.le_refl _) j1 c
          have l1 := bkm_b (co := co) (V := bkW n1 co (n0 - j - 1) (j + 1)) (i := j) u fj
          have l2 := bkW_le (co := co) hf (k := n0 - j - 1) (i := j + 1) (U := bki (bkU n0 n1 co j) (f j)) (by omega) (fun x a b d => by
            unfold bki
            rw [ok x (by omega) b d, Bool.false_or]
            exact decide_eq_false (fun z => c (hf.2 j x (by omega) b z.symm)))
          rw [e2, bkT, if_neg c, ← e2] at eT
          have e5 : bkW n1 co (n0 - j) j (bkU n0 n1 co j) = bkm co (bkW n1 co (n0 - j - 1) (j + 1)) (bkU n0 n1 co j) j n1 := by
            rw [e2]; rfl
          rcases Nat.lt_trichotomy (bkg n0 n1 co j) (f j) with x | x | x
          · exact x
          · exact absurd x j3
          · exact absurd ⟨u, by omega⟩ (g4 (f j) x)
    have := bkL_lt j2 lt (m := n0 - (j + 1)) (by omega) (fun i hi => bkV_12 hn1 gV i (by omega))
    rw [show j + 1 + (n0 - (j + 1)) = n0 by omega] at this
    have p : (0 : Int) < 13 ^ (12 - n0) := Int.pow_pos (by decide)
    omega
/-- so the mates of the least sum are the reference's -/
theorem bk_same (hn0 : n0 ≤ 12) (hn1 : n1 ≤ 12) {g : Nat → Nat} (hg : bkV n0 n1 g) (h : ∀ f, bkV n0 n1 f → bkA co g n0 * 23298085122481 + bkL g n0 ≤ bkA co f n0 * 23298085122481 + bkL f n0) : ∀ i, i < n0 → g i = bkg n0 n1 co i := bk_one hn0 hn1 hg (bkg_V hn1) (h _ (bkg_V hn1)) (bkg_best hn1 hg) (fun e => bkg_first hn0 hn1 hg e)
end
