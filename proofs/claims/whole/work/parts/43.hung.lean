/-! the least sum of an assignment: rows 1 .. n, columns 1 .. m -/
def hs_sum (f : Nat → Int) : Nat → Int
  | 0 => 0
  | n + 1 => hs_sum f n + f (n + 1)
theorem hs_congr {f g : Nat → Int} : ∀ {n : Nat}, (∀ r, 1 ≤ r → r ≤ n → f r = g r) → hs_sum f n = hs_sum g n
  | 0, _ => rfl
  | n + 1, h => by
    show hs_sum f n + f (n + 1) = hs_sum g n + g (n + 1)
    rw [hs_congr (n := n) (fun r h1 h2 => h r h1 (by omega)), h (n + 1) (by omega) (by omega)]
theorem hs_add (f g : Nat → Int) : ∀ n, hs_sum (fun r => f r + g r) n = hs_sum f n + hs_sum g n
  | 0 => rfl
  | n + 1 => by
    show hs_sum (fun r => f r + g r) n + (f (n + 1) + g (n + 1)) = hs_sum f n + f (n + 1) + (hs_sum g n + g (n + 1))
    rw [hs_add f g n]
    omega
theorem hs_le {f g : Nat → Int} : ∀ {n : Nat}, (∀ r, 1 ≤ r → r ≤ n → f r ≤ g r) → hs_sum f n ≤ hs_sum g n
  | 0, _ => Int.le_refl _
  | n + 1, h => by
    have h1 := hs_le (n := n) (fun r h1 h2 => h r h1 (by omega))
    have h2 := h (n + 1) (by omega) (by omega)
    show hs_sum f n + f (n + 1) ≤ hs_sum g n + g (n + 1)
    omega
theorem hs_zero {f : Nat → Int} {n : Nat} (h : ∀ r, 1 ≤ r → r ≤ n → f r = 0) : hs_sum f n = 0 := by
  induction n with
  | zero => rfl
  | succ n ih =>
    show hs_sum f n + f (n + 1) = 0
    rw [ih (fun r h1 h2 => h r h1 (by omega)), h (n + 1) (by omega) (by omega)]
    rfl
theorem hs_cut {f : Nat → Int} {m q : Nat} (h1 : 1 ≤ q) (h2 : q ≤ m) : hs_sum f m = hs_sum (fun c => if c = q then 0 else f c) m + f q := by
  induction m with
  | zero => omega
  | succ m ih =>
    show hs_sum f m + f (m + 1) = hs_sum (fun c => if c = q then 0 else f c) m + (if m + 1 = q then 0 else f (m + 1)) + f q
    by_cases e : q = m + 1
    · subst e
      rw [if_pos rfl, hs_congr (f := fun c => if c = m + 1 then 0 else f c) (g := f) (n := m) (fun r _ h => if_neg (by omega))]
      omega
    · rw [if_neg (fun z => e z.symm), ih (by omega)]
      omega
/-- a sum of numbers below 0 over different columns is no less than that over all -/
theorem hs_inj_le {m : Nat} : ∀ {n : Nat} {f : Nat → Int} {s : Nat → Nat}, (∀ c, 1 ≤ c → c ≤ m → f c ≤ 0) → (∀ r, 1 ≤ r → r ≤ n → 1 ≤ s r ∧ s r ≤ m) → (∀ r q, 1 ≤ r → r ≤ n → 1 ≤ q → q ≤ n → s r = s q → r = q) → hs_sum f m ≤ hs_sum (fun r => f (s r)) n
  | 0, f, s, hf, _, _ => by
    have : hs_sum f m ≤ hs_sum (fun _ => 0) m := hs_le hf
    rw [hs_zero (f := fun _ => 0) (fun _ _ _ => rfl)] at this
    exact this
  | n + 1, f, s, hf, hs, hi => by
    have h1 := hs (n + 1) (by omega) (by omega)
    rw [hs_cut h1.1 h1.2]
    have h2 := hs_inj_le (m := m) (n := n) (f := fun c => if c = s (n + 1) then 0 else f c) (s := s) (fun c c1 c2 => by
      by_cases e : c = s (n + 1)
      · simp [e]
      · simp only [e, if_false]; exact hf c c1 c2) (fun r r1 r2 => hs r r1 (by omega)) (fun r q r1 r2 q1 q2 e => hi r q r1 (by omega) q1 (by omega) e)
    have h3 : hs_sum (fun r => (fun c => if c = s (n + 1) then (0 : Int) else f c) (s r)) n = hs_sum (fun r => f (s r)) n := hs_congr (fun r r1 r2 => if_neg (fun e => by
      have := hi r (n + 1) r1 (by omega) (by omega) (by omega) e
      omega))
    rw [h3] at h2
    show _ ≤ hs_sum (fun r => f (s r)) n + f (s (n + 1))
    omega
theorem hs_inj_eq {m : Nat} : ∀ {n : Nat} {f : Nat → Int} {s : Nat → Nat}, (∀ c, 1 ≤ c → c ≤ m → (∀ r, 1 ≤ r → r ≤ n → s r ≠ c) → f c = 0) → (∀ r, 1 ≤ r → r ≤ n → 1 ≤ s r ∧ s r ≤ m) → (∀ r q, 1 ≤ r → r ≤ n → 1 ≤ q → q ≤ n → s r = s q → r = q) → hs_sum f m = hs_sum (fun r => f (s r)) n
  | 0, f, s, hf, _, _ => hs_zero (fun c c1 c2 => hf c c1 c2 (fun r r1 r2 => by omega))
  | n + 1, f, s, hf, hs, hi => by
    have h1 := hs (n + 1) (by omega) (by omega)
    rw [hs_cut h1.1 h1.2]
    have h2 := hs_inj_eq (m := m) (n := n) (f := fun c => if c = s (n + 1) then 0 else f c) (s := s) (fun c c1 c2 hc => by
      by_cases e : c = s (n + 1)
      · simp [e]
      · simp only [e, if_false]
        exact hf c c1 c2 (fun r r1 r2 er => by
          by_cases e2 : r = n + 1
          · subst e2; exact e er.symm
          · exact hc r r1 (by omega) er)) (fun r r1 r2 => hs r r1 (by omega)) (fun r q r1 r2 q1 q2 e => hi r q r1 (by omega) q1 (by omega) e)
    have h3 : hs_sum (fun r => (fun c => if c = s (n + 1) then (0 : Int) else f c) (s r)) n = hs_sum (fun r => f (s r)) n := hs_congr (fun r r1 r2 => if_neg (fun e => by
      have := hi r (n + 1) r1 (by omega) (by omega) (by omega) e
      omega))
    rw [h3] at h2
    show _ = hs_sum (fun r => f (s r)) n + f (s (n + 1))
    omega
/-- no more rows than columns can have one each -/
theorem hs_pigeon : ∀ {n m : Nat} {s : Nat → Nat}, (∀ r, 1 ≤ r → r ≤ n → 1 ≤ s r ∧ s r ≤ m) → (∀ r q, 1 ≤ r → r ≤ n → 1 ≤ q → q ≤ n → s r = s q → r = q) → n ≤ m := by
  intro n m s hs hi
  have h1 := hs_inj_le (m := m) (n := n) (f := fun _ => -1) (s := s) (fun _ _ _ => by decide) hs hi
  have h2 : ∀ k, hs_sum (fun _ => -1) k = -(k : Int) := by
    intro k
    induction k with
    | zero => rfl
    | succ k ih =>
      show hs_sum (fun _ => -1) k + -1 = _
      rw [ih]
      omega
  rw [h2] at h1
  have h3 : hs_sum (fun r => (fun _ => (-1 : Int)) (s r)) n = -(n : Int) := h2 n
  rw [h3] at h1
  omega
/-- rows 1 .. i have a column each: worths of rows and columns, the row of a column (0: none) -/
def hu_I (m : Nat) (W : Int) (w : Nat → Nat → Int) (i : Nat) (u v : Nat → Int) (p : Nat → Nat) : Prop :=
  (∀ c, 1 ≤ c → c ≤ m → p c ≤ i) ∧ (∀ c d, 1 ≤ c → c ≤ m → 1 ≤ d → d ≤ m → p c = p d → p c ≠ 0 → c = d) ∧ (∀ r, 1 ≤ r → r ≤ i → ∃ c, 1 ≤ c ∧ c ≤ m ∧ p c = r) ∧ (∀ r c, 1 ≤ r → r ≤ i → 1 ≤ c → c ≤ m → u r + v c ≤ w r c) ∧ (∀ c, 1 ≤ c → c ≤ m → p c ≠ 0 → u (p c) + v c = w (p c) c) ∧ (∀ c, 1 ≤ c → c ≤ m → v c ≤ 0 ∧ (p c = 0 → v c = 0)) ∧ ∀ r, 1 ≤ r → r ≤ i → -W ≤ u r ∧ u r ≤ W
/-- it is the least sum of all -/
theorem hu_best {m n : Nat} {W : Int} {w : Nat → Nat → Int} {u v : Nat → Int} {p : Nat → Nat} (h : hu_I m W w n u v p) : ∃ s : Nat → Nat, (∀ r, 1 ≤ r → r ≤ n → (1 ≤ s r ∧ s r ≤ m) ∧ p (s r) = r) ∧ (∀ r q, 1 ≤ r → r ≤ n → 1 ≤ q → q ≤ n → s r = s q → r = q) ∧ ∀ t : Nat → Nat, (∀ r, 1 ≤ r → r ≤ n → 1 ≤ t r ∧ t r ≤ m) → (∀ r q, 1 ≤ r → r ≤ n → 1 ≤ q → q ≤ n → t r = t q → r = q) → hs_sum (fun r => w r (s r)) n ≤ hs_sum (fun r => w r (t r)) n := by
  obtain ⟨hA, hB, hC, hD, hE, hF, -⟩ := h
  have h0 : ∀ r, ∃ c, 1 ≤ r → r ≤ n → (1 ≤ c ∧ c ≤ m) ∧ p c = r := by
    intro r
    by_cases e : 1 ≤ r ∧ r ≤ n
    · obtain ⟨c, c1, c2, c3⟩ := hC r e.1 e.2
      exact ⟨c, fun _ _ => ⟨⟨c1, c2⟩, c3⟩⟩
    · exact ⟨0, fun a b => absurd ⟨a, b⟩ e⟩
  obtain ⟨s, hs⟩ := Classical.axiomOfChoice h0
  have hinj : ∀ r q, 1 ≤ r → r ≤ n → 1 ≤ q → q ≤ n → s r = s q → r = q := fun r q r1 r2 q1 q2 e => by
    rw [← (hs r r1 r2).2, ← (hs q q1 q2).2, e]
  refine ⟨s, hs, hinj, fun t ht hti => ?_⟩
  have e1 : hs_sum (fun r => w r (s r)) n = hs_sum (fun r => u r + v (s r)) n := hs_congr (fun r r1 r2 => by
    have h1 := hs r r1 r2
    have h2 := hE (s r) h1.1.1 h1.1.2 (by rw [h1.2]; omega)
    rw [h1.2] at h2
    exact h2.symm)
  have e2 : hs_sum (fun r => u r + v (t r)) n ≤ hs_sum (fun r => w r (t r)) n := hs_le (fun r r1 r2 => hD r (t r) r1 r2 (ht r r1 r2).1 (ht r r1 r2).2)
  have e3 := hs_inj_le (m := m) (n := n) (f := v) (s := t) (fun c c1 c2 => (hF c c1 c2).1) ht hti
  have e4 : hs_sum v m = hs_sum (fun r => v (s r)) n := hs_inj_eq (fun c c1 c2 hc => (hF c c1 c2).2 (by
    by_cases e : p c = 0
    · exact e
    · exfalso
      have h1 := hA c c1 c2
      have h2 := hs (p c) (by omega) h1
      exact hc (p c) (by omega) h1 (hB _ _ h2.1.1 h2.1.2 c1 c2 h2.2 (by rw [h2.2]; exact e)))) (fun r r1 r2 => (hs r r1 r2).1) hinj
  rw [e1, hs_add]
  rw [hs_add] at e2
  omega
/-- a new row looks for a column: what holds at each step. us: columns seen, at: the one that was reached, sl: how far each other one is, wy: from which one -/
def hu_P (m : Nat) (W : Int) (w : Nat → Nat → Int) (i k : Nat) (u v : Nat → Int) (p : Nat → Nat) (sl : Nat → Int) (wy : Nat → Nat) (us : Nat → Bool) (rk : Nat → Nat) (at' : Nat) : Prop :=
  (p 0 = i + 1 ∧ (∀ c, 1 ≤ c → c ≤ m → p c ≤ i) ∧ (∀ c d, 1 ≤ c → c ≤ m → 1 ≤ d → d ≤ m → p c = p d → p c ≠ 0 → c = d) ∧ (∀ r, 1 ≤ r → r ≤ i → ∃ c, 1 ≤ c ∧ c ≤ m ∧ p c = r)) ∧
  ((∀ r c, 1 ≤ r → r ≤ i → 1 ≤ c → c ≤ m → u r + v c ≤ w r c) ∧ (∀ c, 1 ≤ c → c ≤ m → p c ≠ 0 → u (p c) + v c = w (p c) c) ∧ (∀ c, 1 ≤ c → c ≤ m → v c ≤ 0 ∧ (p c = 0 → v c = 0)) ∧ (∀ r, 1 ≤ r → r ≤ i → -W ≤ u r ∧ u r ≤ W)) ∧
  (at' ≤ m ∧ us at' = false) ∧
  ((k = 0 ∧ at' = 0 ∧ (∀ c, c ≤ m → us c = false) ∧ u (i + 1) = 0) ∨
   (0 < k ∧ 1 ≤ at' ∧ us 0 = true ∧ sl at' = 0 ∧ (∀ c, 1 ≤ c → c ≤ m → u (i + 1) + v c ≤ w (i + 1) c) ∧ (-W ≤ u (i + 1) ∧ u (i + 1) ≤ W) ∧
    (∀ c, 1 ≤ c → c ≤ m → us c = true → p c ≠ 0) ∧
    (∀ c, 1 ≤ c → c ≤ m → us c = false → (wy c ≤ m ∧ us (wy c) = true ∧ sl c = w (p (wy c)) c - u (p (wy c)) - v c) ∧ ∀ s, s ≤ m → us s = true → sl c ≤ w (p s) c - u (p s) - v c) ∧
    (∀ c, 1 ≤ c → c ≤ m → us c = true → wy c ≤ m ∧ us (wy c) = true ∧ rk (wy c) < rk c ∧ w (p (wy c)) c = u (p (wy c)) + v c) ∧
    (∀ c, c ≤ m → us c = true → rk c < k))) ∧ ∀ j, j < k → ∃ c, c ≤ m ∧ us c = true ∧ rk c = j
theorem hu_step {m i k : Nat} {W : Int} {w : Nat → Nat → Int} {u v u2 v2 sl sl1 sl2 : Nat → Int} {p wy wy1 rk : Nat → Nat} {us us1 : Nat → Bool} {a nr : Nat} (h : hu_P m W w i k u v p sl wy us rk a) (hw : ∀ r c, 1 ≤ r → r ≤ i + 1 → 1 ≤ c → c ≤ m → -W ≤ w r c ∧ w r c ≤ W) (hm : i < m) (hp : p a ≠ 0)
    (h1 : ∀ c, c ≤ m → us1 c = (if c = a then true else us c))
    (h2 : ∀ c, 1 ≤ c → c ≤ m → us1 c = false → (sl1 c = w (p a) c - u (p a) - v c ∧ wy1 c = a ∧ (0 < k → w (p a) c - u (p a) - v c ≤ sl c)) ∨ (0 < k ∧ sl1 c = sl c ∧ wy1 c = wy c ∧ sl c ≤ w (p a) c - u (p a) - v c))
    (h2b : ∀ c, c ≤ m → us1 c = true → wy1 c = wy c)
    (h3 : 1 ≤ nr ∧ nr ≤ m ∧ us1 nr = false ∧ ∀ c, 1 ≤ c → c ≤ m → us1 c = false → sl1 nr ≤ sl1 c)
    (h4 : ∀ s, s ≤ m → us1 s = true → u2 (p s) = u (p s) + sl1 nr) (h4b : ∀ r, (∀ s, s ≤ m → us1 s = true → p s ≠ r) → u2 r = u r)
    (h5 : ∀ c, c ≤ m → v2 c = if us1 c then v c - sl1 nr else v c)
    (h6 : ∀ c, 1 ≤ c → c ≤ m → us1 c = false → sl2 c = sl1 c - sl1 nr) : hu_P m W w i (k + 1) u2 v2 p sl2 wy1 us1 (fun c => if c = a then k else rk c) nr := by
  obtain ⟨⟨p0, hA, hB, hC⟩, ⟨hD, hE, hF, hG⟩, ⟨ha1, ha2⟩, hk, hrk⟩ := h
  obtain ⟨n1, n2, n3, n4⟩ := h3
  -- what was seen before is seen
  have seen : ∀ c, c ≤ m → us1 c = true → c ≠ a → us c = true := fun c hc hs hne => by
    have := h1 c hc
    rw [if_neg hne] at this
    rw [← this]; exact hs
  have uns : ∀ c, c ≤ m → us1 c = false → us c = false ∧ c ≠ a := fun c hc hs => by
    have := h1 c hc
    by_cases e : c = a
    · rw [if_pos e] at this
      rw [this] at hs
      cases hs
    · rw [if_neg e] at this
      exact ⟨by rw [← this]; exact hs, e⟩
  have sa : us1 a = true := by rw [h1 a ha1, if_pos rfl]
  -- rows of the columns seen
  have row : ∀ s, s ≤ m → us1 s = true → 1 ≤ p s ∧ p s ≤ i + 1 := by
    intro s hs h9
    by_cases e0 : s = 0
    · subst e0; omega
    · have := hA s (by omega) hs
      by_cases e : s = a
      · subst e; omega
      · have h8 := seen s hs h9 e
        rcases hk with ⟨-, -, q, -⟩ | ⟨-, -, -, -, -, -, q, -⟩
        · rw [q s hs] at h8; cases h8
        · have := q s (by omega) hs h8; omega
  have inj : ∀ s t, s ≤ m → t ≤ m → us1 s = true → us1 t = true → p s = p t → s = t := by
    intro s t hs ht h7 h8 e
    have r1 := row s hs h7
    by_cases e0 : s = 0
    · by_cases e1 : t = 0
      · omega
      · have := hA t (by omega) ht
        rw [e0, p0] at e
        omega
    · by_cases e1 : t = 0
      · have := hA s (by omega) hs
        rw [e1, p0] at e
        omega
      · exact hB s t (by omega) hs (by omega) ht e (by omega)
  have DD : 0 < k → ∀ r c, 1 ≤ r → r ≤ i + 1 → 1 ≤ c → c ≤ m → u r + v c ≤ w r c := by
    intro h0 r c r1 r2 c1 c2
    by_cases e : r ≤ i
    · exact hD r c r1 e c1 c2
    · rcases hk with ⟨q, -⟩ | ⟨-, -, -, -, q, -⟩
      · omega
      · rw [show r = i + 1 by omega]; exact q c c1 c2
  -- how far a column not seen is: from one that is, and no one is nearer
  have near : ∀ c, 1 ≤ c → c ≤ m → us1 c = false → (wy1 c ≤ m ∧ us1 (wy1 c) = true ∧ sl1 c = w (p (wy1 c)) c - u (p (wy1 c)) - v c) ∧ ∀ s, s ≤ m → us1 s = true → sl1 c ≤ w (p s) c - u (p s) - v c := by
    intro c c1 c2 hc
    obtain ⟨q1, q2⟩ := uns c c2 hc
    have old : 0 < k → (wy c ≤ m ∧ us (wy c) = true ∧ sl c = w (p (wy c)) c - u (p (wy c)) - v c) ∧ ∀ s, s ≤ m → us s = true → sl c ≤ w (p s) c - u (p s) - v c := by
      intro h0
      rcases hk with ⟨q, -⟩ | ⟨-, -, -, -, -, -, -, q, -⟩
      · omega
      · exact q c c1 c2 q1
    rcases h2 c c1 c2 hc with ⟨e1, e2, e3⟩ | ⟨h0, e1, e2, e3⟩
    · refine ⟨⟨by rw [e2]; exact ha1, by rw [e2]; exact sa, by rw [e1, e2]⟩, fun s hs h9 => ?_⟩
      by_cases e : s = a
      · rw [e, e1]; exact Int.le_refl _
      · have h8 := seen s hs h9 e
        rcases hk with ⟨-, -, q, -⟩ | ⟨h0, -⟩
        · rw [q s hs] at h8; cases h8
        · have := (old h0).2 s hs h8
          have := e3 h0
          omega
    · obtain ⟨⟨o1, o2, o3⟩, o4⟩ := old h0
      have ne : wy c ≠ a := fun e => by rw [e, ha2] at o2; cases o2
      refine ⟨⟨by rw [e2]; exact o1, by rw [e2, h1 _ o1, if_neg ne]; exact o2, by rw [e1, e2]; exact o3⟩, fun s hs h9 => ?_⟩
      by_cases e : s = a
      · rw [e, e1]; exact e3
      · rw [e1]; exact o4 s hs (seen s hs h9 e)
  have stp : 0 < k → 0 ≤ sl1 nr := by
    intro h0
    obtain ⟨⟨o1, o2, o3⟩, -⟩ := near nr n1 n2 n3
    have r1 := row _ o1 o2
    have := DD h0 _ nr r1.1 r1.2 n1 n2
    omega
  -- a free column
  obtain ⟨f, f1, f2, f3⟩ : ∃ f, 1 ≤ f ∧ f ≤ m ∧ p f = 0 := by
    by_cases e : ∃ f, 1 ≤ f ∧ f ≤ m ∧ p f = 0
    · exact e
    · exfalso
      have := hs_pigeon (n := m) (m := i) (s := p) (fun r r1 r2 => by
        have h8 := hA r r1 r2
        have h9 : p r ≠ 0 := fun z => e ⟨r, r1, r2, z⟩
        omega) (fun r q r1 r2 q1 q2 z => hB r q r1 r2 q1 q2 z (fun z9 => e ⟨r, r1, r2, z9⟩))
      omega
  have fu : us1 f = false := by
    cases hq : us1 f with
    | false => rfl
    | true => exact absurd f3 (by have := row f f2 hq; omega)
  have vf : v f = 0 := (hF f f1 f2).2 f3
  -- worths behind the step
  have V2s : ∀ c, c ≤ m → us1 c = true → v2 c = v c - sl1 nr := fun c hc hs => by rw [h5 c hc, hs]; rfl
  have V2u : ∀ c, c ≤ m → us1 c = false → v2 c = v c := fun c hc hs => by rw [h5 c hc, hs]; rfl
  have DN : ∀ r c, 1 ≤ r → r ≤ i + 1 → 1 ≤ c → c ≤ m → (0 < k ∨ r ≤ i ∨ us1 c = false) → (∃ s, s ≤ m ∧ us1 s = true ∧ p s = r) ∨ r ≤ i → u2 r + v2 c ≤ w r c := by
    intro r c r1 r2 c1 c2 hh hr
    by_cases ht : ∃ s, s ≤ m ∧ us1 s = true ∧ p s = r
    · obtain ⟨s, s1, s2, rfl⟩ := ht
      rw [h4 s s1 s2]
      cases hc : us1 c with
      | false =>
        rw [V2u c c2 hc]
        have := (near c c1 c2 hc).2 s s1 s2
        have := n4 c c1 c2 hc
        omega
      | true =>
        rw [V2s c c2 hc]
        have : u (p s) + v c ≤ w (p s) c := by
          rcases hh with h0 | h0 | h0
          · exact DD h0 _ c r1 r2 c1 c2
          · exact hD _ c r1 h0 c1 c2
          · rw [hc] at h0; cases h0
        omega
    · have ri : r ≤ i := by
        rcases hr with q | q
        · exact absurd q ht
        · exact q
      rw [h4b r (fun s s1 s2 e => ht ⟨s, s1, s2, e⟩)]
      have d0 := hD r c r1 ri c1 c2
      cases hc : us1 c with
      | false => rw [V2u c c2 hc]; exact d0
      | true =>
        rw [V2s c c2 hc]
        rcases hk with ⟨k0, a0, q, -⟩ | ⟨h0, -⟩
        · exfalso
          by_cases e : c = a
          · omega
          · have := seen c c2 hc e
            rw [q c c2] at this
            cases this
        · have := stp h0
          omega
  have at0 : us1 0 = true := by
    rcases hk with ⟨-, a0, -⟩ | ⟨-, -, q, -⟩
    · rw [← a0]; exact sa
    · by_cases e : 0 = a
      · rw [e]; exact sa
      · rw [h1 0 (by omega), if_neg e]; exact q
  have k0c : ∀ c, 1 ≤ c → c ≤ m → 0 < k ∨ us1 c = false := by
    intro c c1 c2
    rcases hk with ⟨-, a0, q, -⟩ | ⟨h0, -⟩
    · refine Or.inr ?_
      rw [h1 c c2, if_neg (by omega)]
      exact q c c2
    · exact Or.inl h0
  have D1 : ∀ c, 1 ≤ c → c ≤ m → u2 (i + 1) + v2 c ≤ w (i + 1) c := fun c c1 c2 => DN (i + 1) c (by omega) (by omega) c1 c2 (by
      rcases k0c c c1 c2 with q | q
      · exact Or.inl q
      · exact Or.inr (Or.inr q)) (Or.inl ⟨0, by omega, at0, p0⟩)
  have up : ∀ r, 1 ≤ r → r ≤ i + 1 → u2 r + v2 f ≤ w r f → u2 r ≤ W := by
    intro r r1 r2 hh
    rw [V2u f f2 fu, vf] at hh
    have := (hw r f r1 r2 f1 f2).2
    omega
  refine ⟨⟨p0, hA, hB, hC⟩, ⟨fun r c r1 r2 c1 c2 => DN r c r1 (by omega) c1 c2 (Or.inr (Or.inl r2)) (Or.inr r2), fun c c1 c2 hc => ?_, fun c c1 c2 => ?_, fun r r1 r2 => ?_⟩, ⟨n2, n3⟩, Or.inr ⟨by omega, n1, at0, ?_, D1, ⟨?_, ?_⟩, fun c c1 c2 hs => ?_, fun c c1 c2 hs => ?_, fun c c1 c2 hs => ?_, fun c c1 hs => ?_⟩, fun j hj => ?_⟩
  · cases hs : us1 c with
    | true =>
      rw [h4 c c2 hs, V2s c c2 hs]
      have := hE c c1 c2 hc
      omega
    | false =>
      rw [V2u c c2 hs, h4b (p c) (fun s s1 s2 e => ?_)]
      · exact hE c c1 c2 hc
      · by_cases e0 : s = 0
        · rw [e0, p0] at e
          have := hA c c1 c2
          omega
        · have := hB s c (by omega) s1 c1 c2 e (by rw [e]; exact hc)
          rw [this, hs] at s2
          cases s2
  · obtain ⟨q1, q2⟩ := hF c c1 c2
    cases hs : us1 c with
    | true =>
      rw [V2s c c2 hs]
      have r9 := row c c2 hs
      refine ⟨?_, fun z => by omega⟩
      rcases k0c c c1 c2 with q | q
      · have := stp q; omega
      · rw [hs] at q; cases q
    | false =>
      rw [V2u c c2 hs]
      exact ⟨q1, q2⟩
  · have hd := DN r f r1 (by omega) f1 f2 (Or.inr (Or.inl r2)) (Or.inr r2)
    refine ⟨?_, up r r1 (by omega) hd⟩
    have g0 := (hG r r1 r2).1
    by_cases ht : ∃ s, s ≤ m ∧ us1 s = true ∧ p s = r
    · obtain ⟨s, s1, s2, rfl⟩ := ht
      rw [h4 s s1 s2]
      have : 0 < k := by
        rcases hk with ⟨-, a0, q, -⟩ | ⟨h0, -⟩
        · exfalso
          by_cases e : s = a
          · rw [e, a0, p0] at r2; omega
          · have := seen s s1 s2 e
            rw [q s s1] at this
            cases this
        · exact h0
      have := stp this
      omega
    · rw [h4b r (fun s s1 s2 e => ht ⟨s, s1, s2, e⟩)]
      exact g0
  · rw [h6 nr n1 n2 n3]; omega
  · have e := h4 0 (by omega) at0
    rw [p0] at e
    rw [e]
    rcases hk with ⟨k0, a0, q, u0⟩ | ⟨h0, -, -, -, -, ⟨q, -⟩, -⟩
    · rw [u0]
      obtain ⟨⟨o1, o2, o3⟩, -⟩ := near nr n1 n2 n3
      have r9 := row _ o1 o2
      have ea : wy1 nr = a := by
        by_cases e : wy1 nr = a
        · exact e
        · have := seen _ o1 o2 e
          rw [q _ o1] at this
          cases this
      rw [ea, a0, p0, u0] at o3
      have := (hF nr n1 n2).1
      have := (hw (i + 1) nr (by omega) (by omega) n1 n2).1
      omega
    · have := stp h0; omega
  · exact up (i + 1) (by omega) (by omega) (D1 f f1 f2)
  · have := row c c2 hs; omega
  · obtain ⟨⟨o1, o2, o3⟩, o4⟩ := near c c1 c2 hs
    refine ⟨⟨o1, o2, ?_⟩, fun s s1 s2 => ?_⟩
    · rw [h6 c c1 c2 hs, V2u c c2 hs, h4 _ o1 o2, o3]; omega
    · rw [h6 c c1 c2 hs, V2u c c2 hs, h4 s s1 s2]
      have := o4 s s1 s2
      omega
  · rw [h2b c c2 hs]
    by_cases e : c = a
    · -- the one that is seen now
      rcases hk with ⟨-, a0, -⟩ | ⟨h0, a1, -, z, -, -, -, q, -, rr⟩
      · omega
      · obtain ⟨⟨o1, o2, o3⟩, -⟩ := q c c1 c2 (by rw [e]; exact ha2)
        have ne : wy c ≠ a := fun z => by rw [z, ha2] at o2; cases o2
        have s9 : us1 (wy c) = true := by rw [h1 _ o1, if_neg ne]; exact o2
        refine ⟨o1, s9, ?_, ?_⟩
        · show (if wy c = a then k else rk (wy c)) < (if c = a then k else rk c)
          rw [if_neg ne, if_pos e]
          exact rr _ o1 o2
        · rw [h4 _ o1 s9, V2s c c2 hs]
          rw [e] at o3 ⊢
          rw [z] at o3
          omega
    · have h8 := seen c c2 hs e
      rcases hk with ⟨-, -, q, -⟩ | ⟨h0, a1, -, z, -, -, -, -, q, rr⟩
      · rw [q c c2] at h8; cases h8
      · obtain ⟨o1, o2, o3, o4⟩ := q c c1 c2 h8
        have ne : wy c ≠ a := fun z => by rw [z, ha2] at o2; cases o2
        have s9 : us1 (wy c) = true := by rw [h1 _ o1, if_neg ne]; exact o2
        refine ⟨o1, s9, ?_, ?_⟩
        · simp only [ne, e, if_false]
          exact o3
        · rw [h4 _ o1 s9, V2s c c2 hs]
          omega
  · by_cases e : c = a
    · simp only [e, if_true]; omega
    · simp only [e, if_false]
      have h8 := seen c c1 hs e
      rcases hk with ⟨-, -, q, -⟩ | ⟨h0, -, -, -, -, -, -, -, -, rr⟩
      · rw [q c c1] at h8; cases h8
      · have := rr c c1 h8; omega
  · by_cases e : j = k
    · exact ⟨a, ha1, sa, by simp [e]⟩
    · obtain ⟨c, c1, c2, c3⟩ := hrk j (by omega)
      have ne : c ≠ a := fun z => by rw [z, ha2] at c2; cases c2
      exact ⟨c, c1, by rw [h1 c c1, if_neg ne]; exact c2, by simp only [ne, if_false]; exact c3⟩
/-- no more columns are seen than there are rows -/
theorem hu_few {m i k : Nat} {W : Int} {w : Nat → Nat → Int} {u v sl : Nat → Int} {p wy rk : Nat → Nat} {us : Nat → Bool} {a : Nat} (h : hu_P m W w i k u v p sl wy us rk a) : k ≤ i + 1 := by
  obtain ⟨⟨p0, hA, hB, hC⟩, -, -, hk, hrk⟩ := h
  have h0 : ∀ j, ∃ c, j < k → c ≤ m ∧ us c = true ∧ rk c = j := by
    intro j
    by_cases e : j < k
    · obtain ⟨c, hc⟩ := hrk j e
      exact ⟨c, fun _ => hc⟩
    · exact ⟨0, fun z => absurd z e⟩
  obtain ⟨f, hf⟩ := Classical.axiomOfChoice h0
  by_cases k0 : k = 0
  · omega
  have row : ∀ s, s ≤ m → us s = true → 1 ≤ p s ∧ p s ≤ i + 1 := by
    intro s hs h9
    by_cases e0 : s = 0
    · subst e0; omega
    · have := hA s (by omega) hs
      rcases hk with ⟨q, -⟩ | ⟨-, -, -, -, -, -, q, -⟩
      · omega
      · have := q s (by omega) hs h9; omega
  refine hs_pigeon (n := k) (m := i + 1) (s := fun r => p (f (r - 1))) (fun r r1 r2 => ?_) (fun r q r1 r2 q1 q2 e => ?_)
  · have := hf (r - 1) (by omega)
    exact row _ this.1 this.2.1
  · have g1 := hf (r - 1) (by omega)
    have g2 := hf (q - 1) (by omega)
    have e : p (f (r - 1)) = p (f (q - 1)) := e
    have r9 := row _ g1.1 g1.2.1
    have : f (r - 1) = f (q - 1) := by
      by_cases e0 : f (r - 1) = 0
      · by_cases e1 : f (q - 1) = 0
        · rw [e0, e1]
        · have := hA _ (by omega) g2.1
          rw [e0, p0] at e
          omega
      · by_cases e1 : f (q - 1) = 0
        · have := hA _ (by omega) g1.1
          rw [e1, p0] at e
          omega
        · exact hB _ _ (by omega) g1.1 (by omega) g2.1 e (by omega)
    have g3 := g1.2.2
    rw [this, g2.2.2] at g3
    omega
/-- the chain of moves: all but the column at have their rows -/
def hu_T (m : Nat) (w : Nat → Nat → Int) (i : Nat) (u v : Nat → Int) (q : Nat → Nat) (wy : Nat → Nat) (us : Nat → Bool) (rk : Nat → Nat) (p : Nat → Nat) (a R : Nat) : Prop :=
  (∀ r, 1 ≤ r → r ≤ i + 1 → ∃ c, c ≤ m ∧ c ≠ a ∧ p c = r) ∧ (∀ c d, c ≤ m → d ≤ m → c ≠ a → d ≠ a → p c = p d → p c ≠ 0 → c = d) ∧ (∀ c, c ≤ m → c ≠ a → p c ≤ i + 1) ∧ (∀ c, 1 ≤ c → c ≤ m → c ≠ a → p c ≠ 0 → u (p c) + v c = w (p c) c) ∧ (∀ c, 1 ≤ c → c ≤ m → c ≠ a → p c = 0 → v c = 0) ∧ (a = 0 ∨ (1 ≤ a ∧ a ≤ m ∧ wy a ≤ m ∧ us (wy a) = true ∧ rk (wy a) < R ∧ w (q (wy a)) a = u (q (wy a)) + v a)) ∧ ∀ c, c ≤ m → us c = true → rk c < R → p c = q c
theorem hu_T0 {m i k : Nat} {W : Int} {w : Nat → Nat → Int} {u v sl : Nat → Int} {p wy rk : Nat → Nat} {us : Nat → Bool} {a : Nat} (h : hu_P m W w i k u v p sl wy us rk a) (hp : p a = 0) : hu_T m w i u v p wy us rk p a k := by
  obtain ⟨⟨p0, hA, hB, hC⟩, ⟨hD, hE, hF, hG⟩, ⟨ha1, ha2⟩, hk, hrk⟩ := h
  have a1 : 1 ≤ a := by
    by_cases e : a = 0
    · rw [e, p0] at hp; omega
    · omega
  rcases hk with ⟨-, a0, -⟩ | ⟨h0, -, s0, z, -, -, -, q, -, rr⟩
  · omega
  obtain ⟨⟨o1, o2, o3⟩, -⟩ := q a a1 ha1 ha2
  refine ⟨fun r r1 r2 => ?_, fun c d hc hd c1 d1 e e0 => ?_, fun c hc c1 => ?_, fun c c1 c2 _ hc => hE c c1 c2 hc, fun c c1 c2 _ hc => (hF c c1 c2).2 hc, Or.inr ⟨a1, ha1, o1, o2, rr _ o1 o2, by omega⟩, fun _ _ _ _ => rfl⟩
  · by_cases e : r ≤ i
    · obtain ⟨c, c1, c2, c3⟩ := hC r r1 e
      exact ⟨c, c2, fun z => by rw [z, hp] at c3; omega, c3⟩
    · exact ⟨0, by omega, by omega, by rw [p0]; omega⟩
  · by_cases e1 : c = 0
    · by_cases e2 : d = 0
      · omega
      · have := hA d (by omega) hd
        rw [e1, p0] at e
        omega
    · by_cases e2 : d = 0
      · have := hA c (by omega) hc
        rw [e2, p0] at e
        omega
      · exact hB c d (by omega) hc (by omega) hd e e0
  · by_cases e1 : c = 0
    · rw [e1, p0]; omega
    · have := hA c (by omega) hc; omega
theorem hu_T1 {m i R : Nat} {w : Nat → Nat → Int} {u v : Nat → Int} {p p2 q wy rk : Nat → Nat} {us : Nat → Bool} {a : Nat} (h : hu_T m w i u v q wy us rk p a R) (ha : a ≠ 0) (hq : ∀ c, c ≤ m → us c = true → q c ≠ 0) (hw : ∀ c, 1 ≤ c → c ≤ m → us c = true → wy c ≤ m ∧ us (wy c) = true ∧ rk (wy c) < rk c ∧ w (q (wy c)) c = u (q (wy c)) + v c) (h2 : ∀ c, c ≤ m → p2 c = if c = a then p (wy a) else p c) : hu_T m w i u v q wy us rk p2 (wy a) (rk (wy a)) := by
  obtain ⟨g1, g2, g3, g4, g5, g6, g7⟩ := h
  rcases g6 with z | ⟨a1, a2, a3, a4, a5, a6⟩
  · exact absurd z ha
  have e7 := g7 _ a3 a4 a5
  have ne : wy a ≠ a := by
    intro z
    have h9 := hw a a1 a2 (by rw [← z]; exact a4)
    rw [z] at h9
    omega
  have pa : p2 a = p (wy a) := by rw [h2 a a2, if_pos rfl]
  have po : ∀ c, c ≤ m → c ≠ a → p2 c = p c := fun c hc hne => by rw [h2 c hc, if_neg hne]
  have nz := hq _ a3 a4
  refine ⟨fun r r1 r2 => ?_, fun c d hc hd c1 d1 e e0 => ?_, fun c hc c1 => ?_, fun c c1 c2 c3 hc => ?_, fun c c1 c2 c3 hc => ?_, ?_, fun c c1 c2 c3 => ?_⟩
  · obtain ⟨c, c1, c2, c3⟩ := g1 r r1 r2
    by_cases e : c = wy a
    · exact ⟨a, a2, fun z => ne z.symm, by rw [pa, ← e]; exact c3⟩
    · exact ⟨c, c1, e, by rw [po c c1 c2]; exact c3⟩
  · by_cases e1 : c = a
    · by_cases e2 : d = a
      · omega
      · rw [e1, pa, po d hd e2] at e
        exact absurd (g2 _ d a3 hd ne e2 e (by rw [e7]; exact nz)).symm d1
    · by_cases e2 : d = a
      · rw [e2, pa, po c hc e1] at e
        exact absurd (g2 c _ hc a3 e1 ne e (by rw [e, e7]; exact nz)) c1
      · rw [po c hc e1, po d hd e2] at e
        rw [po c hc e1] at e0
        exact g2 c d hc hd e1 e2 e e0
  · by_cases e1 : c = a
    · rw [e1, pa]; exact g3 _ a3 ne
    · rw [po c hc e1]; exact g3 c hc e1
  · by_cases e1 : c = a
    · subst e1
      rw [pa, e7]
      omega
    · rw [po c c2 e1] at hc ⊢
      exact g4 c c1 c2 e1 hc
  · by_cases e1 : c = a
    · subst e1
      rw [pa, e7] at hc
      exact absurd hc nz
    · rw [po c c2 e1] at hc
      exact g5 c c1 c2 e1 hc
  · by_cases e : wy a = 0
    · exact Or.inl e
    · obtain ⟨o1, o2, o3, o4⟩ := hw _ (by omega) a3 a4
      exact Or.inr ⟨by omega, a3, o1, o2, o3, o4⟩
  · have : c ≠ a := by
      intro z
      subst z
      have h9 := hw c a1 a2 c2
      omega
    rw [po c c1 this]
    exact g7 c c1 c2 (by omega)
theorem hu_end {m i k R : Nat} {W : Int} {w : Nat → Nat → Int} {u v sl : Nat → Int} {p q wy rk : Nat → Nat} {us : Nat → Bool} {a : Nat} (h : hu_P m W w i k u v q sl wy us rk a) (ha : a ≠ 0) (ht : hu_T m w i u v q wy us rk p 0 R) : hu_I m W w (i + 1) u v p := by
  obtain ⟨⟨p0, hA, hB, hC⟩, ⟨hD, hE, hF, hG⟩, ⟨ha1, ha2⟩, hk, hrk⟩ := h
  obtain ⟨g1, g2, g3, g4, g5, g6, g7⟩ := ht
  rcases hk with ⟨-, a0, -⟩ | ⟨h0, -, s0, z, d1, b1, -⟩
  · omega
  refine ⟨fun c c1 c2 => g3 c c2 (by omega), fun c d c1 c2 d1 d2 e e0 => g2 c d c2 d2 (by omega) (by omega) e e0, fun r r1 r2 => ?_, fun r c r1 r2 c1 c2 => ?_, fun c c1 c2 hc => g4 c c1 c2 (by omega) hc, fun c c1 c2 => ⟨(hF c c1 c2).1, g5 c c1 c2 (by omega)⟩, fun r r1 r2 => ?_⟩
  · obtain ⟨c, c1, c2, c3⟩ := g1 r r1 r2
    exact ⟨c, by omega, c1, c3⟩
  · by_cases e : r ≤ i
    · exact hD r c r1 e c1 c2
    · rw [show r = i + 1 by omega]; exact d1 c c1 c2
  · by_cases e : r ≤ i
    · exact hG r r1 e
    · rw [show r = i + 1 by omega]; exact b1
