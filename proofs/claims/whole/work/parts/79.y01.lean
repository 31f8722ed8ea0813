/-! treaties: the tokens of a text, in pure words -/
theorem yi_lt {a b : Nat} (ha : a < 2147483648) (hb : b < 2147483648) : nI a < nI b ↔ a < b := by
  rw [Int32.lt_iff_toInt_lt, nI_toInt (by omega), nI_toInt (by omega)]; omega
theorem yi_le {a b : Nat} (ha : a < 2147483648) (hb : b < 2147483648) : nI a ≤ nI b ↔ a ≤ b := by
  rw [Int32.le_iff_toInt_le, nI_toInt (by omega), nI_toInt (by omega)]; omega
def yR (f : Nat → Bool) : Nat → Nat → Nat
  | 0, p => p
  | m + 1, p => if f p then yR f m (p + 1) else p
theorem yR_ge (f : Nat → Bool) : ∀ m p, p ≤ yR f m p ∧ yR f m p ≤ p + m
  | 0, p => by simp [yR]
  | m + 1, p => by
    rw [yR]
    have := yR_ge f m (p + 1)
    split <;> omega
theorem yR_in {f : Nat → Bool} : ∀ {m p q : Nat}, p ≤ q → q < yR f m p → f q = true
  | 0, p, q, h1, h2 => by rw [yR] at h2; omega
  | m + 1, p, q, h1, h2 => by
    rw [yR] at h2
    by_cases c : f p = true
    · rw [if_pos c] at h2
      by_cases e : q = p
      · rw [e]; exact c
      · exact yR_in (by omega) h2
    · rw [if_neg c] at h2; omega
theorem yR_out {f : Nat → Bool} : ∀ {m p : Nat}, yR f m p < p + m → f (yR f m p) = false
  | 0, p, h => by rw [yR] at h; omega
  | m + 1, p, h => by
    rw [yR] at h ⊢
    by_cases c : f p = true
    · rw [if_pos c] at h ⊢
      exact yR_out (by omega)
    · rw [if_neg c]; simpa using c
theorem yR_st {f : Nat → Bool} {n p : Nat} (hp : p < n) (h : f p = true) : yR f (n - p) p = yR f (n - (p + 1)) (p + 1) := by
  rw [show n - p = (n - (p + 1)) + 1 by omega, yR, if_pos h]
theorem yR_no {f : Nat → Bool} {m p : Nat} (h : f p = false) : yR f m p = p := by
  cases m with
  | zero => rfl
  | succ m => rw [yR, h]; rfl
def yB (x : Int32) : Bool := decide (x = 32) || decide (x = 10)
def yL (x : Int32) : Bool := decide (97 ≤ x) && decide (x ≤ 122)
def yD (x : Int32) : Bool := decide (48 ≤ x) && decide (x ≤ 57)
def yS (x : Int32) : Bool := decide (x = 58) || (decide (x = 59) || (decide (x = 44) || (decide (x = 60) || (decide (x = 62) || (decide (x = 61) || (decide (x = 43) || (decide (x = 45) || (decide (x = 42) || (decide (x = 47) || (decide (x = 40) || decide (x = 41)))))))))))
def yWl : List Nat := [3, 5, 4, 2, 4, 5, 2, 3, 3, 5, 4, 6, 6, 4, 4, 4, 6, 3]
def yW (j : Nat) : Int32 := (ix_sbyt.getD 0 []).getD j 0
def yq (b : Nat → Int32) (s e c : Nat) : Bool := decide (e - s = yWl.getD c 0) && (List.range (yWl.getD c 0)).all (fun k => decide (b (s + k) = yW (6 * c + k)))
def yK (b : Nat → Int32) (s e : Nat) : Nat → Nat → Nat
  | 0, _ => 18
  | m + 1, c => if yq b s e c then c else yK b s e m (c + 1)
theorem yK_le (b : Nat → Int32) (s e : Nat) : ∀ m c, c + m ≤ 18 → yK b s e m c ≤ 18
  | 0, _, _ => Nat.le_refl _
  | m + 1, c, h => by
    rw [yK]
    have := yK_le b s e m (c + 1) (by omega)
    split <;> omega
def ywk (b : Nat → Int32) (s e : Nat) : Nat := if e - s ≤ 8 then yK b s e 18 0 else 19
theorem ywk_le (b : Nat → Int32) (s e : Nat) : ywk b s e ≤ 19 := by
  unfold ywk
  have := yK_le b s e 18 0 (by omega)
  split <;> omega
/-- numbers of digits to a base -/
def ynm (g : Nat → Nat) (B : Nat) : Nat → Nat → Nat → Nat
  | 0, _, v => v
  | m + 1, p, v => ynm g B m (p + 1) (v * B + g p)
theorem ynm_sn (g : Nat → Nat) (B : Nat) : ∀ m p v, ynm g B (m + 1) p v = ynm g B m p v * B + g (p + m)
  | 0, p, v => rfl
  | m + 1, p, v => by
    rw [ynm, ynm_sn g B m (p + 1), ynm, show p + 1 + m = p + (m + 1) by omega]
theorem ynm_lt {g : Nat → Nat} {B : Nat} (hg : ∀ q, g q < B) : ∀ m p, ynm g B m p 0 < B ^ m
  | 0, p => by simp [ynm]
  | m + 1, p => by
    rw [ynm_sn, Nat.pow_succ]
    have h1 := ynm_lt hg m p
    have h2 := hg (p + m)
    have : (ynm g B m p 0 + 1) * B ≤ B ^ m * B := Nat.mul_le_mul_right _ h1
    rw [Nat.add_mul] at this
    omega
theorem ynm_inj {g h : Nat → Nat} {B : Nat} (hg : ∀ q, g q < B) (hh : ∀ q, h q < B) : ∀ m k p q, (∀ j, j < m → 0 < g (p + j)) → (∀ j, j < k → 0 < h (q + j)) → ynm g B m p 0 = ynm h B k q 0 → m = k ∧ ∀ j, j < m → g (p + j) = h (q + j)
  | 0, 0, p, q, _, _, _ => ⟨rfl, fun j hj => by omega⟩
  | 0, k + 1, p, q, _, h2, e => by
    rw [ynm_sn, ynm] at e
    have := h2 k (by omega)
    omega
  | m + 1, 0, p, q, h1, _, e => by
    rw [ynm_sn, ynm] at e
    have := h1 m (by omega)
    omega
  | m + 1, k + 1, p, q, h1, h2, e => by
    rw [ynm_sn, ynm_sn] at e
    have a1 := hg (p + m)
    have a2 := hh (q + k)
    have e1 : g (p + m) = h (q + k) := by
      have := congrArg (· % B) e
      simp only [Nat.add_comm (_ * B), Nat.add_mul_mod_self_right, Nat.mod_eq_of_lt a1, Nat.mod_eq_of_lt a2] at this
      exact this
    have e2 : ynm g B m p 0 = ynm h B k q 0 := by
      have : ynm g B m p 0 * B = ynm h B k q 0 * B := by omega
      exact Nat.eq_of_mul_eq_mul_right (by omega) this
    obtain ⟨i1, i2⟩ := ynm_inj hg hh m k p q (fun j hj => h1 j (by omega)) (fun j hj => h2 j (by omega)) e2
    refine ⟨by omega, fun j hj => ?_⟩
    by_cases c : j = m
    · rw [c, e1, i1]
    · exact i2 j (by omega)
def ydg (b : Nat → Int32) : Nat → Nat := fun q => ((b q).toInt - 48).toNat % 10
def ylt (b : Nat → Int32) : Nat → Nat := fun q => ((b q).toInt - 96).toNat % 27
def yby (b : Nat → Int32) : Nat → Nat := fun q => (b q).toInt.toNat % 128
/-- where a token begins, ends, its kind -/
def ypl (b : Nat → Int32) (n p : Nat) : Nat := yR (fun q => yB (b q)) (n - p) p
def yen (b : Nat → Int32) (n s : Nat) : Nat := if n ≤ s then s else if yL (b s) then yR (fun q => yL (b q)) (n - s) s else if yD (b s) then yR (fun q => yD (b q)) (n - s) s else s + 1
def ykd (b : Nat → Int32) (n s : Nat) : Int32 := if n ≤ s then 21 else if yL (b s) then nI (ywk b s (yen b n s)) else if yD (b s) then (if yen b n s - s ≤ 7 then 20 else 22) else if yS (b s) then b s else 22
def yps (b : Nat → Int32) (n : Nat) : Nat → Nat
  | 0 => ypl b n 0
  | c + 1 => ypl b n (yen b n (yps b n c))
/-- kind, number and name of the token c -/
def yk (b : Nat → Int32) (n c : Nat) : Int32 := ykd b n (yps b n c)
def ye (b : Nat → Int32) (n c : Nat) : Nat := yen b n (yps b n c)
def yv (b : Nat → Int32) (n c : Nat) : Int64 := lZ (ynm (ydg b) 10 (ye b n c - yps b n c) (yps b n c) 0 : Nat)
def yn (b : Nat → Int32) (n c : Nat) : Int64 := lZ (ynm (ylt b) 27 (ye b n c - yps b n c) (yps b n c) 0 : Nat)
theorem ypl_ge (b : Nat → Int32) {n p : Nat} (h : p ≤ n) : p ≤ ypl b n p ∧ ypl b n p ≤ n := by
  unfold ypl
  have := yR_ge (fun q => yB (b q)) (n - p) p
  omega
theorem yen_ge (b : Nat → Int32) {n s : Nat} (h : s ≤ n) : s ≤ yen b n s ∧ yen b n s ≤ n := by
  unfold yen
  have h1 := yR_ge (fun q => yL (b q)) (n - s) s
  have h2 := yR_ge (fun q => yD (b q)) (n - s) s
  split
  · omega
  · split
    · omega
    · split <;> omega
theorem yen_gt (b : Nat → Int32) {n s : Nat} (h : s < n) : s < yen b n s := by
  unfold yen
  rw [if_neg (by omega)]
  split
  · next c =>
    rw [yR_st h c]
    have := (yR_ge (fun q => yL (b q)) (n - (s + 1)) (s + 1)).1
    omega
  · split
    · next c =>
      rw [yR_st h c]
      have := (yR_ge (fun q => yD (b q)) (n - (s + 1)) (s + 1)).1
      omega
    · omega
theorem yps_le (b : Nat → Int32) (n : Nat) : ∀ c, yps b n c ≤ n
  | 0 => (ypl_ge b (Nat.zero_le _)).2
  | c + 1 => (ypl_ge b (yen_ge b (yps_le b n c)).2).2
theorem ye_le (b : Nat → Int32) (n c : Nat) : yps b n c ≤ ye b n c ∧ ye b n c ≤ n := yen_ge b (yps_le b n c)
theorem yk_21 {b : Nat → Int32} {n c : Nat} (h : yps b n c = n) : yk b n c = 21 := by
  unfold yk ykd
  rw [if_pos (by omega)]
theorem yps_gt (b : Nat → Int32) (n : Nat) : ∀ c, (∀ k, k < c → yk b n k ≠ 21) → c ≤ yps b n c
  | 0, _ => Nat.zero_le _
  | c + 1, h => by
    have h1 := yps_gt b n c (fun k hk => h k (by omega))
    have h2 := yps_le b n c
    have h3 : yps b n c < n := by
      by_cases e : yps b n c = n
      · exact absurd (yk_21 e) (h c (by omega))
      · omega
    have h4 := yen_gt b h3
    have h5 := (ypl_ge b (yen_ge b h2).2).1
    show c + 1 ≤ ypl b n (yen b n (yps b n c))
    omega
/-- the last token that the reading can come to -/
theorem yL_ex (b : Nat → Int32) (n : Nat) : ∃ L, L ≤ n ∧ (yk b n L = 21 ∨ yk b n L = 22) ∧ ∀ c, c < L → yk b n c ≠ 21 ∧ yk b n c ≠ 22 := by
  have key : ∀ m, (∃ L, L ≤ m ∧ (yk b n L = 21 ∨ yk b n L = 22) ∧ ∀ c, c < L → yk b n c ≠ 21 ∧ yk b n c ≠ 22) ∨ ∀ c, c ≤ m → yk b n c ≠ 21 ∧ yk b n c ≠ 22 := by
    intro m
    induction m with
    | zero =>
      by_cases h : yk b n 0 = 21 ∨ yk b n 0 = 22
      · exact Or.inl ⟨0, Nat.le_refl _, h, fun c hc => by omega⟩
      · refine Or.inr (fun c hc => ?_)
        have : c = 0 := by omega
        subst this
        exact not_or.mp h
    | succ m ih =>
      rcases ih with ⟨L, h1, h2⟩ | h
      · exact Or.inl ⟨L, by omega, h2⟩
      · by_cases g : yk b n (m + 1) = 21 ∨ yk b n (m + 1) = 22
        · exact Or.inl ⟨m + 1, Nat.le_refl _, g, fun c hc => h c (by omega)⟩
        · refine Or.inr (fun c hc => ?_)
          by_cases e : c = m + 1
          · subst e; exact not_or.mp g
          · exact h c (by omega)
  rcases key n with h | h
  · exact h
  · have h1 := yps_gt b n n (fun k hk => (h k (by omega)).1)
    have h2 := yps_le b n n
    exact absurd (yk_21 (show yps b n n = n by omega)) (h n (Nat.le_refl _)).1
/-- bytes -/
theorem yby_i {x : Int32} (h : x.toInt8.toInt32 = x) : ∃ i : Fin 256, x = (nI i.1).toInt8.toInt32 := by
  refine ⟨⟨x.toInt8.toUInt8.toNat, x.toInt8.toUInt8.toNat_lt⟩, ?_⟩
  have : (nI x.toInt8.toUInt8.toNat).toInt8 = x.toInt8 := by
    show (Int32.ofNat x.toInt8.toUInt8.toNat).toInt8 = x.toInt8
    rw [Int32.toInt8_ofNat']
    apply Int8.toBitVec_inj.mp
    apply BitVec.eq_of_toNat_eq
    rw [Int8.toBitVec_ofNat', BitVec.toNat_ofNat]
    exact Nat.mod_eq_of_lt x.toInt8.toUInt8.toNat_lt
  show x = (nI x.toInt8.toUInt8.toNat).toInt8.toInt32
  rw [this, h]
