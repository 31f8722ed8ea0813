/-! ways: the best of all ways, in pure numbers -/
section
variable (L fr to : Nat) (rd : Nat → Nat → Nat) (F : Nat → Nat → Int64) (du : Nat → Int64) (th : Nat → Nat → Int64)
/-- a way of n places -/
def wzV (n : Nat) (w : Nat → Nat) : Prop := 2 ≤ n ∧ n ≤ 5 ∧ w 0 = fr ∧ w (n - 1) = to ∧ (∀ k, k < n → w k < L) ∧ (∀ k, k + 1 < n → 0 < rd (w k) (w (k + 1))) ∧ ∀ i k, i < k → k < n → w i ≠ w k
def wzF (n : Nat) (w : Nat → Nat) : Int64 := sl_ (fun k => F (w k) (w (k + 1))) (n - 1)
def wzT (n : Nat) (w : Nat → Nat) : Int64 := sl_ (fun k => th (n - 2) (w (k + 1))) (n - 2)
def wzP (n : Nat) (w : Nat → Nat) : Int64 := wzF F n w + du (n - 2) + wzT th n w
def wzD (n : Nat) (w : Nat → Nat) : Nat := sN_ (fun k => rd (w k) (w (k + 1))) (n - 1)
def wzG (n : Nat) (w : Nat → Nat) (k : Nat) : Nat := if k < n then w k + 1 else 0
def wzC (n : Nat) (w : Nat → Nat) : Nat := 4096 * wzG n w 0 + 512 * wzG n w 1 + 64 * wzG n w 2 + 8 * wzG n w 3 + wzG n w 4
/-- the first is better than the second -/
def wzL (n : Nat) (w : Nat → Nat) (m : Nat) (v : Nat → Nat) : Prop := (wzP F du th n w).toInt < (wzP F du th m v).toInt ∨ ((wzP F du th n w).toInt = (wzP F du th m v).toInt ∧ (wzD rd n w < wzD rd m v ∨ (wzD rd n w = wzD rd m v ∧ wzC n w < wzC m v)))
/-- the best of those in A -/
def wzB (A : Nat → (Nat → Nat) → Prop) : Option (Nat × (Nat → Nat)) → Prop
  | none => ∀ n w, wzV L fr to rd n w → ¬ A n w
  | some r => wzV L fr to rd r.1 r.2 ∧ A r.1 r.2 ∧ ∀ n w, wzV L fr to rd n w → A n w → ¬ wzL rd F du th n w r.1 r.2
end
section
variable {L fr to : Nat} {rd : Nat → Nat → Nat} {F : Nat → Nat → Int64} {du : Nat → Int64} {th : Nat → Nat → Int64}
theorem wzF_congr {n : Nat} {w v : Nat → Nat} (h : ∀ k, k < n → w k = v k) : wzF F n w = wzF F n v := sl_congr (fun k hk => by rw [h k (by omega), h (k + 1) (by omega)])
theorem wzT_congr {n : Nat} {w v : Nat → Nat} (h : ∀ k, k < n → w k = v k) : wzT th n w = wzT th n v := sl_congr (fun k hk => by rw [h (k + 1) (by omega)])
theorem wzP_congr {n : Nat} {w v : Nat → Nat} (h : ∀ k, k < n → w k = v k) : wzP F du th n w = wzP F du th n v := by
  unfold wzP
  rw [wzF_congr h, wzT_congr h]
theorem wzD_congr {n : Nat} {w v : Nat → Nat} (h : ∀ k, k < n → w k = v k) : wzD rd n w = wzD rd n v := sN_congr (fun k hk => by rw [h k (by omega), h (k + 1) (by omega)])
theorem wzG_congr {n : Nat} {w v : Nat → Nat} (h : ∀ k, k < n → w k = v k) (k : Nat) : wzG n w k = wzG n v k := by
  unfold wzG
  by_cases c : k < n
  · rw [if_pos c, if_pos c, h k c]
  · rw [if_neg c, if_neg c]
theorem wzC_congr {n : Nat} {w v : Nat → Nat} (h : ∀ k, k < n → w k = v k) : wzC n w = wzC n v := by
  unfold wzC
  rw [wzG_congr h, wzG_congr h, wzG_congr h, wzG_congr h, wzG_congr h]
theorem wzG_lt {n : Nat} {w : Nat → Nat} (h : ∀ k, k < n → w k < 7) (k : Nat) : wzG n w k ≤ 7 := by
  unfold wzG
  by_cases c : k < n
  · rw [if_pos c]; have := h k c; omega
  · rw [if_neg c]; omega
theorem wzG_pos {n : Nat} {w : Nat → Nat} {k : Nat} (h : k < n) : wzG n w k = w k + 1 := if_pos h
theorem wzG_neg {n : Nat} {w : Nat → Nat} {k : Nat} (h : ¬ k < n) : wzG n w k = 0 := if_neg h
theorem wzV_7 (hL : L ≤ 7) {n : Nat} {w : Nat → Nat} (h : wzV L fr to rd n w) : ∀ k, k < n → w k < 7 := fun k hk => Nat.lt_of_lt_of_le (h.2.2.2.2.1 k hk) hL
/-- equal codes: one way -/
theorem wzC_inj (hL : L ≤ 7) {n m : Nat} {w v : Nat → Nat} (hw : wzV L fr to rd n w) (hv : wzV L fr to rd m v) (e : wzC n w = wzC m v) : n = m ∧ ∀ k, k < n → w k = v k := by
  have a := wzG_lt (wzV_7 hL hw)
  have b := wzG_lt (wzV_7 hL hv)
  have a0 := a 0
  have a1 := a 1
  have a2 := a 2
  have a3 := a 3
  have a4 := a 4
  have b0 := b 0
  have b1 := b 1
  have b2 := b 2
  have b3 := b 3
  have b4 := b 4
  unfold wzC at e
  have g : ∀ k, k < 5 → wzG n w k = wzG m v k := fun k hk => by
    match k, hk with
    | 0, _ => omega
    | 1, _ => omega
    | 2, _ => omega
    | 3, _ => omega
    | 4, _ => omega
  have h1 := hw.2.1
  have h2 := hv.2.1
  have nm : n = m := by
    rcases Nat.lt_trichotomy n m with c | c | c
    · have := g n (by omega)
      rw [wzG_neg (by omega), wzG_pos c] at this
      omega
    · exact c
    · have := g m (by omega)
      rw [wzG_pos c, wzG_neg (by omega)] at this
      omega
  refine ⟨nm, fun k hk => ?_⟩
  have := g k (by omega)
  rw [wzG_pos hk, wzG_pos (by omega)] at this
  omega
theorem wzB_ext {A B : Nat → (Nat → Nat) → Prop} {R : Option (Nat × (Nat → Nat))} (h : wzB L fr to rd F du th A R) (e : ∀ n w, wzV L fr to rd n w → (A n w ↔ B n w)) : wzB L fr to rd F du th B R := by
  match R, h with
  | none, h => exact fun n w hv hb => h n w hv ((e n w hv).mpr hb)
  | some r, h => exact ⟨h.1, (e _ _ h.1).mp h.2.1, fun n w hv hb => h.2.2 n w hv ((e n w hv).mpr hb)⟩
/-- a new one takes the place -/
theorem wzB_new {A B : Nat → (Nat → Nat) → Prop} {R : Option (Nat × (Nat → Nat))} {n : Nat} {w : Nat → Nat} (h : wzB L fr to rd F du th A R) (hv : wzV L fr to rd n w) (hb : B n w) (e : ∀ m v, wzV L fr to rd m v → B m v → A m v ∨ (m = n ∧ ∀ k, k < n → v k = w k)) (q : ∀ r, R = some r → ¬ wzL rd F du th r.1 r.2 n w) : wzB L fr to rd F du th B (some (n, w)) := by
  refine ⟨hv, hb, fun m v hmv hbm => ?_⟩
  rcases e m v hmv hbm with c | ⟨c1, c2⟩
  · match R, h, q with
    | none, h, _ => exact absurd c (h m v hmv)
    | some r, h, q =>
      have h1 := h.2.2 m v hmv c
      have h2 := q r rfl
      unfold wzL at h1 h2 ⊢
      show ¬ ((wzP F du th m v).toInt < (wzP F du th n w).toInt ∨ ((wzP F du th m v).toInt = (wzP F du th n w).toInt ∧ (wzD rd m v < wzD rd n w ∨ (wzD rd m v = wzD rd n w ∧ wzC m v < wzC n w))))
      omega
  · subst c1
    unfold wzL
    show ¬ ((wzP F du th m v).toInt < (wzP F du th m w).toInt ∨ ((wzP F du th m v).toInt = (wzP F du th m w).toInt ∧ (wzD rd m v < wzD rd m w ∨ (wzD rd m v = wzD rd m w ∧ wzC m v < wzC m w))))
    rw [wzP_congr c2, wzD_congr c2, wzC_congr c2]
    omega
/-- the old one stays -/
theorem wzB_old {A B : Nat → (Nat → Nat) → Prop} {r : Nat × (Nat → Nat)} {n : Nat} {w : Nat → Nat} (h : wzB L fr to rd F du th A (some r)) (hb : B r.1 r.2) (e : ∀ m v, wzV L fr to rd m v → B m v → A m v ∨ (m = n ∧ ∀ k, k < n → v k = w k)) (q : ¬ wzL rd F du th n w r.1 r.2) : wzB L fr to rd F du th B (some r) := by
  refine ⟨h.1, hb, fun m v hmv hbm => ?_⟩
  rcases e m v hmv hbm with c | ⟨c1, c2⟩
  · exact h.2.2 m v hmv c
  · subst c1
    unfold wzL at q ⊢
    rw [wzP_congr c2, wzD_congr c2, wzC_congr c2]
    exact q
/-- one only -/
theorem wzB_one (hL : L ≤ 7) {A : Nat → (Nat → Nat) → Prop} {R S : Option (Nat × (Nat → Nat))} (h : wzB L fr to rd F du th A R) (g : wzB L fr to rd F du th A S) : (R = none ∧ S = none) ∨ ∃ n w v, R = some (n, w) ∧ S = some (n, v) ∧ wzV L fr to rd n w ∧ ∀ k, k < n → w k = v k := by
  match R, S, h, g with
  | none, none, _, _ => exact Or.inl ⟨rfl, rfl⟩
  | none, some s, h, g => exact absurd g.2.1 (h _ _ g.1)
  | some r, none, h, g => exact absurd h.2.1 (g _ _ h.1)
  | some (n, w), some (m, v), h, g =>
    have h1 := h.2.2 m v g.1 g.2.1
    have h2 := g.2.2 n w h.1 h.2.1
    have e : wzC n w = wzC m v := by
      unfold wzL at h1 h2
      have h1 : ¬ ((wzP F du th m v).toInt < (wzP F du th n w).toInt ∨ ((wzP F du th m v).toInt = (wzP F du th n w).toInt ∧ (wzD rd m v < wzD rd n w ∨ (wzD rd m v = wzD rd n w ∧ wzC m v < wzC n w)))) := h1
      have h2 : ¬ ((wzP F du th n w).toInt < (wzP F du th m v).toInt ∨ ((wzP F du th n w).toInt = (wzP F du th m v).toInt ∧ (wzD rd n w < wzD rd m v ∨ (wzD rd n w = wzD rd m v ∧ wzC n w < wzC m v)))) := h2
      omega
    obtain ⟨e1, e2⟩ := wzC_inj hL h.1 g.1 e
    subst e1
    exact Or.inr ⟨n, w, v, rfl, rfl, h.1, e2⟩
end
/-- the codes below: those ahead of x behind a path of 1 places -/
def wzb1 (w : Nat → Nat) (x : Nat) : Nat := 4096 * (w 0 + 1) + 512 * (x + 1)
theorem wzd_1 {n x : Nat} {w v : Nat → Nat} (hw : ∀ k, k < 1 → w k < 7) (hx : x < 7) (hv : ∀ k, k < n → v k < 7) (h1 : wzb1 w x ≤ wzC n v) (h2 : wzC n v < wzb1 w (x + 1)) : 1 < n ∧ (∀ k, k < 1 → v k = w k) ∧ v 1 = x := by
  have a := wzG_lt hv
  have a0 := a 0
  have a1 := a 1
  have a2 := a 2
  have a3 := a 3
  have a4 := a 4
  have w0 := hw 0 (by omega)
  unfold wzb1 at h1 h2
  unfold wzC at h1 h2
  have g0 : wzG n v 0 = w 0 + 1 := by omega
  have gx : wzG n v 1 = x + 1 := by omega
  have lt : 1 < n := by
    by_cases c : 1 < n
    · exact c
    · rw [wzG_neg c] at gx; omega
  refine ⟨lt, fun k hk => ?_, ?_⟩
  · match k, hk with
    | 0, _ => rw [wzG_pos (by omega)] at g0; omega
  · rw [wzG_pos lt] at gx; omega
/-- the codes below: those ahead of x behind a path of 2 places -/
def wzb2 (w : Nat → Nat) (x : Nat) : Nat := 4096 * (w 0 + 1) + 512 * (w 1 + 1) + 64 * (x + 1)
theorem wzd_2 {n x : Nat} {w v : Nat → Nat} (hw : ∀ k, k < 2 → w k < 7) (hx : x < 7) (hv : ∀ k, k < n → v k < 7) (h1 : wzb2 w x ≤ wzC n v) (h2 : wzC n v < wzb2 w (x + 1)) : 2 < n ∧ (∀ k, k < 2 → v k = w k) ∧ v 2 = x := by
  have a := wzG_lt hv
  have a0 := a 0
  have a1 := a 1
  have a2 := a 2
  have a3 := a 3
  have a4 := a 4
  have w0 := hw 0 (by omega)
  have w1 := hw 1 (by omega)
  unfold wzb2 at h1 h2
  unfold wzC at h1 h2
  have g0 : wzG n v 0 = w 0 + 1 := by omega
  have g1 : wzG n v 1 = w 1 + 1 := by omega
  have gx : wzG n v 2 = x + 1 := by omega
  have lt : 2 < n := by
    by_cases c : 2 < n
    · exact c
    · rw [wzG_neg c] at gx; omega
  refine ⟨lt, fun k hk => ?_, ?_⟩
  · match k, hk with
    | 0, _ => rw [wzG_pos (by omega)] at g0; omega
    | 1, _ => rw [wzG_pos (by omega)] at g1; omega
  · rw [wzG_pos lt] at gx; omega
/-- the codes below: those ahead of x behind a path of 3 places -/
def wzb3 (w : Nat → Nat) (x : Nat) : Nat := 4096 * (w 0 + 1) + 512 * (w 1 + 1) + 64 * (w 2 + 1) + 8 * (x + 1)
theorem wzd_3 {n x : Nat} {w v : Nat → Nat} (hw : ∀ k, k < 3 → w k < 7) (hx : x < 7) (hv : ∀ k, k < n → v k < 7) (h1 : wzb3 w x ≤ wzC n v) (h2 : wzC n v < wzb3 w (x + 1)) : 3 < n ∧ (∀ k, k < 3 → v k = w k) ∧ v 3 = x := by
  have a := wzG_lt hv
  have a0 := a 0
  have a1 := a 1
  have a2 := a 2
  have a3 := a 3
  have a4 := a 4
  have w0 := hw 0 (by omega)
  have w1 := hw 1 (by omega)
  have w2 := hw 2 (by omega)
  unfold wzb3 at h1 h2
  unfold wzC at h1 h2
  have g0 : wzG n v 0 = w 0 + 1 := by omega
  have g1 : wzG n v 1 = w 1 + 1 := by omega
  have g2 : wzG n v 2 = w 2 + 1 := by omega
  have gx : wzG n v 3 = x + 1 := by omega
  have lt : 3 < n := by
    by_cases c : 3 < n
    · exact c
    · rw [wzG_neg c] at gx; omega
  refine ⟨lt, fun k hk => ?_, ?_⟩
  · match k, hk with
    | 0, _ => rw [wzG_pos (by omega)] at g0; omega
    | 1, _ => rw [wzG_pos (by omega)] at g1; omega
    | 2, _ => rw [wzG_pos (by omega)] at g2; omega
  · rw [wzG_pos lt] at gx; omega
/-- the codes below: those ahead of x behind a path of 4 places -/
def wzb4 (w : Nat → Nat) (x : Nat) : Nat := 4096 * (w 0 + 1) + 512 * (w 1 + 1) + 64 * (w 2 + 1) + 8 * (w 3 + 1) + 1 * (x + 1)
theorem wzd_4 {n x : Nat} {w v : Nat → Nat} (hw : ∀ k, k < 4 → w k < 7) (hx : x < 7) (hv : ∀ k, k < n → v k < 7) (h1 : wzb4 w x ≤ wzC n v) (h2 : wzC n v < wzb4 w (x + 1)) : 4 < n ∧ (∀ k, k < 4 → v k = w k) ∧ v 4 = x := by
  have a := wzG_lt hv
  have a0 := a 0
  have a1 := a 1
  have a2 := a 2
  have a3 := a 3
  have a4 := a 4
  have w0 := hw 0 (by omega)
  have w1 := hw 1 (by omega)
  have w2 := hw 2 (by omega)
  have w3 := hw 3 (by omega)
  unfold wzb4 at h1 h2
  unfold wzC at h1 h2
  have g0 : wzG n v 0 = w 0 + 1 := by omega
  have g1 : wzG n v 1 = w 1 + 1 := by omega
  have g2 : wzG n v 2 = w 2 + 1 := by omega
  have g3 : wzG n v 3 = w 3 + 1 := by omega
  have gx : wzG n v 4 = x + 1 := by omega
  have lt : 4 < n := by
    by_cases c : 4 < n
    · exact c
    · rw [wzG_neg c] at gx; omega
  refine ⟨lt, fun k hk => ?_, ?_⟩
  · match k, hk with
    | 0, _ => rw [wzG_pos (by omega)] at g0; omega
    | 1, _ => rw [wzG_pos (by omega)] at g1; omega
    | 2, _ => rw [wzG_pos (by omega)] at g2; omega
    | 3, _ => rw [wzG_pos (by omega)] at g3; omega
  · rw [wzG_pos lt] at gx; omega
