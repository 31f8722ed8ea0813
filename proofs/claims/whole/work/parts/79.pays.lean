/-! pays -/
def pp_ (L : Nat → Int) (a b : Nat) : Int := if L a < 0 ∧ 0 < L b then min (-L a) (L b) else 0
def pu_ (L : Nat → Int) (a b : Nat) : Nat → Int := fun k => if k = b then L k - pp_ L a b else if k = a then L k + pp_ L a b else L k
def pl_ (L : Nat → Int) : Nat → Nat → Int
  | 0 => L
  | s + 1 => pu_ (pl_ L s) (s / 7) (s % 7)
def ps_ (L : Nat → Int) (s : Nat) : Int := pp_ (pl_ L s) (s / 7) (s % 7)
def bd_ (L : Nat → Int) : Prop := ∀ k, k < 7 → -700000000000000 ≤ L k ∧ L k ≤ 700000000000000
theorem pp_ge {L : Nat → Int} {a b : Nat} : 0 ≤ pp_ L a b := by
  unfold pp_
  by_cases c : L a < 0 ∧ 0 < L b
  · rw [if_pos c]; omega
  · rw [if_neg c]; omega
theorem pu_bd {L : Nat → Int} {a b : Nat} (h : bd_ L) (ha : a < 7) (hb : b < 7) : bd_ (pu_ L a b) := fun k hk => by
  have h1 := h k hk
  have h2 := h a ha
  have h3 := h b hb
  unfold pu_ pp_
  by_cases c : L a < 0 ∧ 0 < L b
  · rw [if_pos c]
    by_cases kb : k = b
    · rw [if_pos kb]; subst kb; omega
    · rw [if_neg kb]
      by_cases ka : k = a
      · rw [if_pos ka]; subst ka; omega
      · rw [if_neg ka]; exact h1
  · rw [if_neg c]
    by_cases kb : k = b
    · rw [if_pos kb]; omega
    · rw [if_neg kb]
      by_cases ka : k = a
      · rw [if_pos ka]; omega
      · rw [if_neg ka]; exact h1
theorem pl_bd {L : Nat → Int} (h : bd_ L) : ∀ s, s ≤ 49 → bd_ (pl_ L s) := by
  intro s
  induction s with
  | zero => intro _; exact h
  | succ s ih => intro hs; exact pu_bd (ih (by omega)) (by omega) (by omega)
theorem pu_0 {L : Nat → Int} {a b : Nat} (h : pp_ L a b = 0) : pu_ L a b = L := funext fun k => by
  unfold pu_
  rw [h]
  by_cases kb : k = b
  · rw [if_pos kb]; omega
  · rw [if_neg kb]
    by_cases ka : k = a
    · rw [if_pos ka]; omega
    · rw [if_neg ka]
theorem pl_skip {L : Nat → Int} {a b : Nat} (h : ¬ pl_ L (7 * a + b) a < 0) : ∀ c, b + c ≤ 7 → pl_ L (7 * a + b + c) = pl_ L (7 * a + b) ∧ ∀ d, d < c → ps_ L (7 * a + b + d) = 0 := by
  intro c
  induction c with
  | zero => intro _; exact ⟨rfl, fun d hd => by omega⟩
  | succ c ih =>
    intro hc
    obtain ⟨i1, i2⟩ := ih (by omega)
    have e1 : (7 * a + b + c) / 7 = a := by omega
    have z : ps_ L (7 * a + b + c) = 0 := by
      unfold ps_ pp_
      rw [e1, i1, if_neg (fun w => h w.1)]
    refine ⟨?_, fun d hd => ?_⟩
    · show pu_ (pl_ L (7 * a + b + c)) ((7 * a + b + c) / 7) ((7 * a + b + c) % 7) = _
      rw [pu_0 z, i1]
    · by_cases e : d = c
      · rw [e]; exact z
      · exact i2 d (by omega)
theorem fn_min {x y : Int} (hx : -700000000000000 ≤ x ∧ x ≤ 700000000000000) (hy : -700000000000000 ≤ y ∧ y ≤ 700000000000000) {I : Nat → Nat → Int32} {J : Nat → Nat → Int64} {T : Option Nat} {P : Int64 → (Nat → Nat → Int32) → (Nat → Nat → Int64) → Option Nat → Prop} (hP : P (lZ (min x y)) I J T) : wp_J9_min_f86c9 (lZ x) (lZ y) I J T P := by
  unfold wp_J9_min_f86c9
  rw [lgc_le, lZ_le (by omega) (by omega)]
  refine ⟨fun z => ?_, fun z => ?_⟩
  · rw [show min x y = x by omega] at hP; exact hP
  · rw [show min x y = y by omega] at hP; exact hP
theorem fn_mm {x y : Int} (hx : -700000000000000 ≤ x ∧ x < 0) (hy : -700000000000000 ≤ y ∧ y ≤ 700000000000000) {I : Nat → Nat → Int32} {J : Nat → Nat → Int64} {T : Option Nat} {P : Int64 → (Nat → Nat → Int32) → (Nat → Nat → Int64) → Option Nat → Prop} (hP : P (lZ (if x < 0 ∧ 0 < y then min (-x) y else 0)) I J T) : wp_J9_max_f86c9 0 (lZ y) I J T (fun v18 I18 J18 T18 => wp_J9_min_f86c9 (-(lZ x)) v18 I18 J18 T18 P) := by
  unfold wp_J9_max_f86c9
  rw [lgc_lt, show (0 : Int64) = lZ 0 from rfl, lZ_lt (by omega) (by omega), lZ_neg]
  refine ⟨fun z => fn_min (by omega) (by omega) ?_, fun z => fn_min (by omega) (by omega) ?_⟩
  · rw [if_pos ⟨hx.2, z⟩] at hP; exact hP
  · rw [if_neg (by omega)] at hP
    rw [show min (-x) 0 = 0 by omega]; exact hP
theorem pm_up {L : Nat → Int} {a b c : Nat} {J : Nat → Nat → Int64} (hb : bd_ L) (ha7 : a < 7) (hb7 : b < 7) (q : ∀ k, k < 7 → J c k = lZ (L k)) : ∀ k, k < 7 → (ix_u2 (ix_u2 J c a (J c a + lZ (pp_ L a b))) c b ((ix_u2 J c a (J c a + lZ (pp_ L a b))) c b - lZ (pp_ L a b))) c k = lZ (pu_ L a b k) := fun k hk => by
  unfold pu_
  by_cases ab : a = b
  · subst ab
    have p0 : pp_ L a a = 0 := by unfold pp_; exact if_neg (by omega)
    rw [p0]
    by_cases kb : k = a
    · rw [if_pos kb, kb]
      simp only [u2_e, if_true]
      rw [q a ha7, lZ_add, lZ_sub]
      exact congrArg lZ (by omega)
    · rw [if_neg kb, if_neg kb, u2_j kb, u2_j kb, q k hk]
  · by_cases kb : k = b
    · rw [if_pos kb, kb]
      rw [u2_e, if_pos rfl, if_pos rfl, u2_j (fun z => ab z.symm), q b hb7, lZ_sub]
    · rw [if_neg kb, u2_j kb]
      by_cases ka : k = a
      · rw [if_pos ka, ka, u2_e, if_pos rfl, if_pos rfl, q a ha7, lZ_add]
      · rw [if_neg ka, u2_j ka, q k hk]
def si_ (g : Nat → Int) : Nat → Int
  | 0 => 0
  | k + 1 => si_ g k + g k
theorem si_sl {f : Nat → Int64} {g : Nat → Int} : ∀ {n : Nat}, (∀ k, k < n → f k = lZ (g k)) → sl_ f n = lZ (si_ g n)
  | 0, _ => rfl
  | n + 1, h => by rw [sl_, si_, si_sl (n := n) (fun k hk => h k (by omega)), h n (by omega), lZ_add]
theorem si_bd {g : Nat → Int} : ∀ {n : Nat}, (∀ k, k < n → -100000000000000 ≤ g k ∧ g k ≤ 100000000000000) → -100000000000000 * (n : Int) ≤ si_ g n ∧ si_ g n ≤ 100000000000000 * (n : Int)
  | 0, _ => by rw [si_]; omega
  | n + 1, h => by
    have h1 := si_bd (g := g) (n := n) (fun k hk => h k (by omega))
    have h2 := h n (by omega)
    rw [si_]
    omega
/-- the balances -/
def L0_ (J : Nat → Nat → Int64) (i : Nat) : Int := si_ (fun k => (J (126 + k) i).toInt - (J (126 + i) k).toInt) 7
theorem L0_ok {J : Nat → Nat → Int64} {i : Nat} : sl_ (fun k => J (126 + k) i - J (126 + i) k) 7 = lZ (L0_ J i) := si_sl (fun k _ => by rw [← lZ_sub, ← lZ_of, ← lZ_of])
theorem L0_bd {I : Nat → Nat → Int32} {J : Nat → Nat → Int64} (h : RR I J) : bd_ (L0_ J) := fun i hi => by
  have := si_bd (g := fun k => (J (126 + k) i).toInt - (J (126 + i) k).toInt) (n := 7) (fun k hk => by
    have a1 := (h.acct.2.2 k i hk hi).2
    have a2 := (h.acct.2.2 i k hi hk).2
    rw [bJ_lt hk] at a1
    rw [bJ_lt hi] at a2
    omega)
  unfold L0_
  omega
