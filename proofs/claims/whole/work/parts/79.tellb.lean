/-! telling: the class's next choice -/
theorem lp_nx37 {w k : Nat} {d : Nat → Nat} (hw3 : w ≤ 3) (hk : k < w) {I : Nat → Nat → Int32} {J : Nat → Nat → Int64} {T : Option Nat} {P : Int32 → (Nat → Nat → Int32) → (Nat → Nat → Int64) → Option Nat → Prop} {I0 : Nat → Nat → Int32} {V4 : Int32 → Int32 → (Nat → Nat → Int32) → (Nat → Nat → Int64) → Option Nat → Prop} (hd : ∀ j, j < w → I 123 j = nI (d j) ∧ d j < 52) (o0 : fr_off [(123, 124, 0, 2147483648)] I I0) (q0 : ∀ j, j < k + 1 → I0 123 j = nI (if j < k then d j else d k + 1 + (j - k))) (nx : ∀ I2, fr_off [(123, 124, 0, 2147483648)] I I2 → (∀ j, j < w → I2 123 j = nI (if j < k then d j else d k + 1 + (j - k))) → P 1 I2 J T) : wl_X4_tryNext_37_4 (nI w) (nI (k + 1)) I0 J T V4 P := by
  intro V hV
  have key : ∀ m j : Nat, ∀ I1 : Nat → Nat → Int32, k < j → j + m = w → fr_off [(123, 124, 0, 2147483648)] I I1 → (∀ x, x < j → I1 123 x = nI (if x < k then d x else d k + 1 + (x - k))) → V (nI w) (nI j) I1 J T := by
    intro m
    induction m with
    | zero =>
      intro j I1 hkj hj o q
      have hj : j = w := by omega
      subst hj
      apply hV
      unfold wb_X4_tryNext_37_4
      exact ⟨fun z => absurd z (nI_nlt (Nat.le_refl _) (by omega)), fun _ => nx I1 o q⟩
    | succ m ih =>
      intro j I1 hkj hj o q
      apply hV
      unfold wb_X4_tryNext_37_4
      rw [nI_dec (by omega), nI_clamp (show j - 1 < 2 ^ 31 by omega), nI_clamp (show j < 2 ^ 31 by omega), q (j - 1) (by omega), if_neg (by omega), nI_1, nI_1]
      refine ⟨fun _ => ⟨nI_in2 (by omega) (by decide), nI_in2 (by omega) (by decide), ih (j + 1) _ (by omega) (by omega) (fr_putn rfl (by omega) o) (fun x hx => ?_)⟩, fun z => absurd (nI_lt (by omega) (by omega)) z⟩
      by_cases c : x = j
      · subst c
        rw [if_neg (by omega)]
        simp only [u2_e, if_true]
        exact congrArg nI (by omega)
      · rw [u2_j c]
        exact q x (by omega)
  by_cases c : k + 1 ≤ w
  · exact key (w - (k + 1)) (k + 1) I0 (by omega) (by omega) o0 q0
  · omega
theorem fn_next {w : Nat} {d : Nat → Nat} (hw : 1 ≤ w) (hw3 : w ≤ 3) {I : Nat → Nat → Int32} {J : Nat → Nat → Int64} {T : Option Nat} {P : Int32 → (Nat → Nat → Int32) → (Nat → Nat → Int64) → Option Nat → Prop} (hd : ∀ j, j < w → I 123 j = nI (d j) ∧ d j < 52) (h1 : ∀ k I2, k < w → (∀ j, k < j → j < w → ¬ d j < 52 - w + j) → d k < 52 - w + k → fr_off [(123, 124, 0, 2147483648)] I I2 → (∀ j, j < w → I2 123 j = nI (if j < k then d j else d k + 1 + (j - k))) → P 1 I2 J T) (h0 : (∀ k, k < w → ¬ d k < 52 - w + k) → P 0 I J T) : wp_X4_tryNext (nI w) I J T P := by
  unfold wp_X4_tryNext
  intro V hV
  have key : ∀ k : Nat, k ≤ w → (∀ j, k ≤ j → j < w → ¬ d j < 52 - w + j) → V (nI w) (iZ ((k : Int) - 1)) I J T := by
    intro k
    induction k with
    | zero =>
      intro hk q
      apply hV
      unfold wb_X4_tryNext_4
      exact ⟨fun _ => h0 (fun j hj => q j (by omega) hj), fun z => absurd (by decide) z⟩
    | succ k ih =>
      intro hk q
      have ek : iZ (((k + 1 : Nat) : Int) - 1) = nI k := by rw [nI_iZ]; exact congrArg iZ (by omega)
      have el : (52 : Int32) - nI w + nI k = nI (52 - w + k) := by rw [show (52 : Int32) = nI 52 from rfl, nI_sub (by omega) (by omega), nI_add]
      have em : nI k + -1 = iZ ((k : Int) - 1) := by rw [nI_iZ, iZ_m1, iZ_add]; exact congrArg iZ (by omega)
      have nn : ¬ nI k < 0 := fun z => by
        rw [Int32.lt_iff_toInt_lt, nI_toInt (by omega)] at z
        have z : (k : Int) < 0 := z
        omega
      obtain ⟨e1, e2⟩ := hd k (by omega)
      have fk : ix_inb (nI k) 3 = true := nI_in2 (by omega) (by decide)
      rw [ek]
      apply hV
      unfold wb_X4_tryNext_4
      rw [nI_clamp (show k < 2 ^ 31 by omega), e1, el, nI_ltI (by omega) (by omega), nI_1, nI_1, em]
      refine ⟨fun z => absurd z nn, fun _ => ⟨fk, fun z => ⟨fk, fk, ?_⟩, fun z => ih (by omega) (fun j hj hj2 => ?_)⟩⟩
      · refine lp_nx37 (I := I) hw3 (by omega) hd (fr_putn rfl (by omega) fr_refl) (fun j hj => ?_) (fun I2 o2 q2 => h1 k I2 (by omega) (fun j a b => q j (by omega) b) z o2 q2)
        by_cases c : j = k
        · subst c
          rw [if_neg (by omega)]
          simp only [u2_e, if_true]
          exact congrArg nI (by omega)
        · rw [u2_j c, if_pos (by omega)]
          exact (hd j (by omega)).1
      · by_cases c : j = k
        · subst c; exact z
        · exact q j (by omega) hj2
  have := key w (Nat.le_refl _) (fun j a b => by omega)
  have e : nI w - 1 = iZ ((w : Int) - 1) := by rw [nI_iZ, show (1 : Int32) = iZ 1 from rfl, iZ_sub]
  rw [e]
  exact this
