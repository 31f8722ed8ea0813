/-! road -/
theorem cr_in {k j : Nat} (h1 : 29 ≤ k) (h2 : k < 36) (h3 : j < 2147483648) : fr_in [(29, 36, 0, 2147483648)] k j = true := fr_in_row (a := 29) (b := 36) (List.mem_cons_self ..) h1 h2 h3
theorem lp_f10 {i : Nat} (hi : i < 7) {I : Nat → Nat → Int32} {J : Nat → Nat → Int64} {T : Option Nat} {P : (Nat → Nat → Int32) → (Nat → Nat → Int64) → Option Nat → Prop} {I0 : Nat → Nat → Int32} {V2 : Int32 → (Nat → Nat → Int32) → (Nat → Nat → Int64) → Option Nat → Prop} (o0 : fr_off [(29, 36, 0, 2147483648)] I I0) (q0 : ∀ a b, a < 7 → b < 7 → a < i → I0 (29 + a) b = fw_0 (bI I 13 7) (bI I 21 7) a b) (nx : ∀ I2, fr_off [(29, 36, 0, 2147483648)] I I2 → (∀ a b, a < 7 → b < 7 → a < i + 1 → I2 (29 + a) b = fw_0 (bI I 13 7) (bI I 21 7) a b) → V2 (nI (i + 1)) I2 J T) : wl_X5_findCarriages_10_2 (nI i) 0 I0 J T V2 P := by
  intro V hV
  have key : ∀ m j : Nat, ∀ I1 : Nat → Nat → Int32, j + m = 7 → fr_off [(29, 36, 0, 2147483648)] I I1 → (∀ a b, a < 7 → b < 7 → (a < i ∨ (a = i ∧ b < j)) → I1 (29 + a) b = fw_0 (bI I 13 7) (bI I 21 7) a b) → V (nI i) (nI j) I1 J T := by
    intro m
    induction m with
    | zero =>
      intro j I1 hj o q
      have hj : j = 7 := by omega
      subst hj
      apply hV
      unfold wb_X5_findCarriages_10_2
      simp only [nI_1]
      exact ⟨fun z => absurd z (by decide), fun _ => nx I1 o (fun a b ha hb9 hai => q a b ha hb9 (by omega))⟩
    | succ m ih =>
      intro j I1 hj o q
      have hj9 : j < 7 := by omega
      have put : ∀ x : Int32, x = fw_0 (bI I 13 7) (bI I 21 7) i j → V (nI i) (nI (j + 1)) (ix_u2 I1 (29 + i) j x) J T := fun x ex => ih (j + 1) _ (by omega) (fr_put (cr_in (by omega) (by omega) (by omega)) o) (fun a b ha hb9 hd9 => by
        by_cases c : a = i ∧ b = j
        · obtain ⟨rfl, rfl⟩ := c
          rw [← ex]
          simp [u2_e]
        · rw [u2_e]
          by_cases ca : 29 + a = 29 + i
          · rw [if_pos ca, if_neg (by omega)]
            exact q a b ha hb9 (by omega)
          · rw [if_neg ca]
            exact q a b ha hb9 (by omega))
      have fi : ix_inb (nI i) 7 = true := nI_in2 hi (by decide)
      have fj : ix_inb (nI j) 7 = true := nI_in2 hj9 (by decide)
      have ij : nI i = nI j ↔ i = j := nI_eq (by omega) (by omega)
      have f0 : fw_0 (bI I 13 7) (bI I 21 7) i j = (if i = j then 0 else if 0 < I (13 + i) j then I (21 + i) j else 1000000) := by
        unfold fw_0
        rw [bI_lt hi, bI_lt hi]
      apply hV
      unfold wb_X5_findCarriages_10_2
      rw [re_12 hi, re_20 hi, re_28 hi, nI_clamp (show j < 2 ^ 31 by omega), nI_1, fr_row o (a := 13) (b := 20) rfl (show 13 ≤ 13 + i by omega) (by omega), fr_row o (a := 21) (b := 28) rfl (show 21 ≤ 21 + i by omega) (by omega), ij]
      refine ⟨fun _ => ⟨fi, fj, fun z => ⟨fi, fun w => ⟨fj, put _ ?_⟩, fun w => ⟨fj, put _ ?_⟩⟩, fun z => ⟨fi, fj, fi, fun w => ⟨fj, put _ ?_⟩, fun w => ⟨fj, put _ ?_⟩⟩⟩, fun z => absurd (nI_lt (a := j) (b := 7) (by omega) (by omega)) z⟩
      · rw [f0, if_pos w]
      · rw [f0, if_neg w, if_neg (fun y => absurd y (Int32.not_lt.mpr z))]
      · rw [f0, if_pos w]
      · rw [f0, if_neg w, if_pos (Int32.not_le.mp z)]
  exact key 7 0 I0 (by omega) o0 (fun a b ha hb9 hd9 => q0 a b ha hb9 (by omega))
theorem lp_f89 {v i : Nat} {m : Nat → Nat → Int32} (hv : v < 7) (hi : i < 7) {I : Nat → Nat → Int32} {J : Nat → Nat → Int64} {T : Option Nat} {P : (Nat → Nat → Int32) → (Nat → Nat → Int64) → Option Nat → Prop} {I0 : Nat → Nat → Int32} {V2 : Int32 → (Nat → Nat → Int32) → (Nat → Nat → Int64) → Option Nat → Prop} {V73 : Int32 → (Nat → Nat → Int32) → (Nat → Nat → Int64) → Option Nat → Prop} {V81 : Int32 → Int32 → (Nat → Nat → Int32) → (Nat → Nat → Int64) → Option Nat → Prop} (o0 : fr_off [(29, 36, 0, 2147483648)] I I0) (q0 : ∀ a b, a < 7 → b < 7 → I0 (29 + a) b = fw_r v (7 * i) m a b) (nx : ∀ I2, fr_off [(29, 36, 0, 2147483648)] I I2 → (∀ a b, a < 7 → b < 7 → I2 (29 + a) b = fw_r v (7 * (i + 1)) m a b) → V81 (nI v) (nI (i + 1)) I2 J T) : wl_X5_findCarriages_89_2_73_81 (nI v) (nI i) 0 I0 J T V2 V73 V81 P := by
  intro V hV
  have key : ∀ m9 j : Nat, ∀ I1 : Nat → Nat → Int32, j + m9 = 7 → fr_off [(29, 36, 0, 2147483648)] I I1 → (∀ a b, a < 7 → b < 7 → I1 (29 + a) b = fw_r v (7 * i + j) m a b) → V (nI v) (nI i) (nI j) I1 J T := by
    intro m9
    induction m9 with
    | zero =>
      intro j I1 hj o q
      have hj : j = 7 := by omega
      subst hj
      apply hV
      unfold wb_X5_findCarriages_89_2_73_81
      simp only [nI_1]
      exact ⟨fun z => absurd z (by decide), fun _ => nx I1 o (fun a b ha hb9 => q a b ha hb9)⟩
    | succ m9 ih =>
      intro j I1 hj o q
      have hj9 : j < 7 := by omega
      have fi : ix_inb (nI i) 7 = true := nI_in2 hi (by decide)
      have fj : ix_inb (nI j) 7 = true := nI_in2 hj9 (by decide)
      have fv : ix_inb (nI v) 7 = true := nI_in2 hv (by decide)
      have d1 : (7 * i + j) / 7 = i := by omega
      have d2 : (7 * i + j) % 7 = j := by omega
      have put : ∀ x : Int32, x = (if fw_r v (7 * i + j) m i j ≤ fw_r v (7 * i + j) m i v + fw_r v (7 * i + j) m v j then fw_r v (7 * i + j) m i j else fw_r v (7 * i + j) m i v + fw_r v (7 * i + j) m v j) → V (nI v) (nI i) (nI (j + 1)) (ix_u2 I1 (29 + i) j x) J T := fun x ex => ih (j + 1) _ (by omega) (fr_put (cr_in (by omega) (by omega) (by omega)) o) (fun a b ha hb9 => by
        rw [show 7 * i + (j + 1) = (7 * i + j) + 1 by omega, fw_r, fw_1, d1, d2, ← ex, u2_e, u2_e]
        by_cases ca : a = i
        · rw [if_pos (show 29 + a = 29 + i by omega), if_pos ca]
          by_cases cb : b = j
          · rw [if_pos cb, if_pos cb]
          · rw [if_neg cb, if_neg cb, q a b ha hb9]
        · rw [if_neg (show ¬ 29 + a = 29 + i by omega), if_neg ca, q a b ha hb9])
      apply hV
      unfold wb_X5_findCarriages_89_2_73_81 wp_J9_min_7cf53
      dsimp only
      rw [re_28 hi, re_28 hv, nI_clamp (show j < 2 ^ 31 by omega), nI_clamp (show v < 2 ^ 31 by omega), nI_1, q i j hi hj9, q i v hi hv, q v j hv hj9]
      exact ⟨fun _ => ⟨fi, fv, fv, fj, fi, fi, fj, fun z => ⟨fj, put _ (by rw [if_pos z])⟩, fun z => ⟨fj, put _ (by rw [if_neg z])⟩⟩, fun z => absurd (nI_lt (a := j) (b := 7) (by omega) (by omega)) z⟩
  exact key 7 0 I0 (by omega) o0 q0
theorem lp_f81 {v : Nat} {m : Nat → Nat → Int32} (hv : v < 7) {I : Nat → Nat → Int32} {J : Nat → Nat → Int64} {T : Option Nat} {P : (Nat → Nat → Int32) → (Nat → Nat → Int64) → Option Nat → Prop} {I0 : Nat → Nat → Int32} {V2 : Int32 → (Nat → Nat → Int32) → (Nat → Nat → Int64) → Option Nat → Prop} {V73 : Int32 → (Nat → Nat → Int32) → (Nat → Nat → Int64) → Option Nat → Prop} (o0 : fr_off [(29, 36, 0, 2147483648)] I I0) (q0 : ∀ a b, a < 7 → b < 7 → I0 (29 + a) b = m a b) (nx : ∀ I2, fr_off [(29, 36, 0, 2147483648)] I I2 → (∀ a b, a < 7 → b < 7 → I2 (29 + a) b = fw_r v 49 m a b) → V73 (nI (v + 1)) I2 J T) : wl_X5_findCarriages_81_2_73 (nI v) 0 I0 J T V2 V73 P := by
  intro V hV
  have key : ∀ m9 i : Nat, ∀ I1 : Nat → Nat → Int32, i + m9 = 7 → fr_off [(29, 36, 0, 2147483648)] I I1 → (∀ a b, a < 7 → b < 7 → I1 (29 + a) b = fw_r v (7 * i) m a b) → V (nI v) (nI i) I1 J T := by
    intro m9
    induction m9 with
    | zero =>
      intro i I1 hi o q
      have hi : i = 7 := by omega
      subst hi
      apply hV
      unfold wb_X5_findCarriages_81_2_73
      rw [nI_1]
      exact ⟨fun z => absurd z (by decide), fun _ => nx I1 o q⟩
    | succ m9 ih =>
      intro i I1 hi o q
      apply hV
      unfold wb_X5_findCarriages_81_2_73
      exact ⟨fun _ => lp_f89 (I := I) hv (by omega) o q (fun I2 o2 q2 => ih (i + 1) I2 (by omega) o2 q2), fun z => absurd (nI_lt (a := i) (b := 7) (by omega) (by omega)) z⟩
  exact key 7 0 I0 (by omega) o0 (fun a b ha hb => by rw [Nat.mul_zero, fw_r]; exact q0 a b ha hb)
theorem fn_find {m : Nat → Nat → Int32} {I : Nat → Nat → Int32} {J : Nat → Nat → Int64} {T : Option Nat} {P : (Nat → Nat → Int32) → (Nat → Nat → Int64) → Option Nat → Prop} (hm : m = fw_0 (bI I 13 7) (bI I 21 7)) (nx : ∀ I2, fr_off [(29, 36, 0, 2147483648)] I I2 → (∀ a b, a < 7 → b < 7 → I2 (29 + a) b = fw_v 7 m a b) → P I2 J T) : wp_X5_findCarriages I J T P := by
  subst hm
  have g : ∀ {V2 : Int32 → (Nat → Nat → Int32) → (Nat → Nat → Int64) → Option Nat → Prop} {I0 : Nat → Nat → Int32}, fr_off [(29, 36, 0, 2147483648)] I I0 → (∀ a b, a < 7 → b < 7 → I0 (29 + a) b = fw_0 (bI I 13 7) (bI I 21 7) a b) → wl_X5_findCarriages_73_2 0 I0 J T V2 P := by
    intro V2 I0 o0 q0 V hV
    have key : ∀ m9 v : Nat, ∀ I1 : Nat → Nat → Int32, v + m9 = 7 → fr_off [(29, 36, 0, 2147483648)] I I1 → (∀ a b, a < 7 → b < 7 → I1 (29 + a) b = fw_v v (fw_0 (bI I 13 7) (bI I 21 7)) a b) → V (nI v) I1 J T := by
      intro m9
      induction m9 with
      | zero =>
        intro v I1 hv o q
        have hv : v = 7 := by omega
        subst hv
        apply hV
        unfold wb_X5_findCarriages_73_2
        exact ⟨fun z => absurd z (by decide), fun _ => nx I1 o q⟩
      | succ m9 ih =>
        intro v I1 hv o q
        apply hV
        unfold wb_X5_findCarriages_73_2
        exact ⟨fun _ => lp_f81 (I := I) (by omega) o q (fun I2 o2 q2 => ih (v + 1) I2 (by omega) o2 (by rw [fw_v]; exact q2)), fun z => absurd (nI_lt (a := v) (b := 7) (by omega) (by omega)) z⟩
    exact key 7 0 I0 (by omega) o0 q0
  unfold wp_X5_findCarriages
  intro V hV
  have key : ∀ m9 i : Nat, ∀ I1 : Nat → Nat → Int32, i + m9 = 7 → fr_off [(29, 36, 0, 2147483648)] I I1 → (∀ a b, a < 7 → b < 7 → a < i → I1 (29 + a) b = fw_0 (bI I 13 7) (bI I 21 7) a b) → V (nI i) I1 J T := by
    intro m9
    induction m9 with
    | zero =>
      intro i I1 hi o q
      have hi : i = 7 := by omega
      subst hi
      apply hV
      unfold wb_X5_findCarriages_2
      exact ⟨fun z => absurd z (by decide), fun _ => g o (fun a b ha hb => q a b ha hb ha)⟩
    | succ m9 ih =>
      intro i I1 hi o q
      apply hV
      unfold wb_X5_findCarriages_2
      exact ⟨fun _ => lp_f10 (I := I) (by omega) o q (fun I2 o2 q2 => ih (i + 1) I2 (by omega) o2 q2), fun z => absurd (nI_lt (a := i) (b := 7) (by omega) (by omega)) z⟩
  exact key 7 0 I (by omega) fr_refl (fun a b _ _ h => by omega)
