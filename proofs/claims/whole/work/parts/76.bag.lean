/-! bag: is it a way -/
def bt_ (m e : Nat) : Bool := decide (m / 2 ^ e % 2 = 1)
def bs_ (m e : Nat) : Nat := if bt_ m e = true then m else m + 2 ^ e
theorem bt_1 : ∀ m : Fin 128, ∀ e : Fin 7, decide ((nI m.val >>> (nI e.val &&& 31)) &&& 1 = 0) = !(bt_ m.val e.val) := by decide +kernel
theorem bt_2 : ∀ m : Fin 128, ∀ e : Fin 7, nI m.val ||| (1 <<< (nI e.val &&& 31)) = nI (bs_ m.val e.val) := by decide +kernel
theorem bt_3 : ∀ m : Fin 128, ∀ e : Fin 7, bs_ m.val e.val < 128 := by decide +kernel
theorem bt_4 : ∀ m : Fin 128, ∀ e f : Fin 7, bt_ (bs_ m.val e.val) f.val = (bt_ m.val f.val || decide (e = f)) := by decide +kernel
theorem bt_0 : ∀ e : Fin 7, bt_ 0 e.val = false := by decide +kernel
/-- the first k of e are a way -/
def wy_ (g : Nat → Nat → Int32) (e : Nat → Nat) (k : Nat) : Prop := ∀ i, i < k → (0 < i → 0 < (g (e (i - 1)) (e i)).toNatClampNeg) ∧ ∀ j, j < i → e j ≠ e i
theorem wy_s {g : Nat → Nat → Int32} {e : Nat → Nat} {k : Nat} (h : wy_ g e k) (h1 : 0 < k → 0 < (g (e (k - 1)) (e k)).toNatClampNeg) (h2 : ∀ j, j < k → e j ≠ e k) : wy_ g e (k + 1) := fun i hi => by
  by_cases c : i = k
  · subst c; exact ⟨h1, h2⟩
  · exact h i (by omega)
theorem fn_way_r2 {m : Nat} {e : Nat → Nat} {g : Nat → Nat → Int32} (hm : m ≤ 60) {I : Nat → Nat → Int32} {J : Nat → Nat → Int64} {T : Option Nat} {P : Int32 → (Nat → Nat → Int32) → (Nat → Nat → Int64) → Option Nat → Prop} (he : ∀ k, k < m → (J 2 k).toInt32 = nI (e k) ∧ e k < 7) (hg : ∀ a b, a < 7 → b < 7 → I (13 + a) b = g a b ∧ ∃ d : Nat, d ≤ 60 ∧ g a b = nI d) (h1 : wy_ g e m → P 1 I J T) (h0 : ¬ wy_ g e m → P 0 I J T) : wp_X5_isWay_r2 (nI m) I J T P := by
  unfold wp_X5_isWay_r2
  intro V hV
  have key : ∀ m9 k M : Nat, k + m9 = m → M < 128 → (∀ x, x < 7 → (bt_ M x = true ↔ ∃ j, j < k ∧ e j = x)) → wy_ g e k → V (nI m) (nI M) (nI k) I J T := by
    intro m9
    induction m9 with
    | zero =>
      intro k M hk hM hb hw
      have hk : k = m := by omega
      subst hk
      apply hV
      unfold wb_X5_isWay_r2_5_c2
      exact ⟨fun z => absurd z (nI_nlt (Nat.le_refl _) (by omega)), fun _ => h1 hw⟩
    | succ m9 ih =>
      intro k M hk hM hb hw
      obtain ⟨ek, e7⟩ := he k (by omega)
      have b1 : (nI M >>> (nI (e k) &&& 31)) &&& 1 = 0 ↔ ¬ bt_ M (e k) = true := by
        have := bt_1 ⟨M, hM⟩ ⟨e k, e7⟩
        dsimp only at this
        cases c : bt_ M (e k) with
        | false => rw [c] at this; exact ⟨fun _ => by simp, fun _ => of_decide_eq_true this⟩
        | true => rw [c] at this; exact ⟨fun z => absurd z (of_decide_eq_false this), fun z => absurd rfl z⟩
      have b2 := bt_2 ⟨M, hM⟩ ⟨e k, e7⟩
      have b3 := bt_3 ⟨M, hM⟩ ⟨e k, e7⟩
      dsimp only at b2 b3
      have nxt : (0 < k → 0 < (g (e (k - 1)) (e k)).toNatClampNeg) → ¬ bt_ M (e k) = true → V (nI m) (nI (bs_ M (e k))) (nI (k + 1)) I J T := fun q1 q2 => ih (k + 1) (bs_ M (e k)) (by omega) b3 (fun x hx => by
        have b4 := bt_4 ⟨M, hM⟩ ⟨e k, e7⟩ ⟨x, hx⟩
        dsimp only at b4
        rw [b4, Bool.or_eq_true, hb x hx]
        constructor
        · intro z
          rcases z with ⟨j, z1, z2⟩ | z
          · exact ⟨j, by omega, z2⟩
          · have := Fin.mk.inj (of_decide_eq_true z)
            exact ⟨k, by omega, this⟩
        · intro ⟨j, z1, z2⟩
          by_cases c : j = k
          · subst c; right; exact decide_eq_true (by simp [z2])
          · left; exact ⟨j, by omega, z2⟩) (wy_s hw q1 (fun j hj z => q2 ((hb (e k) e7).mpr ⟨j, hj, z⟩)))
      have nwy : (¬ (0 < k → 0 < (g (e (k - 1)) (e k)).toNatClampNeg) ∨ bt_ M (e k) = true) → P 0 I J T := fun z => h0 (fun w => by
        have w := w k (by omega)
        rcases z with z | z
        · exact z w.1
        · obtain ⟨j, z1, z2⟩ := (hb (e k) e7).mp z
          exact w.2 j z1 z2)
      have hin : ix_inb (nI k) 60 = true := nI_in2 (by omega) (by decide)
      have k0 : nI k ≤ 0 ↔ k = 0 := by
        rw [show (0 : Int32) = nI 0 from rfl, nI_leI (by omega) (by omega)]
        omega
      apply hV
      unfold wb_X5_isWay_r2_5_c2 wp_X5_hasRoad
      dsimp only
      rw [nI_clamp (show k < 2 ^ 31 by omega), ek, b1, b2, nI_1, k0]
      refine ⟨fun _ => ⟨fun _ => ⟨hin, fun z => ⟨fun w => nxt (by omega) z, fun w => ?_⟩, fun z => nwy (Or.inr (Decidable.of_not_not z))⟩, fun z => absurd (nI_lt (a := k) (b := 60) (by omega) (by omega)) z⟩, fun z => absurd (nI_lt (by omega) (by omega)) z⟩
      obtain ⟨ep, p7⟩ := he (k - 1) (by omega)
      obtain ⟨g1, d, gd, g2⟩ := hg (e (k - 1)) (e k) p7 e7
      have gc : (g (e (k - 1)) (e k)).toNatClampNeg = d := by rw [g2]; exact nI_clamp (by omega)
      have d0 : nI d ≤ 0 ↔ d = 0 := by
        rw [show (0 : Int32) = nI 0 from rfl, nI_leI (by omega) (by omega)]
        omega
      rw [nI_dec (by omega), nI_clamp (show k - 1 < 2 ^ 31 by omega), ep, re_12 p7, nI_clamp (show e k < 2 ^ 31 by omega), g1, g2, d0]
      refine ⟨nI_in2 (by omega) (by decide), nI_in2 p7 (by decide), nI_in2 e7 (by decide), fun y => ⟨fun _ => nwy (Or.inl ?_), fun y => absurd rfl y⟩, fun y => ⟨fun y => absurd y (by decide), fun _ => nxt (by omega) z⟩⟩
      rw [gc]; omega
  exact key m 0 0 (by omega) (by omega) (fun x hx => by
    have := bt_0 ⟨x, hx⟩
    dsimp only at this
    rw [this]
    exact ⟨fun z => absurd z (by decide), fun ⟨j, z, _⟩ => absurd z (by omega)⟩) (fun i hi => by omega)
theorem fn_way_r3 {m : Nat} {e : Nat → Nat} {g : Nat → Nat → Int32} (hm : m ≤ 60) {I : Nat → Nat → Int32} {J : Nat → Nat → Int64} {T : Option Nat} {P : Int32 → (Nat → Nat → Int32) → (Nat → Nat → Int64) → Option Nat → Prop} (he : ∀ k, k < m → (J 3 k).toInt32 = nI (e k) ∧ e k < 7) (hg : ∀ a b, a < 7 → b < 7 → I (13 + a) b = g a b ∧ ∃ d : Nat, d ≤ 60 ∧ g a b = nI d) (h1 : wy_ g e m → P 1 I J T) (h0 : ¬ wy_ g e m → P 0 I J T) : wp_X5_isWay_r3 (nI m) I J T P := by
  unfold wp_X5_isWay_r3
  intro V hV
  have key : ∀ m9 k M : Nat, k + m9 = m → M < 128 → (∀ x, x < 7 → (bt_ M x = true ↔ ∃ j, j < k ∧ e j = x)) → wy_ g e k → V (nI m) (nI M) (nI k) I J T := by
    intro m9
    induction m9 with
    | zero =>
      intro k M hk hM hb hw
      have hk : k = m := by omega
      subst hk
      apply hV
      unfold wb_X5_isWay_r3_5_c3
      exact ⟨fun z => absurd z (nI_nlt (Nat.le_refl _) (by omega)), fun _ => h1 hw⟩
    | succ m9 ih =>
      intro k M hk hM hb hw
      obtain ⟨ek, e7⟩ := he k (by omega)
      have b1 : (nI M >>> (nI (e k) &&& 31)) &&& 1 = 0 ↔ ¬ bt_ M (e k) = true := by
        have := bt_1 ⟨M, hM⟩ ⟨e k, e7⟩
        dsimp only at this
        cases c : bt_ M (e k) with
        | false => rw [c] at this; exact ⟨fun _ => by simp, fun _ => of_decide_eq_true this⟩
        | true => rw [c] at this; exact ⟨fun z => absurd z (of_decide_eq_false this), fun z => absurd rfl z⟩
      have b2 := bt_2 ⟨M, hM⟩ ⟨e k, e7⟩
      have b3 := bt_3 ⟨M, hM⟩ ⟨e k, e7⟩
      dsimp only at b2 b3
      have nxt : (0 < k → 0 < (g (e (k - 1)) (e k)).toNatClampNeg) → ¬ bt_ M (e k) = true → V (nI m) (nI (bs_ M (e k))) (nI (k + 1)) I J T := fun q1 q2 => ih (k + 1) (bs_ M (e k)) (by omega) b3 (fun x hx => by
        have b4 := bt_4 ⟨M, hM⟩ ⟨e k, e7⟩ ⟨x, hx⟩
        dsimp only at b4
        rw [b4, Bool.or_eq_true, hb x hx]
        constructor
        · intro z
          rcases z with ⟨j, z1, z2⟩ | z
          · exact ⟨j, by omega, z2⟩
          · have := Fin.mk.inj (of_decide_eq_true z)
            exact ⟨k, by omega, this⟩
        · intro ⟨j, z1, z2⟩
          by_cases c : j = k
          · subst c; right; exact decide_eq_true (by simp [z2])
          · left; exact ⟨j, by omega, z2⟩) (wy_s hw q1 (fun j hj z => q2 ((hb (e k) e7).mpr ⟨j, hj, z⟩)))
      have nwy : (¬ (0 < k → 0 < (g (e (k - 1)) (e k)).toNatClampNeg) ∨ bt_ M (e k) = true) → P 0 I J T := fun z => h0 (fun w => by
        have w := w k (by omega)
        rcases z with z | z
        · exact z w.1
        · obtain ⟨j, z1, z2⟩ := (hb (e k) e7).mp z
          exact w.2 j z1 z2)
      have hin : ix_inb (nI k) 60 = true := nI_in2 (by omega) (by decide)
      have k0 : nI k ≤ 0 ↔ k = 0 := by
        rw [show (0 : Int32) = nI 0 from rfl, nI_leI (by omega) (by omega)]
        omega
      apply hV
      unfold wb_X5_isWay_r3_5_c3 wp_X5_hasRoad
      dsimp only
      rw [nI_clamp (show k < 2 ^ 31 by omega), ek, b1, b2, nI_1, k0]
      refine ⟨fun _ => ⟨fun _ => ⟨hin, fun z => ⟨fun w => nxt (by omega) z, fun w => ?_⟩, fun z => nwy (Or.inr (Decidable.of_not_not z))⟩, fun z => absurd (nI_lt (a := k) (b := 60) (by omega) (by omega)) z⟩, fun z => absurd (nI_lt (by omega) (by omega)) z⟩
      obtain ⟨ep, p7⟩ := he (k - 1) (by omega)
      obtain ⟨g1, d, gd, g2⟩ := hg (e (k - 1)) (e k) p7 e7
      have gc : (g (e (k - 1)) (e k)).toNatClampNeg = d := by rw [g2]; exact nI_clamp (by omega)
      have d0 : nI d ≤ 0 ↔ d = 0 := by
        rw [show (0 : Int32) = nI 0 from rfl, nI_leI (by omega) (by omega)]
        omega
      rw [nI_dec (by omega), nI_clamp (show k - 1 < 2 ^ 31 by omega), ep, re_12 p7, nI_clamp (show e k < 2 ^ 31 by omega), g1, g2, d0]
      refine ⟨nI_in2 (by omega) (by decide), nI_in2 p7 (by decide), nI_in2 e7 (by decide), fun y => ⟨fun _ => nwy (Or.inl ?_), fun y => absurd rfl y⟩, fun y => ⟨fun y => absurd y (by decide), fun _ => nxt (by omega) z⟩⟩
      rw [gc]; omega
  exact key m 0 0 (by omega) (by omega) (fun x hx => by
    have := bt_0 ⟨x, hx⟩
    dsimp only at this
    rw [this]
    exact ⟨fun z => absurd z (by decide), fun ⟨j, z, _⟩ => absurd z (by omega)⟩) (fun i hi => by omega)
theorem fn_way_r4 {m : Nat} {e : Nat → Nat} {g : Nat → Nat → Int32} (hm : m ≤ 60) {I : Nat → Nat → Int32} {J : Nat → Nat → Int64} {T : Option Nat} {P : Int32 → (Nat → Nat → Int32) → (Nat → Nat → Int64) → Option Nat → Prop} (he : ∀ k, k < m → (J 4 k).toInt32 = nI (e k) ∧ e k < 7) (hg : ∀ a b, a < 7 → b < 7 → I (13 + a) b = g a b ∧ ∃ d : Nat, d ≤ 60 ∧ g a b = nI d) (h1 : wy_ g e m → P 1 I J T) (h0 : ¬ wy_ g e m → P 0 I J T) : wp_X5_isWay_r4 (nI m) I J T P := by
  unfold wp_X5_isWay_r4
  intro V hV
  have key : ∀ m9 k M : Nat, k + m9 = m → M < 128 → (∀ x, x < 7 → (bt_ M x = true ↔ ∃ j, j < k ∧ e j = x)) → wy_ g e k → V (nI m) (nI M) (nI k) I J T := by
    intro m9
    induction m9 with
    | zero =>
      intro k M hk hM hb hw
      have hk : k = m := by omega
      subst hk
      apply hV
      unfold wb_X5_isWay_r4_5_c4
      exact ⟨fun z => absurd z (nI_nlt (Nat.le_refl _) (by omega)), fun _ => h1 hw⟩
    | succ m9 ih =>
      intro k M hk hM hb hw
      obtain ⟨ek, e7⟩ := he k (by omega)
      have b1 : (nI M >>> (nI (e k) &&& 31)) &&& 1 = 0 ↔ ¬ bt_ M (e k) = true := by
        have := bt_1 ⟨M, hM⟩ ⟨e k, e7⟩
        dsimp only at this
        cases c : bt_ M (e k) with
        | false => rw [c] at this; exact ⟨fun _ => by simp, fun _ => of_decide_eq_true this⟩
        | true => rw [c] at this; exact ⟨fun z => absurd z (of_decide_eq_false this), fun z => absurd rfl z⟩
      have b2 := bt_2 ⟨M, hM⟩ ⟨e k, e7⟩
      have b3 := bt_3 ⟨M, hM⟩ ⟨e k, e7⟩
      dsimp only at b2 b3
      have nxt : (0 < k → 0 < (g (e (k - 1)) (e k)).toNatClampNeg) → ¬ bt_ M (e k) = true → V (nI m) (nI (bs_ M (e k))) (nI (k + 1)) I J T := fun q1 q2 => ih (k + 1) (bs_ M (e k)) (by omega) b3 (fun x hx => by
        have b4 := bt_4 ⟨M, hM⟩ ⟨e k, e7⟩ ⟨x, hx⟩
        dsimp only at b4
        rw [b4, Bool.or_eq_true, hb x hx]
        constructor
        · intro z
          rcases z with ⟨j, z1, z2⟩ | z
          · exact ⟨j, by omega, z2⟩
          · have := Fin.mk.inj (of_decide_eq_true z)
            exact ⟨k, by omega, this⟩
        · intro ⟨j, z1, z2⟩
          by_cases c : j = k
          · subst c; right; exact decide_eq_true (by simp [z2])
          · left; exact ⟨j, by omega, z2⟩) (wy_s hw q1 (fun j hj z => q2 ((hb (e k) e7).mpr ⟨j, hj, z⟩)))
      have nwy : (¬ (0 < k → 0 < (g (e (k - 1)) (e k)).toNatClampNeg) ∨ bt_ M (e k) = true) → P 0 I J T := fun z => h0 (fun w => by
        have w := w k (by omega)
        rcases z with z | z
        · exact z w.1
        · obtain ⟨j, z1, z2⟩ := (hb (e k) e7).mp z
          exact w.2 j z1 z2)
      have hin : ix_inb (nI k) 60 = true := nI_in2 (by omega) (by decide)
      have k0 : nI k ≤ 0 ↔ k = 0 := by
        rw [show (0 : Int32) = nI 0 from rfl, nI_leI (by omega) (by omega)]
        omega
      apply hV
      unfold wb_X5_isWay_r4_5_c4 wp_X5_hasRoad
      dsimp only
      rw [nI_clamp (show k < 2 ^ 31 by omega), ek, b1, b2, nI_1, k0]
      refine ⟨fun _ => ⟨fun _ => ⟨hin, fun z => ⟨fun w => nxt (by omega) z, fun w => ?_⟩, fun z => nwy (Or.inr (Decidable.of_not_not z))⟩, fun z => absurd (nI_lt (a := k) (b := 60) (by omega) (by omega)) z⟩, fun z => absurd (nI_lt (by omega) (by omega)) z⟩
      obtain ⟨ep, p7⟩ := he (k - 1) (by omega)
      obtain ⟨g1, d, gd, g2⟩ := hg (e (k - 1)) (e k) p7 e7
      have gc : (g (e (k - 1)) (e k)).toNatClampNeg = d := by rw [g2]; exact nI_clamp (by omega)
      have d0 : nI d ≤ 0 ↔ d = 0 := by
        rw [show (0 : Int32) = nI 0 from rfl, nI_leI (by omega) (by omega)]
        omega
      rw [nI_dec (by omega), nI_clamp (show k - 1 < 2 ^ 31 by omega), ep, re_12 p7, nI_clamp (show e k < 2 ^ 31 by omega), g1, g2, d0]
      refine ⟨nI_in2 (by omega) (by decide), nI_in2 p7 (by decide), nI_in2 e7 (by decide), fun y => ⟨fun _ => nwy (Or.inl ?_), fun y => absurd rfl y⟩, fun y => ⟨fun y => absurd y (by decide), fun _ => nxt (by omega) z⟩⟩
      rw [gc]; omega
  exact key m 0 0 (by omega) (by omega) (fun x hx => by
    have := bt_0 ⟨x, hx⟩
    dsimp only at this
    rw [this]
    exact ⟨fun z => absurd z (by decide), fun ⟨j, z, _⟩ => absurd z (by omega)⟩) (fun i hi => by omega)
theorem fn_way_r5 {m : Nat} {e : Nat → Nat} {g : Nat → Nat → Int32} (hm : m ≤ 60) {I : Nat → Nat → Int32} {J : Nat → Nat → Int64} {T : Option Nat} {P : Int32 → (Nat → Nat → Int32) → (Nat → Nat → Int64) → Option Nat → Prop} (he : ∀ k, k < m → (J 5 k).toInt32 = nI (e k) ∧ e k < 7) (hg : ∀ a b, a < 7 → b < 7 → I (13 + a) b = g a b ∧ ∃ d : Nat, d ≤ 60 ∧ g a b = nI d) (h1 : wy_ g e m → P 1 I J T) (h0 : ¬ wy_ g e m → P 0 I J T) : wp_X5_isWay_r5 (nI m) I J T P := by
  unfold wp_X5_isWay_r5
  intro V hV
  have key : ∀ m9 k M : Nat, k + m9 = m → M < 128 → (∀ x, x < 7 → (bt_ M x = true ↔ ∃ j, j < k ∧ e j = x)) → wy_ g e k → V (nI m) (nI M) (nI k) I J T := by
    intro m9
    induction m9 with
    | zero =>
      intro k M hk hM hb hw
      have hk : k = m := by omega
      subst hk
      apply hV
      unfold wb_X5_isWay_r5_5_c5
      exact ⟨fun z => absurd z (nI_nlt (Nat.le_refl _) (by omega)), fun _ => h1 hw⟩
    | succ m9 ih =>
      intro k M hk hM hb hw
      obtain ⟨ek, e7⟩ := he k (by omega)
      have b1 : (nI M >>> (nI (e k) &&& 31)) &&& 1 = 0 ↔ ¬ bt_ M (e k) = true := by
        have := bt_1 ⟨M, hM⟩ ⟨e k, e7⟩
        dsimp only at this
        cases c : bt_ M (e k) with
        | false => rw [c] at this; exact ⟨fun _ => by simp, fun _ => of_decide_eq_true this⟩
        | true => rw [c] at this; exact ⟨fun z => absurd z (of_decide_eq_false this), fun z => absurd rfl z⟩
      have b2 := bt_2 ⟨M, hM⟩ ⟨e k, e7⟩
      have b3 := bt_3 ⟨M, hM⟩ ⟨e k, e7⟩
      dsimp only at b2 b3
      have nxt : (0 < k → 0 < (g (e (k - 1)) (e k)).toNatClampNeg) → ¬ bt_ M (e k) = true → V (nI m) (nI (bs_ M (e k))) (nI (k + 1)) I J T := fun q1 q2 => ih (k + 1) (bs_ M (e k)) (by omega) b3 (fun x hx => by
        have b4 := bt_4 ⟨M, hM⟩ ⟨e k, e7⟩ ⟨x, hx⟩
        dsimp only at b4
        rw [b4, Bool.or_eq_true, hb x hx]
        constructor
        · intro z
          rcases z with ⟨j, z1, z2⟩ | z
          · exact ⟨j, by omega, z2⟩
          · have := Fin.mk.inj (of_decide_eq_true z)
            exact ⟨k, by omega, this⟩
        · intro ⟨j, z1, z2⟩
          by_cases c : j = k
          · subst c; right; exact decide_eq_true (by simp [z2])
          · left; exact ⟨j, by omega, z2⟩) (wy_s hw q1 (fun j hj z => q2 ((hb (e k) e7).mpr ⟨j, hj, z⟩)))
      have nwy : (¬ (0 < k → 0 < (g (e (k - 1)) (e k)).toNatClampNeg) ∨ bt_ M (e k) = true) → P 0 I J T := fun z => h0 (fun w => by
        have w := w k (by omega)
        rcases z with z | z
        · exact z w.1
        · obtain ⟨j, z1, z2⟩ := (hb (e k) e7).mp z
          exact w.2 j z1 z2)
      have hin : ix_inb (nI k) 60 = true := nI_in2 (by omega) (by decide)
      have k0 : nI k ≤ 0 ↔ k = 0 := by
        rw [show (0 : Int32) = nI 0 from rfl, nI_leI (by omega) (by omega)]
        omega
      apply hV
      unfold wb_X5_isWay_r5_5_c5 wp_X5_hasRoad
      dsimp only
      rw [nI_clamp (show k < 2 ^ 31 by omega), ek, b1, b2, nI_1, k0]
      refine ⟨fun _ => ⟨fun _ => ⟨hin, fun z => ⟨fun w => nxt (by omega) z, fun w => ?_⟩, fun z => nwy (Or.inr (Decidable.of_not_not z))⟩, fun z => absurd (nI_lt (a := k) (b := 60) (by omega) (by omega)) z⟩, fun z => absurd (nI_lt (by omega) (by omega)) z⟩
      obtain ⟨ep, p7⟩ := he (k - 1) (by omega)
      obtain ⟨g1, d, gd, g2⟩ := hg (e (k - 1)) (e k) p7 e7
      have gc : (g (e (k - 1)) (e k)).toNatClampNeg = d := by rw [g2]; exact nI_clamp (by omega)
      have d0 : nI d ≤ 0 ↔ d = 0 := by
        rw [show (0 : Int32) = nI 0 from rfl, nI_leI (by omega) (by omega)]
        omega
      rw [nI_dec (by omega), nI_clamp (show k - 1 < 2 ^ 31 by omega), ep, re_12 p7, nI_clamp (show e k < 2 ^ 31 by omega), g1, g2, d0]
      refine ⟨nI_in2 (by omega) (by decide), nI_in2 p7 (by decide), nI_in2 e7 (by decide), fun y => ⟨fun _ => nwy (Or.inl ?_), fun y => absurd rfl y⟩, fun y => ⟨fun y => absurd y (by decide), fun _ => nxt (by omega) z⟩⟩
      rw [gc]; omega
  exact key m 0 0 (by omega) (by omega) (fun x hx => by
    have := bt_0 ⟨x, hx⟩
    dsimp only at this
    rw [this]
    exact ⟨fun z => absurd z (by decide), fun ⟨j, z, _⟩ => absurd z (by omega)⟩) (fun i hi => by omega)
