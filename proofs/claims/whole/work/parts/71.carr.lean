/-! the least freights: ints and numbers -/
theorem fw_r_ok {v : Nat} (hv : v < 7) {mn : Nat → Nat → Nat} {m : Nat → Nat → Int32} (hm : ∀ a b, a < 7 → b < 7 → m a b = nI (mn a b)) (hd : mn v v = 0) (hb : ∀ a b, a < 7 → b < 7 → mn a b ≤ 1000000) : ∀ k, k ≤ 49 → ∀ a b, a < 7 → b < 7 → fw_r v k m a b = nI (if 7 * a + b < k then fwS v mn a b else mn a b) := by
  have e1 : ∀ a, fwS v mn a v = mn a v := fun a => by unfold fwS; rw [hd]; omega
  have e2 : ∀ b, fwS v mn v b = mn v b := fun b => by unfold fwS; rw [hd]; omega
  intro k
  induction k with
  | zero =>
    intro _ a b ha hb9
    rw [if_neg (by omega), fw_r]
    exact hm a b ha hb9
  | succ k ih =>
    intro hk a b ha hb9
    have ih := ih (by omega)
    have q1 : k / 7 < 7 := by omega
    have q2 : k % 7 < 7 := by omega
    have r0 := ih (k / 7) (k % 7) q1 q2
    rw [if_neg (by omega)] at r0
    have r1 : fw_r v k m (k / 7) v = nI (mn (k / 7) v) := by
      rw [ih (k / 7) v q1 hv]
      by_cases c : 7 * (k / 7) + v < k
      · rw [if_pos c, e1]
      · rw [if_neg c]
    have r2 : fw_r v k m v (k % 7) = nI (mn v (k % 7)) := by
      rw [ih v (k % 7) hv q2]
      by_cases c : 7 * v + k % 7 < k
      · rw [if_pos c, e2]
      · rw [if_neg c]
    have b0 := hb (k / 7) (k % 7) q1 q2
    have b1 := hb (k / 7) v q1 hv
    have b2 := hb v (k % 7) hv q2
    rw [fw_r, fw_1, r0, r1, r2, nI_add, u2_e]
    by_cases c : a = k / 7 ∧ b = k % 7
    · rw [if_pos c.1, if_pos c.2, if_pos (show 7 * a + b < k + 1 by omega), c.1, c.2]
      unfold fwS
      by_cases z : mn (k / 7) (k % 7) ≤ mn (k / 7) v + mn v (k % 7)
      · rw [if_pos ((nI_leI (by omega) (by omega)).mpr z), Nat.min_eq_left z]
      · rw [if_neg (fun w => z ((nI_leI (by omega) (by omega)).mp w)), Nat.min_eq_right (by omega)]
    · have e9 : (if a = k / 7 then if b = k % 7 then (if nI (mn (k / 7) (k % 7)) ≤ nI (mn (k / 7) v + mn v (k % 7)) then nI (mn (k / 7) (k % 7)) else nI (mn (k / 7) v + mn v (k % 7))) else fw_r v k m a b else fw_r v k m a b) = fw_r v k m a b := by
        by_cases ca : a = k / 7
        · rw [if_pos ca, if_neg (fun z => c ⟨ca, z⟩)]
        · rw [if_neg ca]
      rw [e9, ih a b ha hb9]
      have : (7 * a + b < k + 1) ↔ (7 * a + b < k) := by
        constructor
        · intro z
          rcases Nat.lt_or_ge (7 * a + b) k with w | w
          · exact w
          · exact absurd (show a = k / 7 ∧ b = k % 7 by omega) c
        · intro z; omega
      simp only [this]
theorem fwB_6 {v : Nat} (hv : v < 7) : fwB v ≤ 480000 := by
  have : v = 0 ∨ v = 1 ∨ v = 2 ∨ v = 3 ∨ v = 4 ∨ v = 5 ∨ v = 6 := by omega
  rcases this with r | r | r | r | r | r | r <;> subst r <;> decide
theorem fw_v_ok {mn : Nat → Nat → Nat} {m : Nat → Nat → Int32} (hm : ∀ a b, a < 7 → b < 7 → m a b = nI (mn a b)) (hd : ∀ a, a < 7 → mn a a = 0) (h : ∀ a b, a < 7 → b < 7 → mn a b ≤ 10000 ∨ mn a b = 1000000) : ∀ v, v ≤ 7 → ∀ a b, a < 7 → b < 7 → fw_v v m a b = nI (fwN v mn a b) := by
  intro v
  induction v with
  | zero => intro _ a b ha hb; rw [fw_v, fwN]; exact hm a b ha hb
  | succ v ih =>
    intro hv a b ha hb
    have := fw_r_ok (v := v) (by omega) (ih (by omega)) (fwN_diag hd v v (by omega)) (fun a b ha hb => by
      rcases fwN_le h (v := v) (by omega) ha hb with z | z <;> omega) 49 (by omega) a b ha hb
    rw [if_pos (by omega)] at this
    rw [fw_v, fwN]
    exact this
/-- the roads as numbers -/
def mN_ (I : Nat → Nat → Int32) (a b : Nat) : Nat := if a = b then 0 else if 0 < (I (13 + a) b).toNatClampNeg then (I (21 + a) b).toNatClampNeg else 1000000
theorem rd_ok {I : Nat → Nat → Int32} {J : Nat → Nat → Int64} {n a b : Nat} (h : RR I J) (n1 : I 8 0 = nI n) (hn : n ≤ 7) (ha : a < 7) (hb : b < 7) : ∃ d f : Nat, d ≤ 60 ∧ f ≤ 10000 ∧ I (13 + a) b = nI d ∧ I (21 + a) b = nI f ∧ I 211 (7 * a + b) = nI d ∧ (0 < d → I 212 (7 * a + b) = nI f ∧ a ≠ b ∧ a < n ∧ b < n) ∧ mN_ I a b = (if a = b then 0 else if 0 < d then f else 1000000) := by
  obtain ⟨d, f, hd, hf, e1, -, e3, e4, -, e6⟩ := h.road a b ha hb
  rw [bI_lt ha] at e1 e4
  rw [n1, nI_toInt (by omega)] at e6
  refine ⟨d, f, hd, hf, e1, e4, e3, fun z => ⟨(e6 z).1, (e6 z).2.1, by have := (e6 z).2.2.1; omega, by have := (e6 z).2.2.2; omega⟩, ?_⟩
  unfold mN_
  rw [e1, e4, nI_clamp (show d < 2 ^ 31 by omega), nI_clamp (show f < 2 ^ 31 by omega)]
theorem mN_bd {I : Nat → Nat → Int32} {J : Nat → Nat → Int64} {n : Nat} (h : RR I J) (n1 : I 8 0 = nI n) (hn : n ≤ 7) : ∀ a b, a < 7 → b < 7 → mN_ I a b ≤ 10000 ∨ mN_ I a b = 1000000 := by
  intro a b ha hb
  obtain ⟨d, f, hd, hf, -, -, -, -, e⟩ := rd_ok h n1 hn ha hb
  rw [e]
  by_cases c : a = b
  · rw [if_pos c]; omega
  · rw [if_neg c]
    by_cases c2 : 0 < d
    · rw [if_pos c2]; omega
    · rw [if_neg c2]; omega
theorem mN_diag {I : Nat → Nat → Int32} : ∀ a, a < 7 → mN_ I a a = 0 := fun a _ => if_pos rfl
theorem mN_far {I : Nat → Nat → Int32} {J : Nat → Nat → Int64} {n : Nat} (h : RR I J) (n1 : I 8 0 = nI n) (hn : n ≤ 7) : ∀ a b, a < 7 → b < 7 → a < n → n ≤ b → mN_ I a b = 1000000 ∧ mN_ I b a = 1000000 := by
  intro a b ha hb q1 q2
  obtain ⟨d, f, hd, hf, -, -, -, z, e⟩ := rd_ok h n1 hn ha hb
  obtain ⟨d', f', hd', hf', -, -, -, z', e'⟩ := rd_ok h n1 hn hb ha
  have c1 : ¬ 0 < d := fun w => by have := (z w).2.2; omega
  have c2 : ¬ 0 < d' := fun w => by have := (z' w).2.2; omega
  rw [e, e', if_neg (show ¬ a = b by omega), if_neg c1, if_neg (show ¬ b = a by omega), if_neg c2]
  exact ⟨rfl, rfl⟩
/-- what the class holds -/
theorem ca_ok {I : Nat → Nat → Int32} {J : Nat → Nat → Int64} {n a b : Nat} (h : RR I J) (n1 : I 8 0 = nI n) (hn : n ≤ 7) (ha : a < 7) (hb : b < 7) : I (29 + a) b = nI (fwN 7 (mN_ I) a b) := by
  have := h.carr a b ha hb
  rw [bI_lt ha] at this
  rw [this]
  refine fw_v_ok (fun a b ha hb => ?_) mN_diag (mN_bd h n1 hn) 7 (by omega) a b ha hb
  obtain ⟨d, f, hd, hf, e1, e2, -, -, e⟩ := rd_ok h n1 hn ha hb
  rw [e]
  unfold fw_0
  rw [bI_lt ha, bI_lt ha, e1, e2]
  by_cases c : a = b
  · rw [if_pos c, if_pos c]; rfl
  · rw [if_neg c, if_neg c]
    have e0 : ((0 : Int32) < nI d) ↔ 0 < d := nI_ltI (a := 0) (by omega) (by omega)
    by_cases c2 : 0 < d
    · rw [if_pos c2, if_pos (e0.mpr c2)]
    · rw [if_neg c2, if_neg (fun w => c2 (e0.mp w))]; rfl
def en_ (x : Nat) : Int32 := if x = 1000000 then -1 else nI x
theorem en_m1 {x : Nat} (h : x ≤ 1000000) : en_ x = -1 ↔ x = 1000000 := by
  unfold en_
  by_cases c : x = 1000000
  · rw [if_pos c]; exact ⟨fun _ => c, fun _ => rfl⟩
  · rw [if_neg c]; exact ⟨fun z => absurd z (nI_nm1 (by omega)), fun z => absurd z c⟩
theorem en_fin {x : Nat} (h : ¬ x = 1000000) : en_ x = nI x := if_neg h
theorem lp_c96 {n v i : Nat} {mn : Nat → Nat → Nat} (hn : n ≤ 7) (hv : v < n) (hi : i < n) (hd : mn v v = 0) (hb : ∀ a b, a < n → b < n → mn a b ≤ 480000 ∨ mn a b = 1000000) {I : Nat → Nat → Int32} {J : Nat → Nat → Int64} {T : Option Nat} {P : (Nat → Nat → Int32) → (Nat → Nat → Int64) → Option Nat → Prop} {I0 : Nat → Nat → Int32} {V2 : Int32 → (Nat → Nat → Int32) → (Nat → Nat → Int64) → Option Nat → Prop} {V76 : Int32 → (Nat → Nat → Int32) → (Nat → Nat → Int64) → Option Nat → Prop} {V86 : Int32 → Int32 → (Nat → Nat → Int32) → (Nat → Nat → Int64) → Option Nat → Prop} (en : I 204 6 = nI n) (o0 : fr_off [(245, 246, 0, 2147483648)] I I0) (q0 : ∀ a b, a < n → b < n → I0 245 (7 * a + b) = en_ (if a < i then fwS v mn a b else mn a b)) (nx : ∀ I2, fr_off [(245, 246, 0, 2147483648)] I I2 → (∀ a b, a < n → b < n → I2 245 (7 * a + b) = en_ (if a < i + 1 then fwS v mn a b else mn a b)) → V86 (nI v) (nI (i + 1)) I2 J T) : wl_X12_carry_96_2_76_86 (nI v) (nI i) 0 I0 J T V2 V76 V86 P := by
  have e1 : ∀ a, fwS v mn a v = mn a v := fun a => by unfold fwS; rw [hd]; omega
  have e2 : ∀ b, fwS v mn v b = mn v b := fun b => by unfold fwS; rw [hd]; omega
  intro V hV
  have key : ∀ m j : Nat, ∀ I1 : Nat → Nat → Int32, j + m = n → fr_off [(245, 246, 0, 2147483648)] I I1 → (∀ a b, a < n → b < n → I1 245 (7 * a + b) = en_ (if a < i ∨ (a = i ∧ b < j) then fwS v mn a b else mn a b)) → V (nI v) (nI i) (nI j) I1 J T := by
    intro m
    induction m with
    | zero =>
      intro j I1 hj o q
      have hj : j = n := by omega
      subst hj
      apply hV
      unfold wb_X12_carry_96_2_76_86
      rw [fr_at 204 6 o rfl, en, nI_1, nI_1]
      refine ⟨fun z => absurd z (nI_nlt (Nat.le_refl _) (by omega)), fun _ => nx I1 o (fun a b ha hb9 => ?_)⟩
      rw [q a b ha hb9]
      have : (a < i ∨ (a = i ∧ b < j)) ↔ a < i + 1 := by omega
      simp only [this]
    | succ m ih =>
      intro j I1 hj o q
      have hj9 : j < n := by omega
      have rA : I1 245 (7 * i + v) = en_ (mn i v) := by
        rw [q i v hi hv]
        by_cases c : i < i ∨ (i = i ∧ v < j)
        · rw [if_pos c, e1]
        · rw [if_neg c]
      have rB : I1 245 (7 * v + j) = en_ (mn v j) := by
        rw [q v j hv hj9]
        by_cases c : v < i ∨ (v = i ∧ j < j)
        · rw [if_pos c, e2]
        · rw [if_neg c]
      have rC : I1 245 (7 * i + j) = en_ (mn i j) := by
        rw [q i j hi hj9, if_neg (by omega)]
      have bA := hb i v hi hv
      have bB := hb v j hv hj9
      have bC := hb i j hi hj9
      have keep : fwS v mn i j = mn i j → V (nI v) (nI i) (nI (j + 1)) I1 J T := fun ek => ih (j + 1) I1 (by omega) o (fun a b ha hb9 => by
        rw [q a b ha hb9]
        by_cases c : a = i ∧ b = j
        · obtain ⟨rfl, rfl⟩ := c
          rw [if_neg (by omega), if_pos (by omega), ek]
        · have : (a < i ∨ (a = i ∧ b < j + 1)) ↔ (a < i ∨ (a = i ∧ b < j)) := by omega
          simp only [this])
      have put : ∀ x : Nat, x = fwS v mn i j → ¬ x = 1000000 → V (nI v) (nI i) (nI (j + 1)) (ix_u2 I1 245 (7 * i + j) (nI x)) J T := fun x ex nx9 => ih (j + 1) _ (by omega) (fr_putn rfl (by omega) o) (fun a b ha hb9 => by
        by_cases c : a = i ∧ b = j
        · obtain ⟨rfl, rfl⟩ := c
          rw [if_pos (by omega), ← ex, en_fin nx9]
          simp [u2_e]
        · rw [u2_j (by omega), q a b ha hb9]
          have : (a < i ∨ (a = i ∧ b < j + 1)) ↔ (a < i ∨ (a = i ∧ b < j)) := by omega
          simp only [this])
      apply hV
      unfold wb_X12_carry_96_2_76_86 wp_X12_pair
      dsimp only
      rw [fr_at 204 6 o rfl, en, nI_1, pr_7, pr_7, pr_7, nI_clamp (show 7 * i + v < 2 ^ 31 by omega), nI_clamp (show 7 * v + j < 2 ^ 31 by omega), nI_clamp (show 7 * i + j < 2 ^ 31 by omega), rA, rB, rC, en_m1 (by omega), en_m1 (by omega), en_m1 (by omega)]
      have iA : ix_inb (nI (7 * i + v)) 49 = true := nI_in2 (by omega) (by decide)
      have iB : ix_inb (nI (7 * v + j)) 49 = true := nI_in2 (by omega) (by decide)
      have iC : ix_inb (nI (7 * i + j)) 49 = true := nI_in2 (by omega) (by decide)
      have fS : fwS v mn i j = min (mn i j) (mn i v + mn v j) := rfl
      refine ⟨fun _ => ⟨iA, iB, fun z => keep (by omega), fun z => ⟨fun z2 => keep (by omega), fun z2 => ⟨iC, fun z3 => ⟨iC, ?_⟩, fun z3 => ?_⟩⟩⟩, fun z => absurd (nI_lt (by omega) (by omega)) z⟩
      · rw [en_fin z, en_fin z2, nI_add]
        exact put _ (by omega) (by omega)
      · rw [en_fin z, en_fin z2, en_fin z3, nI_add, nI_ltI (by omega) (by omega)]
        exact ⟨fun w => ⟨iC, put _ (by omega) (by omega)⟩, fun w => keep (by omega)⟩
  exact key n 0 I0 (by omega) o0 (fun a b ha hb9 => by
    rw [q0 a b ha hb9]
    have : (a < i ∨ (a = i ∧ b < 0)) ↔ a < i := by omega
    simp only [this])
theorem lp_c86 {n v : Nat} {mn : Nat → Nat → Nat} (hn : n ≤ 7) (hv : v < n) (hd : mn v v = 0) (hb : ∀ a b, a < n → b < n → mn a b ≤ 480000 ∨ mn a b = 1000000) {I : Nat → Nat → Int32} {J : Nat → Nat → Int64} {T : Option Nat} {P : (Nat → Nat → Int32) → (Nat → Nat → Int64) → Option Nat → Prop} {I0 : Nat → Nat → Int32} {V2 : Int32 → (Nat → Nat → Int32) → (Nat → Nat → Int64) → Option Nat → Prop} {V76 : Int32 → (Nat → Nat → Int32) → (Nat → Nat → Int64) → Option Nat → Prop} (en : I 204 6 = nI n) (o0 : fr_off [(245, 246, 0, 2147483648)] I I0) (q0 : ∀ a b, a < n → b < n → I0 245 (7 * a + b) = en_ (mn a b)) (nx : ∀ I2, fr_off [(245, 246, 0, 2147483648)] I I2 → (∀ a b, a < n → b < n → I2 245 (7 * a + b) = en_ (fwS v mn a b)) → V76 (nI (v + 1)) I2 J T) : wl_X12_carry_86_2_76 (nI v) 0 I0 J T V2 V76 P := by
  intro V hV
  have key : ∀ m i : Nat, ∀ I1 : Nat → Nat → Int32, i + m = n → fr_off [(245, 246, 0, 2147483648)] I I1 → (∀ a b, a < n → b < n → I1 245 (7 * a + b) = en_ (if a < i then fwS v mn a b else mn a b)) → V (nI v) (nI i) I1 J T := by
    intro m
    induction m with
    | zero =>
      intro i I1 hi o q
      have hi : i = n := by omega
      subst hi
      apply hV
      unfold wb_X12_carry_86_2_76
      rw [fr_at 204 6 o rfl, en, nI_1]
      exact ⟨fun z => absurd z (nI_nlt (Nat.le_refl _) (by omega)), fun _ => nx I1 o (fun a b ha hb9 => by rw [q a b ha hb9, if_pos ha])⟩
    | succ m ih =>
      intro i I1 hi o q
      apply hV
      unfold wb_X12_carry_86_2_76
      rw [fr_at 204 6 o rfl, en, nI_1]
      exact ⟨fun _ => lp_c96 (I := I) hn hv (by omega) hd hb en o q (fun I2 o2 q2 => ih (i + 1) I2 (by omega) o2 q2), fun z => absurd (nI_lt (by omega) (by omega)) z⟩
  exact key n 0 I0 (by omega) o0 (fun a b ha hb9 => by rw [q0 a b ha hb9, if_neg (by omega)])
theorem lp_c76 {n : Nat} {m0 : Nat → Nat → Nat} (hn : n ≤ 7) (hd : ∀ a, a < 7 → m0 a a = 0) (hb : ∀ a b, a < 7 → b < 7 → m0 a b ≤ 10000 ∨ m0 a b = 1000000) {I : Nat → Nat → Int32} {J : Nat → Nat → Int64} {T : Option Nat} {P : (Nat → Nat → Int32) → (Nat → Nat → Int64) → Option Nat → Prop} {I0 : Nat → Nat → Int32} {V2 : Int32 → (Nat → Nat → Int32) → (Nat → Nat → Int64) → Option Nat → Prop} (en : I 204 6 = nI n) (o0 : fr_off [(245, 246, 0, 2147483648)] I I0) (q0 : ∀ a b, a < n → b < n → I0 245 (7 * a + b) = en_ (m0 a b)) (nx : ∀ I2, fr_off [(245, 246, 0, 2147483648)] I I2 → (∀ a b, a < n → b < n → I2 245 (7 * a + b) = en_ (fwN n m0 a b)) → P I2 J T) : wl_X12_carry_76_2 0 I0 J T V2 P := by
  intro V hV
  have key : ∀ m v : Nat, ∀ I1 : Nat → Nat → Int32, v + m = n → fr_off [(245, 246, 0, 2147483648)] I I1 → (∀ a b, a < n → b < n → I1 245 (7 * a + b) = en_ (fwN v m0 a b)) → V (nI v) I1 J T := by
    intro m
    induction m with
    | zero =>
      intro v I1 hv o q
      have hv : v = n := by omega
      subst hv
      apply hV
      unfold wb_X12_carry_76_2
      rw [fr_at 204 6 o rfl, en]
      exact ⟨fun z => absurd z (nI_nlt (Nat.le_refl _) (by omega)), fun _ => nx I1 o q⟩
    | succ m ih =>
      intro v I1 hv o q
      apply hV
      unfold wb_X12_carry_76_2
      rw [fr_at 204 6 o rfl, en]
      refine ⟨fun _ => lp_c86 (I := I) (mn := fwN v m0) hn (by omega) (fwN_diag hd v v (by omega)) (fun a b ha hb9 => ?_) en o q (fun I2 o2 q2 => ih (v + 1) I2 (by omega) o2 q2), fun z => absurd (nI_lt (by omega) (by omega)) z⟩
      have b6 := fwB_6 (v := v) (by omega)
      rcases fwN_bd hb v (by omega) a b (by omega) (by omega) with z | z
      · left; omega
      · right; exact z
  exact key n 0 I0 (by omega) o0 q0
