/-! telling: how far off the tried weeks tell -/
def sN_ (f : Nat → Nat) : Nat → Nat
  | 0 => 0
  | k + 1 => sN_ f k + f k
theorem sN_le {f : Nat → Nat} {B : Nat} : ∀ {n : Nat}, (∀ k, k < n → f k ≤ B) → sN_ f n ≤ B * n
  | 0, _ => by rw [sN_]; omega
  | n + 1, h => by
    have h1 := sN_le (n := n) (fun k hk => h k (by omega))
    have h2 := h n (by omega)
    rw [sN_, Nat.mul_succ]
    omega
theorem sN_mono {f : Nat → Nat} {a : Nat} : ∀ {c : Nat}, sN_ f a ≤ sN_ f (a + c)
  | 0 => Nat.le_refl _
  | c + 1 => by
    have := sN_mono (f := f) (a := a) (c := c)
    show sN_ f a ≤ sN_ f (a + c) + f (a + c)
    omega
theorem sN_sd {g d : Nat → Int32} {f : Nat → Nat} : ∀ {n : Nat}, (∀ k, k < n → g (d k).toNatClampNeg = nI (f k)) → sd_ g d n = nI (sN_ f n)
  | 0, _ => rfl
  | n + 1, h => by rw [sd_, sN_, sN_sd (n := n) (fun k hk => h k (by omega)), h n (by omega), nI_add]
theorem sN_sm {g : Nat → Int32} {f : Nat → Nat} : ∀ {n : Nat}, (∀ k, k < n → g k = nI (f k)) → sm_w g n = nI (sN_ f n)
  | 0, _ => rfl
  | n + 1, h => by rw [sm_w, sN_, sN_sm (n := n) (fun k hk => h k (by omega)), h n (by omega), nI_add]
theorem ab_nJ {a b : Nat} (ha : a ≤ 1000000) (hb : b ≤ 1000000) {I : Nat → Nat → Int32} {J : Nat → Nat → Int64} {T : Option Nat} {P : Int32 → (Nat → Nat → Int32) → (Nat → Nat → Int64) → Option Nat → Prop} (hP : P (nI ((a - b) + (b - a))) I J T) : wp_J9_abs_0f7a4 (nI a - nI b) I J T P := by
  unfold wp_J9_abs_0f7a4
  rw [nI_iZ, nI_iZ, iZ_sub, iZ_neg]
  have e0 : (0 : Int32) = iZ 0 := rfl
  rw [e0, iZ_lt (by omega) (by omega)]
  refine ⟨fun c => ?_, fun c => ?_⟩
  · rw [show (-((a : Int) - b)) = (((a - b) + (b - a) : Nat) : Int) by omega, ← nI_iZ]; exact hP
  · rw [show ((a : Int) - b) = (((a - b) + (b - a) : Nat) : Int) by omega, ← nI_iZ]; exact hP
/-- kilograms as numbers; how far off w weeks d are, for flow k, for all flows -/
def kN_ (I : Nat → Nat → Int32) (k i : Nat) : Nat := (I (113 + k) i).toNatClampNeg
def fd_ (K : Nat → Nat → Nat) (d : Nat → Nat) (w k : Nat) : Nat := (52 * sN_ (fun j => K k (d j)) w / w - sN_ (K k) 52) + (sN_ (K k) 52 - 52 * sN_ (fun j => K k (d j)) w / w)
def ft_ (K : Nat → Nat → Nat) (d : Nat → Nat) (w n : Nat) : Nat := sN_ (fd_ K d w) n
theorem tl_bd {K : Nat → Nat → Nat} {d : Nat → Nat} {w k : Nat} (hw : 1 ≤ w) (h : ∀ i, i < 52 → K k i ≤ 10000) (hd : ∀ j, j < w → d j < 52) : 52 * sN_ (fun j => K k (d j)) w / w ≤ 520000 ∧ sN_ (K k) 52 ≤ 520000 ∧ sN_ (fun j => K k (d j)) w ≤ 10000 * w ∧ fd_ K d w k ≤ 520000 := by
  have h1 : sN_ (fun j => K k (d j)) w ≤ 10000 * w := sN_le (fun j hj => h _ (hd j hj))
  have h2 : sN_ (K k) 52 ≤ 10000 * 52 := sN_le (fun i hi => h i hi)
  have h3 : 52 * sN_ (fun j => K k (d j)) w / w ≤ 520000 := by
    apply Nat.div_le_of_le_mul
    omega
  refine ⟨h3, by omega, h1, ?_⟩
  unfold fd_
  generalize 52 * sN_ (fun j => K k (d j)) w / w = X at h3 ⊢
  generalize sN_ (K k) 52 = Y at h2 ⊢
  omega
theorem fn_farC {w n lt : Nat} {d : Nat → Nat} {K : Nat → Nat → Nat} (hw : 1 ≤ w) (hw3 : w ≤ 3) (hn : n ≤ 8) (hl : lt < 2147483648) {I : Nat → Nat → Int32} {J : Nat → Nat → Int64} {T : Option Nat} {P : Int32 → (Nat → Nat → Int32) → (Nat → Nat → Int64) → Option Nat → Prop} (n1 : I 106 0 = nI n) (hd : ∀ j, j < w → I 123 j = nI (d j) ∧ d j < 52) (hK : ∀ k, k < n → (∀ i, i < 52 → I (113 + k) i = nI (K k i) ∧ K k i ≤ 10000) ∧ I 111 k = nI (sN_ (K k) 52)) (hP : ∀ R : Nat, R < 2147483648 → (R < lt ↔ ft_ K d w n < lt) → (ft_ K d w n < lt → R = ft_ K d w n) → P (nI R) I J T) : wp_X4_farOff (nI w) (nI lt) I J T P := by
  have bd : ∀ k, k < n → _ := fun k hk => tl_bd (K := K) (d := d) (k := k) hw (fun i hi => ((hK k hk).1 i hi).2) (fun j hj => (hd j hj).2)
  have tb : ∀ k, k ≤ n → ft_ K d w k ≤ 520000 * k := fun k hk => sN_le (fun j hj => (bd j (by omega)).2.2.2)
  unfold wp_X4_farOff
  intro V hV
  have key : ∀ m k : Nat, k + m = n → V (nI w) (nI lt) (nI (ft_ K d w k)) (nI k) I J T := by
    intro m
    induction m with
    | zero =>
      intro k hk
      have hk : k = n := by omega
      subst hk
      have := tb k (Nat.le_refl _)
      apply hV
      unfold wb_X4_farOff_5
      rw [n1]
      exact ⟨fun z => absurd z (nI_nlt (Nat.le_refl _) (by omega)), fun _ => hP _ (by omega) Iff.rfl (fun _ => rfl)⟩
    | succ m ih =>
      intro k hk
      have nxt := ih (k + 1) (by omega)
      have hkn : k < n := by omega
      have b0 := tb k (by omega)
      have bn := tb n (Nat.le_refl _)
      obtain ⟨t1, t2, t3, t4⟩ := bd k hkn
      have mono : ft_ K d w k ≤ ft_ K d w n := by
        have := sN_mono (f := fd_ K d w) (a := k) (c := n - k)
        rw [show k + (n - k) = n by omega] at this
        exact this
      have es : sd_ (I (113 + k)) (I 123) w = nI (sN_ (fun j => K k (d j)) w) := sN_sd (fun j hj => by
        rw [(hd j hj).1, nI_clamp (show d j < 2 ^ 31 by have := (hd j hj).2; omega)]
        exact ((hK k hkn).1 _ (hd j hj).2).1)
      have ev : 52 * sd_ (I (113 + k)) (I 123) w / nI w = nI (52 * sN_ (fun j => K k (d j)) w / w) := by
        rw [es, show (52 : Int32) = nI 52 from rfl, nI_mul, nI_div (by omega) (by omega) (by omega)]
      apply hV
      unfold wb_X4_farOff_5 wp_X4_toldBy_r123
      rw [n1, nI_ltI (a := ft_ K d w k) (by omega) (by omega), nI_clamp (show k < 2 ^ 31 by omega), nI_1]
      refine ⟨fun _ => ⟨fun z => lp_told123 (by omega) hw hw3 (fun j hj => ⟨d j, (hd j hj).2, (hd j hj).1⟩) ⟨nI_in2 (by omega) (by decide), ?_⟩, fun z => hP _ (by omega) ⟨fun y => absurd y z, fun y => absurd (show ft_ K d w k < lt by omega) z⟩ (fun y => absurd (show ft_ K d w k < lt by omega) z)⟩, fun z => absurd (nI_lt (by omega) (by omega)) z⟩
      rw [ev, (hK k hkn).2]
      refine ab_nJ (by omega) (by omega) ?_
      rw [nI_add]
      exact nxt
  exact key n 0 (by omega)
theorem fn_farM {w n : Nat} {d : Nat → Nat} {K : Nat → Nat → Nat} (hw : 1 ≤ w) (hw3 : w ≤ 3) (hn : n ≤ 8) {I : Nat → Nat → Int32} {J : Nat → Nat → Int64} {T : Option Nat} {P : Int32 → (Nat → Nat → Int32) → (Nat → Nat → Int64) → Option Nat → Prop} (n2 : I 204 65 = nI n) (hd : ∀ j, j < w → I 254 j = nI (d j) ∧ d j < 52) (hK : ∀ k, k < n → ∀ i, i < 52 → I 251 (52 * k + i) = nI (K k i) ∧ K k i ≤ 10000) (hP : P (nI (ft_ K d w n)) I J T) : wp_X12_farOff (nI w) I J T P := by
  have bd : ∀ k, k < n → _ := fun k hk => tl_bd (K := K) (d := d) (k := k) hw (fun i hi => (hK k hk i hi).2) (fun j hj => (hd j hj).2)
  unfold wp_X12_farOff
  intro V hV
  have key : ∀ m k : Nat, k + m = n → V (nI w) (nI (ft_ K d w k)) (nI k) I J T := by
    intro m
    induction m with
    | zero =>
      intro k hk
      have hk : k = n := by omega
      subst hk
      apply hV
      unfold wb_X12_farOff_4
      rw [n2]
      exact ⟨fun z => absurd z (nI_nlt (Nat.le_refl _) (by omega)), fun _ => hP⟩
    | succ m ih =>
      intro k hk
      have nxt := ih (k + 1) (by omega)
      have hkn : k < n := by omega
      obtain ⟨t1, t2, t3, t4⟩ := bd k hkn
      apply hV
      unfold wb_X12_farOff_4
      rw [n2]
      refine ⟨fun _ => ?_, fun z => absurd (nI_lt (by omega) (by omega)) z⟩
      intro V2 hV2
      have key2 : ∀ m2 j : Nat, j + m2 = w → V2 (nI w) (nI (ft_ K d w k)) (nI k) (nI (sN_ (fun j => K k (d j)) j)) (nI j) I J T := by
        intro m2
        induction m2 with
        | zero =>
          intro j hj
          have hj : j = w := by omega
          subst hj
          apply hV2
          unfold wb_X12_farOff_18_4 wp_X12_trueOf
          have ev : (52 : Int32) * nI (sN_ (fun x => K k (d x)) j) / nI j = nI (52 * sN_ (fun x => K k (d x)) j / j) := by
            rw [show (52 : Int32) = nI 52 from rfl, nI_mul, nI_div (by omega) (by omega) (by omega)]
          rw [ev]
          refine ⟨fun z => absurd z (nI_nlt (Nat.le_refl _) (by omega)), fun _ => ⟨nz_nI (by omega) (by omega), lp_trueM (by omega) ?_⟩⟩
          rw [sN_sm (f := K k) (fun i hi => (hK k hkn i hi).1)]
          refine ab_nJ (by omega) (by omega) ?_
          rw [nI_add, nI_1]
          exact nxt
        | succ m2 ih2 =>
          intro j hj
          have nx2 := ih2 (j + 1) (by omega)
          obtain ⟨e1, e2⟩ := hd j (by omega)
          apply hV2
          unfold wb_X12_farOff_18_4
          rw [nI_clamp (show j < 2 ^ 31 by omega), e1, pr_52, nI_clamp (show 52 * k + d j < 2 ^ 31 by omega), (hK k hkn _ e2).1, nI_add, nI_1]
          exact ⟨fun _ => ⟨nI_in2 (by omega) (by decide), nI_in2 (by omega) (by decide), nx2⟩, fun z => absurd (nI_lt (by omega) (by omega)) z⟩
      exact key2 w 0 (by omega)
  exact key n 0 (by omega)
