/-! the account: what is entered for each flow -/
noncomputable def bwX (I : Nat → Nat → Int32) (L fr to : Nat) (s d : Int32) (w p : Int64) : Option (Nat × (Nat → Nat)) := @dite _ (∃ R, wzB L fr to (rdI I) (FI_ I w) (duX (bI I 51 44) s w p d fr to) (thX (bI I 51 44) s w p d fr to) (fun _ _ => True) R) (Classical.propDecidable _) (fun h => Classical.choose h) (fun _ => none)
theorem bwX_eq {I : Nat → Nat → Int32} {L fr to : Nat} {s d : Int32} {w p : Int64} {R : Option (Nat × (Nat → Nat))} (hL : L ≤ 7) (h : wzB L fr to (rdI I) (FI_ I w) (duX (bI I 51 44) s w p d fr to) (thX (bI I 51 44) s w p d fr to) (fun _ _ => True) R) : (bwX I L fr to s d w p = none ∧ R = none) ∨ ∃ n u v, bwX I L fr to s d w p = some (n, u) ∧ R = some (n, v) ∧ wzV L fr to (rdI I) n u ∧ ∀ k, k < n → u k = v k := by
  have ex : ∃ R, wzB L fr to (rdI I) (FI_ I w) (duX (bI I 51 44) s w p d fr to) (thX (bI I 51 44) s w p d fr to) (fun _ _ => True) R := ⟨R, h⟩
  unfold bwX
  rw [dif_pos ex]
  exact wzB_one hL (Classical.choose_spec ex) h
/-- entries of one debtor, one behind the other -/
def dbS (D : Nat → Nat → Int64) (fr : Nat) (g : Nat → Nat) (val : Nat → Int64) : Nat → Nat → Nat → Int64
  | 0 => D
  | k + 1 => ix_u2 (dbS D fr g val k) fr (g k) (dbS D fr g val k fr (g k) + val k)
def dbU (D : Nat → Nat → Int64) (fr to n : Nat) (u : Nat → Nat) (du : Nat → Int64) (th : Nat → Nat → Int64) : Nat → Nat → Int64 := dbS (ix_u2 D fr to (D fr to + du (n - 2))) fr (fun k => u (k + 1)) (fun k => th (n - 2) (u (k + 1))) (n - 2)
def dbO (D : Nat → Nat → Int64) (B : Int) : Prop := ∀ a b, a < 7 → b < 7 → 0 ≤ (D a b).toInt ∧ (D a b).toInt ≤ B
theorem ow_01 {X : Nat → Nat → Int32} {V : Nat → Int64} {x1 a b c d : Int32} : 0 ≤ (ow_ X V x1 a b c d).toInt ∧ (ow_ X V x1 a b c d).toInt ≤ 1000000000000 := by
  have z0 : (0 : Int64).toInt = 0 := rfl
  have zb : (1000000000000 : Int64).toInt = 1000000000000 := rfl
  have mm : ∀ x : Int64, 0 ≤ (mx_ 0 (mn_ 1000000000000 x)).toInt ∧ (mx_ 0 (mn_ 1000000000000 x)).toInt ≤ 1000000000000 := fun x => by
    unfold mx_ mn_
    by_cases c : lg_cmp (1000000000000 : Int64) x ≤ 0
    · rw [if_pos c, if_pos (by decide)]
      exact ⟨by decide, by decide⟩
    · rw [if_neg c]
      rw [lgc_le, Int64.le_iff_toInt_le, zb] at c
      by_cases e : lg_cmp (0 : Int64) x < 0
      · rw [if_pos e]
        rw [lgc_lt, Int64.lt_iff_toInt_lt, z0] at e
        omega
      · rw [if_neg e, z0]
        omega
  unfold ow_
  split
  · exact ⟨by decide, by decide⟩
  · exact mm _
theorem l64_add {a b : Int64} {A B : Int} (ha : 0 ≤ a.toInt ∧ a.toInt ≤ A) (hb : 0 ≤ b.toInt ∧ b.toInt ≤ B) (h : A + B ≤ 1000000000000000) : 0 ≤ (a + b).toInt ∧ (a + b).toInt ≤ A + B := by
  rw [lZ_of a, lZ_of b, lZ_add, lZ_toInt (by omega) (by omega)]
  omega
theorem dbO_put {D : Nat → Nat → Int64} {B : Int} {fr x : Nat} {v : Int64} (hB : B ≤ 500000000000000) (h : dbO D B) (hf : fr < 7) (hx : x < 7) (hv : 0 ≤ v.toInt ∧ v.toInt ≤ 1000000000000) : dbO (ix_u2 D fr x (D fr x + v)) (B + 1000000000000) := fun a b ha hb => by
  by_cases c : a = fr
  · subst c
    by_cases c2 : b = x
    · subst c2
      rw [u2_s]
      exact l64_add (h a b ha hb) hv (by omega)
    · rw [u2_j c2]
      have := h a b ha hb
      omega
  · rw [u2_c c]
    have := h a b ha hb
    omega
theorem dbO_S {D : Nat → Nat → Int64} {B : Int} {fr : Nat} {g : Nat → Nat} {val : Nat → Int64} (hB : B ≤ 400000000000000) (h : dbO D B) (hf : fr < 7) : ∀ {m : Nat}, m ≤ 10 → (∀ k, k < m → g k < 7 ∧ 0 ≤ (val k).toInt ∧ (val k).toInt ≤ 1000000000000) → dbO (dbS D fr g val m) (B + 1000000000000 * m)
  | 0, _, _ => fun a b ha hb => by have := h a b ha hb; show 0 ≤ (D a b).toInt ∧ (D a b).toInt ≤ _; omega
  | m + 1, hm, q => by
    have h1 := dbO_S (D := D) hB h hf (m := m) (by omega) (fun k hk => q k (by omega))
    obtain ⟨q1, q2⟩ := q m (by omega)
    have h2 := dbO_put (by omega) h1 hf q1 q2
    intro a b ha hb
    have := h2 a b ha hb
    show 0 ≤ (ix_u2 (dbS D fr g val m) fr (g m) (dbS D fr g val m fr (g m) + val m) a b).toInt ∧ _
    refine ⟨this.1, Int.le_trans this.2 ?_⟩
    omega
theorem dbO_U {D : Nat → Nat → Int64} {B : Int} {L fr to n : Nat} {u : Nat → Nat} {rd : Nat → Nat → Nat} {X : Nat → Nat → Int32} {s d : Int32} {w p : Int64} (hL : L ≤ 7) (hB : B ≤ 300000000000000) (h : dbO D B) (hv : wzV L fr to rd n u) : dbO (dbU D fr to n u (duX X s w p d fr to) (thX X s w p d fr to)) (B + 4000000000000) := by
  have v7 := wzV_7 hL hv
  obtain ⟨n2, n5, v0, vn, -, -, -⟩ := hv
  have f7 : fr < 7 := by have := v7 0 (by omega); omega
  have t7 : to < 7 := by have := v7 (n - 1) (by omega); omega
  have h1 := dbO_put (by omega) h f7 t7 (ow_01 (X := X) (V := vm_ s w p (d / 365) (nI (n - 2)) (-1)) (x1 := 0) (a := nI fr) (b := nI to) (c := nI to) (d := d))
  have h2 := dbO_S (g := fun k => u (k + 1)) (val := fun k => thX X s w p d fr to (n - 2) (u (k + 1))) (by omega) h1 f7 (m := n - 2) (by omega) (fun k hk => ⟨v7 (k + 1) (by omega), ow_01⟩)
  intro a b ha hb
  have := h2 a b ha hb
  refine ⟨this.1, Int.le_trans this.2 ?_⟩
  omega
theorem dbS_congr {D : Nat → Nat → Int64} {fr : Nat} {g g2 : Nat → Nat} {v v2 : Nat → Int64} : ∀ {m : Nat}, (∀ k, k < m → g k = g2 k ∧ v k = v2 k) → dbS D fr g v m = dbS D fr g2 v2 m
  | 0, _ => rfl
  | m + 1, h => by rw [dbS, dbS, dbS_congr (m := m) (fun k hk => h k (by omega)), (h m (by omega)).1, (h m (by omega)).2]
theorem dbU_congr {D : Nat → Nat → Int64} {fr to n : Nat} {u v : Nat → Nat} {du : Nat → Int64} {th : Nat → Nat → Int64} (h : ∀ k, k < n → u k = v k) : dbU D fr to n u du th = dbU D fr to n v du th := by
  unfold dbU
  exact dbS_congr (fun k hk => ⟨h (k + 1) (by omega), by rw [h (k + 1) (by omega)]⟩)
/-- the matrix in memory: the class's rows, the reference's row -/
def fcC (J : Nat → Nat → Int64) (D : Nat → Nat → Int64) : Prop := ∀ a b, a < 7 → b < 7 → J (134 + a) b = D a b
def fcM (J : Nat → Nat → Int64) (D : Nat → Nat → Int64) : Prop := ∀ a b, a < 7 → b < 7 → J 256 (7 * a + b) = D a b
theorem fcC_put {J D : Nat → Nat → Int64} {fr x : Nat} {v : Int64} (hf : fr < 7) (hx : x < 7) (h : fcC J D) : fcC (ix_u2 J (134 + fr) x (J (134 + fr) x + v)) (ix_u2 D fr x (D fr x + v)) := fun a b ha hb => by
  rw [h fr x hf hx]
  by_cases c : a = fr
  · subst c
    by_cases c2 : b = x
    · subst c2; rw [u2_s, u2_s]
    · rw [u2_j c2, u2_j c2]; exact h a b ha hb
  · rw [u2_c (by omega), u2_c c]; exact h a b ha hb
theorem fcM_put {J D : Nat → Nat → Int64} {fr x : Nat} {v : Int64} (hf : fr < 7) (hx : x < 7) (h : fcM J D) : fcM (ix_u2 J 256 (7 * fr + x) (J 256 (7 * fr + x) + v)) (ix_u2 D fr x (D fr x + v)) := fun a b ha hb => by
  rw [h fr x hf hx]
  by_cases c : a = fr ∧ b = x
  · obtain ⟨rfl, rfl⟩ := c
    rw [u2_s, u2_s]
  · rw [u2_j (by omega), h a b ha hb]
    by_cases c2 : a = fr
    · subst c2; rw [u2_j (fun e => c ⟨rfl, e⟩)]
    · rw [u2_c c2]
theorem fi_134 {m v : Nat} (hm : m < 7) (hv : v < 7) : fr_in [(134, 141, 0, 2147483648)] (134 + m) v = true := by
  unfold fr_in
  rw [List.any_eq_true]
  refine ⟨(134, 141, 0, 2147483648), by simp, ?_⟩
  rw [fr_1_iff]
  show 134 ≤ 134 + m ∧ 134 + m < 141 ∧ 0 ≤ v ∧ v < 2147483648
  omega
theorem fn_bl {n : Nat} {u : Nat → Nat} {k : Nat} (hk : k < n) (hn : n ≤ 5) {I : Nat → Nat → Int32} {J : Nat → Nat → Int64} {T : Option Nat} {P : Int32 → (Nat → Nat → Int32) → (Nat → Nat → Int64) → Option Nat → Prop} (e8 : I 97 8 = nI n) (hu : ∀ k, k < n → I 105 k = nI (u k)) (hP : P (nI (u k)) I J T) : wp_X10_bestLand (nI k) I J T P := by
  unfold wp_X10_bestLand
  rw [nI_clamp (show k < 2 ^ 31 by omega), hu k hk, e8]
  exact ⟨fun z => absurd z (nI_nlt (a := k) (b := 0) (by omega) (by omega)), fun _ => ⟨fun _ => ⟨nI_in2 (by omega) (by decide), hP⟩, fun z => absurd (nI_lt hk (by omega)) z⟩⟩
theorem fn_ent {L fr to n : Nat} {u : Nat → Nat} {rd : Nat → Nat → Nat} {F : Nat → Nat → Int64} {du : Nat → Int64} {th : Nat → Nat → Int64} {wt : Int64} {D : Nat → Nat → Int64} {I : Nat → Nat → Int32} {J : Nat → Nat → Int64} {T : Option Nat} {P : (Nat → Nat → Int32) → (Nat → Nat → Int64) → Option Nat → Prop} (K : wzK L fr to rd F du th wt I J) (R : wzR rd F du th I J (some (n, u))) (hv : wzV L fr to rd n u) (hD : fcC J D) (hP : ∀ J2, fr_off [(134, 141, 0, 2147483648)] J J2 → fcC J2 (dbU D fr to n u du th) → P I J2 T) : wp_X0_enter I J T P := by
  obtain ⟨k1, k2, k3, -, -, -, -, k8, k9⟩ := K
  have v7 := wzV_7 k1 hv
  obtain ⟨e8, -, -, -, -, -, hu⟩ := R
  obtain ⟨n2, n5, v0, vn, vL, -, vd⟩ := hv
  have e8 : I 97 8 = nI n := e8
  have hu : ∀ k, k < n → I 105 k = nI (u k) := hu
  have m1 : nI n - 1 = nI (n - 1) := nI_dec (by omega)
  have m2 : nI n - 2 = nI (n - 2) := by rw [show (2 : Int32) = nI 2 from rfl, nI_sub (by omega) (by omega)]
  have f7 : fr < 7 := by omega
  have t7 : to < 7 := by omega
  have i4 : ix_inb (nI (n - 2)) 4 = true := nI_in2 (by omega) (by decide)
  have c4 : (nI (n - 2)).toNatClampNeg = n - 2 := nI_clamp (by omega)
  have nl : ¬ nI n < 2 := nI_nlt (a := n) (b := 2) (by omega) (by omega)
  have if7 : ix_inb (nI fr) 7 = true := nI_in2 f7 (by decide)
  have it7 : ix_inb (nI to) 7 = true := nI_in2 t7 (by decide)
  unfold wp_X0_enter wp_X10_bestLength
  dsimp only
  rw [e8, m1]
  refine ⟨fun z => absurd z (nI_nlt (a := n - 1) (b := 1) (by omega) (by omega)), fun _ => ?_⟩
  refine fn_bl (k := 0) (n := n) (u := u) (by omega) n5 e8 hu ?_
  rw [v0]
  refine ⟨if7, fn_bl (k := n - 1) (n := n) (u := u) (by omega) n5 e8 hu ?_⟩
  rw [vn]
  refine ⟨it7, ?_⟩
  unfold wp_X10_bestDue
  rw [e8, m2, c4]
  refine ⟨fun z => absurd z nl, fun _ => ⟨i4, it7, ?_⟩⟩
  rw [re_133 f7, nI_clamp (show to < 2 ^ 31 by omega), k8 _ (by omega)]
  intro V hV
  have key : ∀ (m j : Nat) (J1 : Nat → Nat → Int64), j + m = n - 2 → fr_off [(134, 141, 0, 2147483648)] J J1 → fcC J1 (dbS (ix_u2 D fr to (D fr to + du (n - 2))) fr (fun k => u (k + 1)) (fun k => th (n - 2) (u (k + 1))) j) → V (nI (n - 1)) (nI fr) (nI (j + 1)) I J1 T := by
    intro m
    induction m with
    | zero =>
      intro j J1 hj oj hd
      have hj : j = n - 2 := by omega
      subst hj
      apply hV
      unfold wb_X0_enter_41_c97
      exact ⟨fun z => absurd z (nI_nlt (a := n - 2 + 1) (b := n - 1) (by omega) (by omega)), fun _ => hP J1 oj hd⟩
    | succ m ih =>
      intro j J1 hj oj hd
      have u7 := v7 (j + 1) (by omega)
      have iu7 : ix_inb (nI (u (j + 1))) 7 = true := nI_in2 u7 (by decide)
      apply hV
      unfold wb_X0_enter_41_c97
      refine ⟨fun _ => fn_bl (k := j + 1) (n := n) (u := u) (by omega) n5 e8 hu ⟨if7, iu7, ?_⟩, fun z => absurd (nI_lt (by omega) (by omega)) z⟩
      unfold wp_X10_bestThird
      rw [e8, m2]
      refine ⟨fun z => absurd z nl, fun _ => ⟨i4, iu7, iu7, ?_⟩⟩
      rw [re_133 f7, re_99 (by omega), nI_clamp (show u (j + 1) < 2 ^ 31 by omega), fr_row oj (a := 100) (b := 104) rfl (show 100 ≤ 100 + (n - 2) by omega) (by omega), k9 (n - 2) (u (j + 1)) (by omega) (by omega) (vL _ (by omega)) (fun e => vd 0 (j + 1) (by omega) (by omega) (by rw [v0, e])) (fun e => vd (j + 1) (n - 1) (by omega) (by omega) (by rw [e, vn])), nI_1]
      exact ih (j + 1) _ (by omega) (fr_put (fi_134 f7 u7) oj) (fcC_put f7 u7 hd)
  exact key (n - 2) 0 _ (by omega) (fr_put (fi_134 f7 t7) fr_refl) (fcC_put f7 t7 hD)
