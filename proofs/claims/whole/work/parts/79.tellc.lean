/-! telling: the class's search -/
def nk_ (w : Nat) (d : Nat → Nat) : Nat → Option Nat
  | 0 => none
  | k + 1 => if d k < 52 - w + k then some k else nk_ w d k
def nd_ (d : Nat → Nat) (k : Nat) : Nat → Nat := fun j => if j < k then d j else d k + 1 + (j - k)
theorem nk_some {w : Nat} {d : Nat → Nat} {k : Nat} (h : d k < 52 - w + k) : ∀ {c : Nat}, (∀ j, k < j → j < k + 1 + c → ¬ d j < 52 - w + j) → nk_ w d (k + 1 + c) = some k
  | 0, _ => by rw [Nat.add_zero, nk_, if_pos h]
  | c + 1, q => by
    show (if d (k + 1 + c) < 52 - w + (k + 1 + c) then some (k + 1 + c) else nk_ w d (k + 1 + c)) = some k
    rw [if_neg (q (k + 1 + c) (by omega) (by omega))]
    exact nk_some h (fun j a b => q j a (by omega))
theorem nk_none {w : Nat} {d : Nat → Nat} : ∀ {c : Nat}, (∀ j, j < c → ¬ d j < 52 - w + j) → nk_ w d c = none
  | 0, _ => rfl
  | c + 1, q => by
    show (if d c < 52 - w + c then some c else nk_ w d c) = none
    rw [if_neg (q c (by omega))]
    exact nk_none (fun j a => q j (by omega))
def bz_ (K : Nat → Nat → Nat) (w n : Nat) : Nat → (Nat → Nat) → Nat → (Nat → Nat) → Nat × (Nat → Nat)
  | 0, _, b, t => (b, t)
  | f + 1, d, b, t => match nk_ w d w with
    | none => if ft_ K d w n < b then (ft_ K d w n, d) else (b, t)
    | some k => if ft_ K d w n < b then bz_ K w n f (nd_ d k) (ft_ K d w n) d else bz_ K w n f (nd_ d k) b t
theorem lp_f64 {w x : Nat} {d : Nat → Nat} {x2 : Int32} (hw3 : w ≤ 3) {I : Nat → Nat → Int32} {J : Nat → Nat → Int64} {T : Option Nat} {P : Int32 → (Nat → Nat → Int32) → (Nat → Nat → Int64) → Option Nat → Prop} {I0 : Nat → Nat → Int32} {V10 : Int32 → Int32 → Int32 → (Nat → Nat → Int32) → (Nat → Nat → Int64) → Option Nat → Prop} {V33 : Int32 → Int32 → Int32 → Int32 → (Nat → Nat → Int32) → (Nat → Nat → Int64) → Option Nat → Prop} (o0 : fr_off [(122, 124, 0, 2147483648)] I I0) (q0 : ∀ j, j < w → I0 123 j = nI (d j)) (nx : ∀ I2, fr_off [(122, 124, 0, 2147483648)] I I2 → (∀ j, j < w → I2 123 j = nI (d j)) → (∀ j, j < w → I2 122 j = nI (d j)) → wp_X4_tryNext (nI w) I2 J T (fun v18 I18 J18 T18 => V33 (nI w) x2 v18 (nI (x + 1)) I18 J18 T18)) : wl_X4_findTelling_64_10_33 (nI w) x2 (nI x) 0 I0 J T V10 V33 P := by
  intro V hV
  have key : ∀ m j : Nat, ∀ I1 : Nat → Nat → Int32, j + m = w → fr_off [(122, 124, 0, 2147483648)] I I1 → (∀ y, y < w → I1 123 y = nI (d y)) → (∀ y, y < j → I1 122 y = nI (d y)) → V (nI w) x2 (nI x) (nI j) I1 J T := by
    intro m
    induction m with
    | zero =>
      intro j I1 hj o q t
      have hj : j = w := by omega
      subst hj
      apply hV
      unfold wb_X4_findTelling_64_10_33
      simp only [nI_1]
      exact ⟨fun z => absurd z (nI_nlt (Nat.le_refl _) (by omega)), fun _ => nx I1 o q t⟩
    | succ m ih =>
      intro j I1 hj o q t
      have fj : ix_inb (nI j) 3 = true := nI_in2 (by omega) (by decide)
      apply hV
      unfold wb_X4_findTelling_64_10_33
      rw [nI_clamp (show j < 2 ^ 31 by omega), q j (by omega)]
      simp only [nI_1]
      refine ⟨fun _ => ⟨fj, fj, ih (j + 1) _ (by omega) (fr_putn rfl (by omega) o) (fun y hy => by rw [u2_c (by decide)]; exact q y hy) (fun y hy => ?_)⟩, fun z => absurd (nI_lt (by omega) (by omega)) z⟩
      by_cases c : y = j
      · subst c; simp [u2_e]
      · rw [u2_j c]; exact t y (by omega)
  exact key w 0 I0 (by omega) o0 q0 (fun y hy => by omega)
theorem lp_f33 {w n : Nat} {K : Nat → Nat → Nat} {R : Nat × (Nat → Nat)} (hw : 1 ≤ w) (hw3 : w ≤ 3) (hn : n ≤ 8) {I : Nat → Nat → Int32} {J : Nat → Nat → Int64} {T : Option Nat} {P : Int32 → (Nat → Nat → Int32) → (Nat → Nat → Int64) → Option Nat → Prop} {V10 : Int32 → Int32 → Int32 → (Nat → Nat → Int32) → (Nat → Nat → Int64) → Option Nat → Prop} (n1 : I 106 0 = nI n) (hK : ∀ k, k < n → (∀ i, i < 52 → I (113 + k) i = nI (K k i) ∧ K k i ≤ 10000) ∧ I 111 k = nI (sN_ (K k) 52)) (hP : ∀ I2, fr_off [(122, 124, 0, 2147483648)] I I2 → (R.1 = 2147483647 ∨ ∀ j, j < w → I2 122 j = nI (R.2 j)) → P (nI R.1) I2 J T) {I0 : Nat → Nat → Int32} (o0 : fr_off [(122, 124, 0, 2147483648)] I I0) {d0 t0 : Nat → Nat} (q0 : ∀ j, j < w → I0 123 j = nI (d0 j) ∧ d0 j < 52) (hR : bz_ K w n 140608 d0 2147483647 t0 = R) : wl_X4_findTelling_33_10 (nI w) 2147483647 1 0 I0 J T V10 P := by
  intro V hV
  have fin : ∀ (x b : Nat) (t : Nat → Nat) (I1 : Nat → Nat → Int32), R = (b, t) → fr_off [(122, 124, 0, 2147483648)] I I1 → (b = 2147483647 ∨ ∀ j, j < w → I1 122 j = nI (t j)) → V (nI w) (nI b) 0 (nI x) I1 J T := by
    intro x b t I1 e o q
    subst e
    apply hV
    unfold wb_X4_findTelling_33_10
    exact ⟨fun _ => ⟨fun _ => hP I1 o q, fun z => absurd rfl z⟩, fun _ => hP I1 o q⟩
  have key : ∀ (f x b : Nat) (d t : Nat → Nat) (I1 : Nat → Nat → Int32), x + f = 140608 → b < 2147483648 → fr_off [(122, 124, 0, 2147483648)] I I1 → (∀ j, j < w → I1 123 j = nI (d j) ∧ d j < 52) → (b = 2147483647 ∨ ∀ j, j < w → I1 122 j = nI (t j)) → bz_ K w n f d b t = R → V (nI w) (nI b) 1 (nI x) I1 J T := by
    intro f
    induction f with
    | zero =>
      intro x b d t I1 hx hb o q t1 e
      have e : R = (b, t) := e.symm
      subst e
      apply hV
      unfold wb_X4_findTelling_33_10
      exact ⟨fun z => absurd z (nI_nlt (a := x) (b := 140608) (by omega) (by omega)), fun _ => hP I1 o t1⟩
    | succ f ih =>
      intro x b d t I1 hx hb o q t1 e
      rw [bz_] at e
      apply hV
      unfold wb_X4_findTelling_33_10
      refine ⟨fun _ => ⟨fun z => absurd z (by decide), fun _ => ?_⟩, fun z => absurd (nI_lt (a := x) (b := 140608) (by omega) (by omega)) z⟩
      refine fn_farC (d := d) (K := K) (n := n) hw hw3 hn hb (by rw [fr_at 106 0 o rfl]; exact n1) q (fun k hk => ?_) (fun r hr r1 r2 => ?_)
      · rw [fr_row o (a := 113) (b := 121) rfl (show 113 ≤ 113 + k by omega) (by omega), fr_rw1 o 111 rfl]
        exact hK k hk
      · have nxt : ∀ (b2 : Nat) (t2 : Nat → Nat) (I2 : Nat → Nat → Int32), b2 < 2147483648 → fr_off [(122, 124, 0, 2147483648)] I I2 → (∀ j, j < w → I2 123 j = nI (d j) ∧ d j < 52) → (b2 = 2147483647 ∨ ∀ j, j < w → I2 122 j = nI (t2 j)) → (match nk_ w d w with | none => (b2, t2) | some k => bz_ K w n f (nd_ d k) b2 t2) = R → wp_X4_tryNext (nI w) I2 J T (fun v18 I18 J18 T18 => V (nI w) (nI b2) v18 (nI (x + 1)) I18 J18 T18) := by
          intro b2 t2 I2 hb2 o2 q2 t3 e2
          refine fn_next hw hw3 q2 (fun k I3 hk h1 h2 o3 q3 => ?_) (fun h1 => ?_)
          · have ek : nk_ w d w = some k := by
              have := nk_some (w := w) (c := w - (k + 1)) h2 (fun j a c => h1 j a (by omega))
              rw [show k + 1 + (w - (k + 1)) = w by omega] at this
              exact this
            rw [ek] at e2
            refine ih (x + 1) b2 (nd_ d k) t2 I3 (by omega) hb2 (fr_trans o2 (fr_mono (by decide) o3)) (fun j hj => ⟨q3 j hj, ?_⟩) (by rw [fr_rw1 o3 122 rfl]; exact t3) e2
            unfold nd_
            by_cases c : j < k
            · rw [if_pos c]; exact (q2 j hj).2
            · rw [if_neg c]; omega
          · rw [nk_none h1] at e2
            exact fin (x + 1) b2 t2 I2 e2.symm o2 t3
        rw [nI_ltI (by omega) (by omega)]
        refine ⟨fun z => ?_, fun z => ?_⟩
        · have z := r1.mp z
          rw [r2 z]
          have ee : (match nk_ w d w with | none => (ft_ K d w n, d) | some k => bz_ K w n f (nd_ d k) (ft_ K d w n) d) = R := by
            rw [← e]
            cases nk_ w d w with
            | none => exact (if_pos z).symm
            | some k => exact (if_pos z).symm
          exact lp_f64 (I := I) (d := d) hw3 o (fun j hj => (q j hj).1) (fun I2 o2 q2 t2 => nxt (ft_ K d w n) d I2 (by omega) o2 (fun j hj => ⟨q2 j hj, (q j hj).2⟩) (Or.inr t2) ee)
        · have z : ¬ ft_ K d w n < b := fun y => z (r1.mpr y)
          have ee : (match nk_ w d w with | none => (b, t) | some k => bz_ K w n f (nd_ d k) b t) = R := by
            rw [← e]
            cases nk_ w d w with
            | none => exact (if_neg z).symm
            | some k => exact (if_neg z).symm
          rw [nI_1]
          exact nxt b t I1 hb o q t1 ee
  exact key 140608 0 2147483647 d0 t0 I0 (by omega) (by omega) o0 q0 (Or.inl rfl) hR
