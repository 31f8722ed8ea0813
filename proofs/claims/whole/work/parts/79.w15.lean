/-! ways: the reference tries all of them -/
def wzw (L fr to n r : Nat) : Nat → Nat := fun k => if k = 0 then fr else if k = n - 1 then to else (r / L ^ (n - 2 - k)) % L
def wzA (L fr to n r : Nat) (m : Nat) (v : Nat → Nat) : Prop := ∃ m1 r1, (m1 < n ∨ (m1 = n ∧ r1 < r)) ∧ 2 ≤ m1 ∧ r1 < L ^ (m1 - 2) ∧ m = m1 ∧ ∀ k, k < m → v k = wzw L fr to m1 r1 k
variable {X : Nat → Nat → Int32} {L fr to : Nat} {s d : Int32} {w p : Int64} {rd : Nat → Nat → Nat} {F : Nat → Nat → Int64} {du : Nat → Int64} {th : Nat → Nat → Int64}
theorem wzV_congr {n : Nat} {v u : Nat → Nat} (h : wzV L fr to rd n v) (e : ∀ k, k < n → v k = u k) : wzV L fr to rd n u := by
  obtain ⟨a, b, c, f, g, i, j⟩ := h
  refine ⟨a, b, by rw [← e 0 (by omega)]; exact c, by rw [← e (n - 1) (by omega)]; exact f, fun k hk => by rw [← e k hk]; exact g k hk, fun k hk => by rw [← e k (by omega), ← e (k + 1) hk]; exact i k hk, fun x y xy hy => by rw [← e x (by omega), ← e y hy]; exact j x y xy hy⟩
/-- every way is among those tried -/
theorem wzA_all (hL : L ≤ 7) (hft : fr ≠ to) (hfr : fr < L) (hto : to < L) {m : Nat} {v : Nat → Nat} (hv : wzV L fr to rd m v) : wzA L fr to 6 0 m v := by
  have L2 : L = 2 ∨ L = 3 ∨ L = 4 ∨ L = 5 ∨ L = 6 ∨ L = 7 := by omega
  obtain ⟨a, b, c, f, g, -, -⟩ := hv
  have cs : m = 2 ∨ m = 3 ∨ m = 4 ∨ m = 5 := by omega
  rcases cs with rfl | rfl | rfl | rfl
  · refine ⟨2, 0, by omega, by omega, by simp, rfl, fun k hk => ?_⟩
    have ks : k = 0 ∨ k = 1 := by omega
    rcases ks with rfl | rfl
    · exact c
    · exact f
  · have g1 := g 1 (by omega)
    refine ⟨3, v 1, by omega, by omega, by rw [show 3 - 2 = 1 from rfl, Nat.pow_one]; exact g1, rfl, fun k hk => ?_⟩
    have ks : k = 0 ∨ k = 1 ∨ k = 2 := by omega
    rcases ks with rfl | rfl | rfl
    · exact c
    · show v 1 = v 1 / L ^ 0 % L
      rw [Nat.pow_zero, Nat.div_one, Nat.mod_eq_of_lt g1]
    · exact f
  · have g1 := g 1 (by omega)
    have g2 := g 2 (by omega)
    have b1 : (v 1 * L + v 2) / L = v 1 := by rcases L2 with rfl | rfl | rfl | rfl | rfl | rfl <;> omega
    have b2 : (v 1 * L + v 2) % L = v 2 := by rcases L2 with rfl | rfl | rfl | rfl | rfl | rfl <;> omega
    have b3 : v 1 * L + v 2 < L ^ 2 := by rcases L2 with rfl | rfl | rfl | rfl | rfl | rfl <;> omega
    refine ⟨4, v 1 * L + v 2, by omega, by omega, b3, rfl, fun k hk => ?_⟩
    have ks : k = 0 ∨ k = 1 ∨ k = 2 ∨ k = 3 := by omega
    rcases ks with rfl | rfl | rfl | rfl
    · exact c
    · show v 1 = (v 1 * L + v 2) / L ^ 1 % L
      rw [Nat.pow_one, b1, Nat.mod_eq_of_lt g1]
    · show v 2 = (v 1 * L + v 2) / L ^ 0 % L
      rw [Nat.pow_zero, Nat.div_one, b2]
    · exact f
  · have g1 := g 1 (by omega)
    have g2 := g 2 (by omega)
    have g3 := g 3 (by omega)
    have b1 : ((v 1 * L + v 2) * L + v 3) / L ^ 2 = v 1 := by rcases L2 with rfl | rfl | rfl | rfl | rfl | rfl <;> omega
    have b2 : ((v 1 * L + v 2) * L + v 3) / L % L = v 2 := by rcases L2 with rfl | rfl | rfl | rfl | rfl | rfl <;> omega
    have b4 : ((v 1 * L + v 2) * L + v 3) % L = v 3 := by rcases L2 with rfl | rfl | rfl | rfl | rfl | rfl <;> omega
    have b3 : (v 1 * L + v 2) * L + v 3 < L ^ 3 := by rcases L2 with rfl | rfl | rfl | rfl | rfl | rfl <;> omega
    refine ⟨5, (v 1 * L + v 2) * L + v 3, by omega, by omega, b3, rfl, fun k hk => ?_⟩
    have ks : k = 0 ∨ k = 1 ∨ k = 2 ∨ k = 3 ∨ k = 4 := by omega
    rcases ks with rfl | rfl | rfl | rfl | rfl
    · exact c
    · show v 1 = ((v 1 * L + v 2) * L + v 3) / L ^ 2 % L
      rw [b1, Nat.mod_eq_of_lt g1]
    · show v 2 = ((v 1 * L + v 2) * L + v 3) / L ^ 1 % L
      rw [Nat.pow_one, b2]
    · show v 3 = ((v 1 * L + v 2) * L + v 3) / L ^ 0 % L
      rw [Nat.pow_zero, Nat.div_one, b4]
    · exact f
theorem wmK_fr {I I2 : Nat → Nat → Int32} {J J2 : Nat → Nat → Int64} (h : wmK X L fr to w p rd F I J) (o : fr_off [(204, 205, 58, 60), (243, 245, 0, 2147483648)] I I2) (oj : fr_off [(204, 205, 60, 61), (241, 243, 0, 2147483648)] J J2) : wmK X L fr to w p rd F I2 J2 := by
  obtain ⟨h1, h2, h3, h4, h5, h6⟩ := h
  refine ⟨h1, tw_fr h2 o oj rfl rfl, (fr_bI o 51 44 rfl).trans h3, h4, by rw [fr_at 204 6 o rfl]; exact h5, ?_⟩
  rw [fr_rw1 o 211 rfl, fr_rw1 o 212 rfl]
  exact h6
theorem wzQ_fr {I I2 : Nat → Nat → Int32} {J : Nat → Nat → Int64} {R : Option (Nat × (Nat → Nat))} (h : wzQ L fr to rd F du th I J R) (a : I2 204 58 = I 204 58) (b : I2 204 59 = I 204 59) (c : I2 244 = I 244) : wzQ L fr to rd F du th I2 J R := by
  match R, h with
  | none, h => exact a.trans h
  | some r, h =>
    obtain ⟨h1, h2, h3, h4, h5⟩ := h
    exact ⟨a.trans h1, b.trans h2, h3, h4, by rw [c]; exact h5⟩
theorem pw_le (hL : L ≤ 7) {n : Nat} (hn : n ≤ 5) : L ^ (n - 2) ≤ 343 := by
  have h1 : L ^ (n - 2) ≤ 7 ^ (n - 2) := Nat.pow_le_pow_left hL _
  have h2 : 7 ^ (n - 2) ≤ 7 ^ 3 := Nat.pow_le_pow_right (by omega) (by omega)
  have h3 : 7 ^ 3 = 343 := rfl
  omega
theorem fn_fd {I : Nat → Nat → Int32} {J : Nat → Nat → Int64} {T : Option Nat} {P : Int32 → (Nat → Nat → Int32) → (Nat → Nat → Int64) → Option Nat → Prop} (K : wmK X L fr to w p rd F I J) (hP : ∀ I2 J2 R, fr_off [(204, 205, 58, 60), (243, 245, 0, 2147483648)] I I2 → fr_off [(204, 205, 60, 61), (241, 243, 0, 2147483648)] J J2 → wzB L fr to rd F (duX X s w p d fr to) (thX X s w p d fr to) (fun _ _ => True) R → wzQ L fr to rd F (duX X s w p d fr to) (thX X s w p d fr to) I2 J2 R → P (s01_ R.isSome) I2 J2 T) : wp_X12_finds (nI fr) (nI to) s w p d I J T P := by
  have K0 := K
  obtain ⟨⟨l1, l2, l3, l4⟩, htw, hX, hnz, hl, hrd⟩ := K
  have nzL : ix_nz (nI L) = true := nz_nI (by omega) (by omega)
  unfold wp_X12_finds
  intro V8 hV8
  have key8 : ∀ (m n : Nat) (I1 : Nat → Nat → Int32) (J1 : Nat → Nat → Int64) (R : Option (Nat × (Nat → Nat))), n + m = 6 → 2 ≤ n → fr_off [(204, 205, 58, 60), (243, 245, 0, 2147483648)] I I1 → fr_off [(204, 205, 60, 61), (241, 243, 0, 2147483648)] J J1 → wzB L fr to rd F (duX X s w p d fr to) (thX X s w p d fr to) (wzA L fr to n 0) R → wzQ L fr to rd F (duX X s w p d fr to) (thX X s w p d fr to) I1 J1 R → V8 (nI fr) (nI to) s w p d (nI n) I1 J1 T := by
    intro m
    induction m with
    | zero =>
      intro n I1 J1 R hn n2 o oj b r
      have hn : n = 6 := by omega
      subst hn
      have hp := hP I1 J1 R o oj (wzB_ext b (fun m v hv => ⟨fun _ => trivial, fun _ => wzA_all l1 l4 l2 l3 hv⟩)) r
      apply hV8
      unfold wb_X12_finds_8
      refine ⟨fun z => absurd z (by decide), fun _ => ?_⟩
      match R, r, hp with
      | none, r, hp =>
        have r : I1 204 58 = 0 := r
        rw [r]
        exact ⟨fun _ => hp, fun z => absurd (by decide) z⟩
      | some q, r, hp =>
        rw [r.1]
        refine ⟨fun z => ?_, fun _ => hp⟩
        have q5 := r.2.2.2.1.2.1
        have q2 := r.2.2.2.1.1
        rw [Int32.le_iff_toInt_le, nI_toInt (by omega)] at z
        have z : (q.1 : Int) ≤ 0 := z
        omega
    | succ m ih =>
      intro n I1 J1 R hn n2 o oj b r
      have n5 : n ≤ 5 := by omega
      have pl := pw_le l1 n5
      have le5 : nI n ≤ 5 := by
        rw [Int32.le_iff_toInt_le, nI_toInt (by omega)]
        show (n : Int) ≤ 5
        omega
      apply hV8
      unfold wb_X12_finds_8
      refine ⟨fun _ => ?_, fun z => absurd le5 z⟩
      have l6 : I1 204 6 = nI L := by rw [fr_at 204 6 o rfl]; exact hl
      intro V20 hV20
      have key20 : ∀ (m2 k : Nat), k + m2 = n → 2 ≤ k → V20 (nI fr) (nI to) s w p d (nI n) (nI (L ^ (k - 2))) (nI k) I1 J1 T := by
        intro m2
        induction m2 with
        | zero =>
          intro k hk k2
          have hk : k = n := by omega
          subst hk
          apply hV20
          unfold wb_X12_finds_20_8
          refine ⟨fun z => absurd z (nI_nlt (Nat.le_refl _) (by omega)), fun _ => ?_⟩
          intro V45 hV45
          have key45 : ∀ (m3 x : Nat) (I2 : Nat → Nat → Int32) (J2 : Nat → Nat → Int64) (R2 : Option (Nat × (Nat → Nat))), x + m3 = L ^ (k - 2) → fr_off [(204, 205, 58, 60), (243, 245, 0, 2147483648)] I I2 → fr_off [(204, 205, 60, 61), (241, 243, 0, 2147483648)] J J2 → wzB L fr to rd F (duX X s w p d fr to) (thX X s w p d fr to) (wzA L fr to k x) R2 → wzQ L fr to rd F (duX X s w p d fr to) (thX X s w p d fr to) I2 J2 R2 → V45 (nI fr) (nI to) s w p d (nI k) (nI (L ^ (k - 2))) (nI x) I2 J2 T := by
            intro m3
            induction m3 with
            | zero =>
              intro x I2 J2 R2 hx o2 oj2 b2 r2
              have hx : x = L ^ (k - 2) := by omega
              subst hx
              apply hV45
              unfold wb_X12_finds_45_8_20
              rw [nI_1]
              refine ⟨fun z => absurd z (nI_nlt (Nat.le_refl _) (by omega)), fun _ => ih (k + 1) I2 J2 R2 (by omega) (by omega) o2 oj2 (wzB_ext b2 (fun m v hv => ⟨fun z => ?_, fun z => ?_⟩)) r2⟩
              · obtain ⟨m1, r1, z1, z2, z3, z4, z5⟩ := z
                exact ⟨m1, r1, by omega, z2, z3, z4, z5⟩
              · obtain ⟨m1, r1, z1, z2, z3, z4, z5⟩ := z
                refine ⟨m1, r1, ?_, z2, z3, z4, z5⟩
                by_cases c : m1 = k
                · subst c; exact Or.inr ⟨rfl, z3⟩
                · omega
            | succ m3 ih3 =>
              intro x I2 J2 R2 hx o2 oj2 b2 r2
              have x4 : x < L ^ (k - 2) := by omega
              apply hV45
              unfold wb_X12_finds_45_8_20
              rw [show ((0 : Int32)).toNatClampNeg = 0 from rfl, show nI k - 2 = nI (k - 2) by rw [show (2 : Int32) = nI 2 from rfl, nI_sub (by omega) (by omega)]]
              refine ⟨fun _ => ?_, fun z => absurd (nI_lt (by omega) (by omega)) z⟩
              intro V69 hV69
              have wv : ∀ y, y < k → wzw L fr to k x y < L := fun y hy => by
                unfold wzw
                split
                · exact l2
                · split
                  · exact l3
                  · exact Nat.mod_lt _ (by omega)
              have key69 : ∀ (y : Nat) (I3 : Nat → Nat → Int32), y + 2 ≤ k → fr_off [(204, 205, 58, 60), (243, 245, 0, 2147483648)] I I3 → wzQ L fr to rd F (duX X s w p d fr to) (thX X s w p d fr to) I3 J2 R2 → I3 243 0 = nI fr → (∀ i, y < i → i + 1 < k → I3 243 i = nI (wzw L fr to k x i)) → V69 (nI fr) (nI to) s w p d (nI k) (nI (L ^ (k - 2))) (nI x) (nI (x / L ^ (k - 2 - y))) (nI y) I3 J2 T := by
                intro y
                induction y with
                | zero =>
                  intro I3 hy o3 r3 f0 fi
                  apply hV69
                  unfold wb_X12_finds_69_8_20_45
                  refine ⟨fun _ => ?_, fun z => absurd (by decide) z⟩
                  rw [nI_dec (by omega), nI_clamp (show k - 1 < 2 ^ 31 by omega)]
                  have o4 : fr_off [(204, 205, 58, 60), (243, 245, 0, 2147483648)] I (ix_u2 I3 243 (k - 1) (nI to)) := fr_putn rfl (by omega) o3
                  have w0 : wzw L fr to k x 0 = fr := if_pos rfl
                  have wn : wzw L fr to k x (k - 1) = to := by
                    unfold wzw
                    rw [if_neg (by omega), if_pos rfl]
                  have hw : ∀ i, i < k → ix_u2 I3 243 (k - 1) (nI to) 243 i = nI (wzw L fr to k x i) := fun i hi => by
                    by_cases c : i = k - 1
                    · subst c; rw [wn]; exact u2_s
                    · rw [u2_j c]
                      by_cases c0 : i = 0
                      · subst c0; rw [w0]; exact f0
                      · exact fi i (by omega) (by omega)
                  have r4 : wzQ L fr to rd F (duX X s w p d fr to) (thX X s w p d fr to) (ix_u2 I3 243 (k - 1) (nI to)) J2 R2 := wzQ_fr r3 (u2_c (by decide)) (u2_c (by decide)) (u2_r (by decide))
                  refine ⟨nI_in2 (by omega) (by decide), ?_⟩
                  refine fn_try (v := wzw L fr to k x) (by omega) n5 (wmK_fr K0 o4 oj2) w0 wn wv hw r4 (fun I5 J5 o5 oj5 r5 vv q => ?_) (fun J5 r' oj5 e vv q => ?_) (fun nv => ?_)
                  · rw [nI_1]
                    refine ih3 (x + 1) I5 J5 _ (by omega) (fr_trans o4 (fr_mono (by decide) o5)) (fr_trans oj2 oj5) (wzB_new b2 vv ⟨k, x, by omega, by omega, x4, rfl, fun _ _ => rfl⟩ (fun m v hv z => ?_) q) r5
                    obtain ⟨m1, r1, z1, z2, z3, z4, z5⟩ := z
                    by_cases c : m1 = k ∧ r1 = x
                    · obtain ⟨rfl, rfl⟩ := c
                      subst z4
                      exact Or.inr ⟨rfl, z5⟩
                    · exact Or.inl ⟨m1, r1, by omega, z2, z3, z4, z5⟩
                  · rw [nI_1]
                    subst e
                    obtain ⟨q1, q2, q3, q4, q5⟩ := r4
                    refine ih3 (x + 1) _ J5 _ (by omega) o4 (fr_trans oj2 (fr_mono (by decide) oj5)) (wzB_old (n := k) (w := wzw L fr to k x) b2 ?_ (fun m v hv z => ?_) q) ?_
                    · obtain ⟨m1, r1, z1, z2, z3, z4, z5⟩ := b2.2.1
                      exact ⟨m1, r1, by omega, z2, z3, z4, z5⟩
                    · obtain ⟨m1, r1, z1, z2, z3, z4, z5⟩ := z
                      by_cases c : m1 = k ∧ r1 = x
                      · obtain ⟨rfl, rfl⟩ := c
                        subst z4
                        exact Or.inr ⟨rfl, z5⟩
                      · exact Or.inl ⟨m1, r1, by omega, z2, z3, z4, z5⟩
                    · exact ⟨q1, q2, by rw [fr_at 204 60 oj5 rfl]; exact q3, q4, q5⟩
                  · rw [nI_1]
                    refine ih3 (x + 1) _ J2 R2 (by omega) o4 oj2 (wzB_ext b2 (fun m v hv => ⟨fun z => ?_, fun z => ?_⟩)) r4
                    · obtain ⟨m1, r1, z1, z2, z3, z4, z5⟩ := z
                      exact ⟨m1, r1, by omega, z2, z3, z4, z5⟩
                    · obtain ⟨m1, r1, z1, z2, z3, z4, z5⟩ := z
                      by_cases c : m1 = k ∧ r1 = x
                      · exfalso
                        obtain ⟨rfl, rfl⟩ := c
                        subst z4
                        exact nv (wzV_congr hv z5)
                      · exact ⟨m1, r1, by omega, z2, z3, z4, z5⟩
                | succ y ihy =>
                  intro I3 hy o3 r3 f0 fi
                  have xb : x / L ^ (k - 2 - (y + 1)) < 2147483648 := Nat.lt_of_le_of_lt (Nat.div_le_self _ _) (by omega)
                  have ed : nI (x / L ^ (k - 2 - (y + 1))) / nI L = nI (x / L ^ (k - 2 - y)) := by
                    rw [nI_div xb (by omega) (by omega), Nat.div_div_eq_div_mul, show k - 2 - y = (k - 2 - (y + 1)) + 1 by omega, Nat.pow_succ]
                  have em : nI (x / L ^ (k - 2 - (y + 1))) - nI (x / L ^ (k - 2 - y)) * nI L = nI (wzw L fr to k x (y + 1)) := by
                    have : wzw L fr to k x (y + 1) = x / L ^ (k - 2 - (y + 1)) % L := by
                      unfold wzw
                      rw [if_neg (by omega), if_neg (by omega)]
                    rw [this, nI_mul, show x / L ^ (k - 2 - y) = x / L ^ (k - 2 - (y + 1)) / L by rw [Nat.div_div_eq_div_mul, show k - 2 - y = (k - 2 - (y + 1)) + 1 by omega, Nat.pow_succ]]
                    generalize x / L ^ (k - 2 - (y + 1)) = z at xb ⊢
                    rw [nI_sub (Nat.div_mul_le_self z L) xb]
                    have := Nat.div_add_mod z L
                    rw [Nat.mul_comm] at this
                    exact congrArg nI (by omega)
                  apply hV69
                  unfold wb_X12_finds_69_8_20_45
                  have l6' : I3 204 6 = nI L := by rw [fr_at 204 6 o3 rfl]; exact hl
                  rw [l6', ed, em, nI_clamp (show y + 1 < 2 ^ 31 by omega), nI_p1]
                  refine ⟨fun z => ?_, fun _ => ⟨nzL, nI_in2 (by omega) (by decide), nzL, ?_⟩⟩
                  · rw [Int32.le_iff_toInt_le, nI_toInt (by omega)] at z
                    have z : ((y + 1 : Nat) : Int) ≤ 0 := z
                    omega
                  · refine ihy _ (by omega) (fr_putn rfl (by omega) o3) (wzQ_fr r3 (u2_c (by decide)) (u2_c (by decide)) (u2_r (by decide))) (by rw [u2_j (by omega)]; exact f0) (fun i h1 h2 => ?_)
                    by_cases c : i = y + 1
                    · subst c; exact u2_s
                    · rw [u2_j c]; exact fi i (by omega) h2
              have k69 := key69 (k - 2) (ix_u2 I2 243 0 (nI fr)) (by omega) (fr_put rfl o2) (wzQ_fr r2 (u2_c (by decide)) (u2_c (by decide)) (u2_r (by decide))) u2_s (fun i h1 h2 => by omega)
              rw [Nat.sub_self, Nat.pow_zero, Nat.div_one] at k69
              exact k69
          exact key45 (L ^ (k - 2)) 0 I1 J1 R (by omega) o oj b r
        | succ m2 ih2 =>
          intro k hk k2
          have nxt := ih2 (k + 1) (by omega) (by omega)
          rw [show k + 1 - 2 = (k - 2) + 1 by omega, Nat.pow_succ] at nxt
          apply hV20
          unfold wb_X12_finds_20_8
          rw [l6, nI_mul, nI_1]
          exact ⟨fun _ => nxt, fun z => absurd (nI_lt (by omega) (by omega)) z⟩
      exact key20 (n - 2) 2 (by omega) (by omega)
  refine key8 4 2 _ J none (by omega) (by omega) (fr_put rfl fr_refl) fr_refl (fun m v hv z => ?_) u2_s
  obtain ⟨m1, r1, z1, z2, z3, z4, z5⟩ := z
  omega
