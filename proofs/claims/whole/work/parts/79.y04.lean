/-! treaties: the reference tells the next token -/
def yct (k : Int32) : Int32 := if k = 21 then 0 else if k = 22 then 1 else if k = 20 then 3 else if k ≤ 19 then 2 else 4
theorem yby_m1 : ∀ a : Fin 4, ∀ r : Fin 64, (fun x : Int32 => yB (x &&& 255) = yB x ∧ yL (x &&& 255) = yL x ∧ yD (x &&& 255) = yD x ∧ yS (x &&& 255) = yS x ∧ ¬ (x &&& 255) = -1 ∧ (yL x = true → x &&& 255 = x) ∧ (yD x = true → x &&& 255 = x) ∧ (yS x = true → x &&& 255 = x) ∧ (yL x = true → yS x = false) ∧ (yS x = true → yct x = 4)) (nI (64 * a.1 + r.1)).toInt8.toInt32 := by decide +kernel
theorem yby_m {x : Int32} (h : x.toInt8.toInt32 = x) : yB (x &&& 255) = yB x ∧ yL (x &&& 255) = yL x ∧ yD (x &&& 255) = yD x ∧ yS (x &&& 255) = yS x ∧ ¬ (x &&& 255) = -1 ∧ (yL x = true → x &&& 255 = x) ∧ (yD x = true → x &&& 255 = x) ∧ (yS x = true → x &&& 255 = x) ∧ (yL x = true → yS x = false) ∧ (yS x = true → yct x = 4) := by
  obtain ⟨i, e⟩ := yby_i h
  have := yby_m1 ⟨i.1 / 64, by omega⟩ ⟨i.1 % 64, by omega⟩
  simp only [show 64 * (i.1 / 64) + i.1 % 64 = i.1 by omega] at this
  rw [← e] at this
  exact this
theorem ygS {x : Int32} {I : Nat → Nat → Int32} {J : Nat → Nat → Int64} {T : Option Nat} {P : Int32 → (Nat → Nat → Int32) → (Nat → Nat → Int64) → Option Nat → Prop} (h1 : yL x = true → P 1 I J T) (h0 : yL x = false → P 0 I J T) : wp_X12_isSmall x I J T P := yfL h1 h0
theorem ygD {x : Int32} {I : Nat → Nat → Int32} {J : Nat → Nat → Int64} {T : Option Nat} {P : Int32 → (Nat → Nat → Int32) → (Nat → Nat → Int64) → Option Nat → Prop} (h1 : yD x = true → P 1 I J T) (h0 : yD x = false → P 0 I J T) : wp_X12_isDigit x I J T P := yfD h1 h0
def ytx (b : Nat → Int32) (n : Nat) (I : Nat → Nat → Int32) : Prop := n ≤ 600 ∧ (I 204 16 = nI n ∧ I 204 21 = -1) ∧ ∀ q, q < n → I 214 q = b q ∧ (b q).toInt8.toInt32 = b q
theorem ytx_fr {b : Nat → Int32} {n : Nat} {I I2 : Nat → Nat → Int32} {D : List fr_R} (o : fr_off D I I2) (h : ytx b n I) (d1 : (fr_in D 204 16 || fr_in D 204 21) = false) (d2 : fr_rw D 214 215 = true) : ytx b n I2 := by
  rw [Bool.or_eq_false_iff] at d1
  refine ⟨h.1, ⟨?_, ?_⟩, fun q hq => ?_⟩
  · rw [fr_at 204 16 o d1.1]; exact h.2.1.1
  · rw [fr_at 204 21 o d1.2]; exact h.2.1.2
  · rw [fr_rw1 o 214 d2]; exact h.2.2 q hq
theorem yga {b : Nat → Int32} {n p : Nat} {I : Nat → Nat → Int32} {J : Nat → Nat → Int64} {T : Option Nat} {P : Int32 → (Nat → Nat → Int32) → (Nat → Nat → Int64) → Option Nat → Prop} (hx : ytx b n I) (hp : p ≤ n) (h1 : p < n → P (b p &&& 255) I J T) (h0 : p = n → P (-1) I J T) : wp_X12_at (nI p) I J T P := by
  obtain ⟨hn, ⟨h16, -⟩, hb⟩ := hx
  unfold wp_X12_at
  rw [h16, nI_clamp (show p < 2 ^ 31 by omega)]
  refine ⟨fun g => ?_, fun g => ?_⟩
  · have g : p < n := (yi_lt (by omega) (by omega)).mp g
    rw [(hb p g).1]
    exact ⟨nI_in2 (by omega) (by decide), h1 g⟩
  · refine h0 ?_
    by_cases c : p < n
    · exact absurd ((yi_lt (by omega) (by omega)).mpr c) g
    · omega
/-- the reference holds the token that begins at s -/
def ymt (b : Nat → Int32) (n s : Nat) (I : Nat → Nat → Int32) (J : Nat → Nat → Int64) : Prop := I 204 18 = nI s ∧ I 204 19 = nI (yen b n s) ∧ I 204 17 = yct (ykd b n s) ∧ (ykd b n s = 20 → J 204 23 = lZ (ynm (ydg b) 10 (yen b n s - s) s 0 : Nat)) ∧ (yS (ykd b n s) = true → J 204 23 = (ykd b n s).toInt64)
theorem yct_w {j : Nat} (hj : j ≤ 19) : yct (nI j) = 2 := by
  have h : ∀ j : Fin 20, yct (nI j.1) = 2 := by decide +kernel
  exact h ⟨j, by omega⟩
theorem yS_w {j : Nat} (hj : j ≤ 19) : yS (nI j) = false ∧ ¬ nI j = 20 := by
  have h : ∀ j : Fin 20, yS (nI j.1) = false ∧ ¬ nI j.1 = 20 := by decide +kernel
  exact h ⟨j, by omega⟩
theorem ydg_w1 : ∀ j : Fin 10, (nI (48 + j.1)).toInt64 - 48 = lZ ((((nI (48 + j.1)).toInt - 48).toNat % 10 : Nat) : Int) := by decide +kernel
theorem ydg_w {b : Nat → Int32} {p : Nat} (h : yD (b p) = true) : (b p).toInt64 = lZ (ydg b p : Nat) + 48 := by
  obtain ⟨j, hj, e⟩ := yD_j h
  have := ydg_w1 ⟨j, hj⟩
  unfold ydg
  rw [e, ← this]
  exact (Int64.sub_add_cancel _ _).symm
theorem yg_nx {b : Nat → Int32} {n p : Nat} {I : Nat → Nat → Int32} {J : Nat → Nat → Int64} {T : Option Nat} {P : (Nat → Nat → Int32) → (Nat → Nat → Int64) → Option Nat → Prop} (hx : ytx b n I) (hp : p ≤ n) (e19 : I 204 19 = nI p) (hP : ∀ I2 J2, fr_off [(204, 205, 17, 20)] I I2 → fr_off [(204, 205, 23, 24)] J J2 → ymt b n (ypl b n p) I2 J2 → P I2 J2 T) : wp_X12_next I J T P := by
  have hn := hx.1
  unfold wp_X12_next
  intro V hV
  have hpl := ypl_ge b hp
  have key : ∀ r q I1, q + r = ypl b n p → p ≤ q → ypl b n q = ypl b n p → fr_off [(204, 205, 17, 20)] I I1 → I1 204 19 = nI q → V I1 J T := by
    intro r
    induction r with
    | zero =>
      intro q I1 hq hpq hr o1 e1
      have hq : q = ypl b n p := by omega
      have x1 := ytx_fr o1 hx rfl rfl
      rw [← hq] at hP hr hpl
      clear hq
      apply hV
      unfold wb_X12_next_0
      rw [e1]
      refine yga x1 hpl.2 (fun g => ?_) (fun g => ?_)
      · have by1 := (x1.2.2 q g).2
        obtain ⟨m1, m2, m3, m4, m5, m6, m7, m8, m9, m10⟩ := yby_m by1
        have nb : yB (b q) = false := by
          have := yR_out (f := fun q => yB (b q)) (m := n - q) (p := q) (by
            have : yR (fun q => yB (b q)) (n - q) q = q := hr
            omega)
          have e : yR (fun q => yB (b q)) (n - q) q = q := hr
          rw [e] at this
          exact this
        rw [← m1] at nb
        unfold yB at nb
        simp only [Bool.or_eq_false_iff, decide_eq_false_iff_not] at nb
        refine ⟨fun z => absurd z nb.1, fun _ => ?_⟩
        rw [e1]
        refine yga x1 hpl.2 (fun _ => ⟨fun z => absurd z nb.2, fun _ => ?_⟩) (fun y => absurd y (by omega))
        have o2 : fr_off [(204, 205, 17, 20)] I (ix_u2 I1 204 18 (nI q)) := fr_put rfl o1
        have x2 := ytx_fr o2 hx rfl rfl
        have e2 : (ix_u2 I1 204 18 (nI q)) 204 19 = nI q := by simp [u2_e, e1]
        rw [e1]
        refine yga x2 hpl.2 (fun _ => ⟨fun z => absurd z m5, fun _ => ?_⟩) (fun y => absurd y (by omega))
        have ek : ykd b n q = if yL (b q) then nI (ywk b q (yen b n q)) else if yD (b q) then (if yen b n q - q ≤ 7 then 20 else 22) else if yS (b q) then b q else 22 := by unfold ykd; rw [if_neg (by omega)]
        have hE := yen_ge b hpl.2
        have hG := yen_gt b g
        have j2 : ∀ v, fr_off [(204, 205, 23, 24)] J (ix_u2 J 204 23 v) := fun v => fr_put rfl fr_refl
        refine ygS (fun y => ⟨fun z => absurd z (by decide), fun _ => ?_⟩) (fun y => ⟨fun _ => ygD (fun d => ⟨fun z => absurd z (by decide), fun _ => ?_⟩) (fun d => ⟨fun _ => ?_, fun z => absurd rfl z⟩), fun z => absurd rfl z⟩)
        · -- a word
          rw [m2] at y
          rw [y, if_pos rfl] at ek
          have eE : yen b n q = yR (fun q => yL (b q)) (n - q) q := by unfold yen; rw [if_neg (by omega), if_pos y]
          have hi : ∀ k, q ≤ k → k < yen b n q → yL (b k) = true := fun k h1 h2 => by
            rw [eE] at h2
            exact yR_in h1 h2
          have ho : yen b n q < n → yL (b (yen b n q)) = false := fun h => by
            rw [eE] at h ⊢
            exact yR_out (f := fun q => yL (b q)) (by omega)
          intro U hU
          have k2 : ∀ m k I2, k + m = yen b n q → q ≤ k → fr_off [(204, 205, 17, 20)] I I2 → I2 204 18 = nI q → I2 204 19 = nI k → U I2 (ix_u2 J 204 23 (b q &&& 255).toInt64) T := by
            intro m
            induction m with
            | zero =>
              intro k I2 hk hqk o3 e18 e19
              have hk : k = yen b n q := by omega
              subst hk
              have x3 := ytx_fr o3 hx rfl rfl
              have fin : P (ix_u2 I2 204 17 2) (ix_u2 J 204 23 (b q &&& 255).toInt64) T := by
                have hw := ywk_le b q (yen b n q)
                refine hP _ _ (fr_put rfl o3) (j2 _) ⟨by simp [u2_e, e18], by simp [u2_e, e19], ?_, fun z => ?_, fun z => ?_⟩
                · rw [ek, yct_w hw]; simp [u2_e]
                · rw [ek] at z
                  exact absurd z (yS_w hw).2
                · rw [ek, (yS_w hw).1] at z
                  cases z
              apply hU
              unfold wb_X12_next_82_0
              rw [e19]
              refine yga x3 hE.2 (fun g2 => ?_) (fun _ => ?_)
              · refine ygS (fun y2 => ?_) (fun _ => ⟨fun _ => fin, fun z => absurd rfl z⟩)
                rw [(yby_m (x3.2.2 _ g2).2).2.1, ho g2] at y2
                cases y2
              · refine ygS (fun y2 => absurd y2 (by decide)) (fun _ => ⟨fun _ => fin, fun z => absurd rfl z⟩)
            | succ m im =>
              intro k I2 hk hqk o3 e18 e19
              have x3 := ytx_fr o3 hx rfl rfl
              apply hU
              unfold wb_X12_next_82_0
              rw [e19]
              refine yga x3 (by omega) (fun g2 => ?_) (fun z => by omega)
              refine ygS (fun _ => ⟨fun z => absurd z (by decide), fun _ => ?_⟩) (fun y2 => ?_)
              · rw [e19, nI_1]
                exact im (k + 1) _ (by omega) (by omega) (fr_put rfl o3) (by simp [u2_e, e18]) (by simp [u2_e])
              · rw [(yby_m (x3.2.2 _ g2).2).2.1, hi k hqk (by omega)] at y2
                cases y2
          exact k2 (yen b n q - q) q _ (by omega) (Nat.le_refl _) o2 (by simp [u2_e]) e2
        · -- a number
          rw [m2] at y
          rw [m3] at d
          rw [y, if_neg (by decide), d, if_pos rfl] at ek
          have eE : yen b n q = yR (fun q => yD (b q)) (n - q) q := by unfold yen; rw [if_neg (by omega), y, if_neg (by decide), if_pos d]
          have hi : ∀ k, q ≤ k → k < yen b n q → yD (b k) = true := fun k h1 h2 => by
            rw [eE] at h2
            exact yR_in h1 h2
          have ho : yen b n q < n → yD (b (yen b n q)) = false := fun h => by
            rw [eE] at h ⊢
            exact yR_out (f := fun q => yD (b q)) (by omega)
          intro U hU
          have k2 : ∀ m k I2 J2, k + m = yen b n q → q ≤ k → fr_off [(204, 205, 17, 20)] I I2 → fr_off [(204, 205, 23, 24)] J J2 → I2 204 18 = nI q → I2 204 19 = nI k → (k - q ≤ 7 → J2 204 23 = lZ (ynm (ydg b) 10 (k - q) q 0 : Nat)) → U I2 J2 T := by
            intro m
            induction m with
            | zero =>
              intro k I2 J2 hk hqk o3 r3 e18 e19 ev
              have hk : k = yen b n q := by omega
              subst hk
              have x3 := ytx_fr o3 hx rfl rfl
              have fin : (nI (yen b n q) - nI q ≤ 7 → P (ix_u2 I2 204 17 3) J2 T) ∧ (¬ nI (yen b n q) - nI q ≤ 7 → P (ix_u2 I2 204 17 1) J2 T) := by
                rw [nI_sub (by omega) (by omega)]
                refine ⟨fun g7 => ?_, fun g7 => ?_⟩
                · have g7 : yen b n q - q ≤ 7 := (yi_le (b := 7) (by omega) (by omega)).mp g7
                  rw [if_pos g7] at ek
                  refine hP _ _ (fr_put rfl o3) r3 ⟨by simp [u2_e, e18], by simp [u2_e, e19], ?_, fun _ => ev g7, fun z => ?_⟩
                  · rw [ek]; simp [u2_e]; decide
                  · rw [ek] at z; exact absurd z (by decide)
                · have g7 : ¬ yen b n q - q ≤ 7 := fun c => g7 ((yi_le (b := 7) (by omega) (by omega)).mpr c)
                  rw [if_neg g7] at ek
                  refine hP _ _ (fr_put rfl o3) r3 ⟨by simp [u2_e, e18], by simp [u2_e, e19], ?_, fun z => ?_, fun z => ?_⟩
                  · rw [ek]; simp [u2_e]; decide
                  · rw [ek] at z; exact absurd z (by decide)
                  · rw [ek] at z; exact absurd z (by decide)
              apply hU
              unfold wb_X12_next_129_0
              rw [e19]
              refine yga x3 hE.2 (fun g2 => ?_) (fun _ => ?_)
              · refine ygD (fun y2 => ?_) (fun _ => ⟨fun _ => ?_, fun z => absurd rfl z⟩)
                · rw [(yby_m (x3.2.2 _ g2).2).2.2.1, ho g2] at y2
                  cases y2
                · rw [e19, e18]; exact fin
              · refine ygD (fun y2 => absurd y2 (by decide)) (fun _ => ⟨fun _ => ?_, fun z => absurd rfl z⟩)
                rw [e19, e18]; exact fin
            | succ m im =>
              intro k I2 J2 hk hqk o3 r3 e18 e19 ev
              have x3 := ytx_fr o3 hx rfl rfl
              have dk := hi k hqk (by omega)
              apply hU
              unfold wb_X12_next_129_0
              rw [e19]
              refine yga x3 (by omega) (fun g2 => ?_) (fun z => by omega)
              refine ygD (fun _ => ⟨fun z => absurd z (by decide), fun _ => ?_⟩) (fun y2 => ?_)
              · rw [e19]
                refine yga x3 (by omega) (fun _ => ?_) (fun z => by omega)
                rw [(yby_m (x3.2.2 _ g2).2).2.2.2.2.2.2.1 dk, ydg_w dk]
                unfold wp_J9_min_f86c9
                dsimp only
                rw [e19, nI_1, lgc_le]
                have go : ∀ v : Int64, (k + 1 - q ≤ 7 → v = lZ (ynm (ydg b) 10 (k + 1 - q) q 0 : Nat)) → U (ix_u2 I2 204 19 (nI (k + 1))) (ix_u2 J2 204 23 v) T := fun v hv => im (k + 1) _ _ (by omega) (by omega) (fr_put rfl o3) (fr_put rfl r3) (by simp [u2_e, e18]) (by simp [u2_e]) (fun c => by rw [← hv c]; simp [u2_e])
                have nv : k + 1 - q ≤ 7 → (10 * J2 204 23 + (lZ (ydg b k : Nat) + 48)) - 48 = lZ (ynm (ydg b) 10 (k + 1 - q) q 0 : Nat) := fun c => by
                  rw [ev (by omega), show k + 1 - q = (k - q) + 1 by omega, ynm_sn, show (10 : Int64) = lZ 10 from rfl, show (48 : Int64) = lZ 48 from rfl, lZ_mul, lZ_add, lZ_add, lZ_sub, show q + (k - q) = k by omega]
                  congr 1
                  simp only [Int.natCast_add, Int.natCast_mul]
                  omega
                have lt : k + 1 - q ≤ 7 → ynm (ydg b) 10 (k + 1 - q) q 0 < 10000000 := fun c => by
                  have h1 := ynm_lt (g := ydg b) (B := 10) (fun j => Nat.mod_lt _ (by decide)) (k + 1 - q) q
                  have h2 : 10 ^ (k + 1 - q) ≤ 10 ^ 7 := Nat.pow_le_pow_right (by decide) c
                  omega
                refine ⟨fun z => go _ (fun c => ?_), fun z => go _ nv⟩
                have z2 := z
                rw [nv c, show (100000000 : Int64) = lZ 100000000 from rfl, lZ_le (by omega) (by have := lt c; omega)] at z2
                have := lt c
                omega
              · rw [(yby_m (x3.2.2 _ g2).2).2.2.1, dk] at y2
                cases y2
          exact k2 (yen b n q - q) q _ _ (by omega) (Nat.le_refl _) o2 (fr_put rfl (j2 _)) (by simp [u2_e]) e2 (fun _ => by rw [Nat.sub_self]; simp [u2_e]; rfl)
        · -- a sign
          rw [m2] at y
          rw [m3] at d
          rw [y, if_neg (by decide), d, if_neg (by decide)] at ek
          have ee : yen b n q = q + 1 := by unfold yen; rw [if_neg (by omega), y, if_neg (by decide), d, if_neg (by decide)]
          rw [e2, nI_1]
          have yes : yS (b q) = true → P (ix_u2 (ix_u2 (ix_u2 I1 204 18 (nI q)) 204 19 (nI (q + 1))) 204 17 4) (ix_u2 J 204 23 (b q &&& 255).toInt64) T := fun s => by
            rw [s, if_pos rfl] at ek
            refine hP _ _ (fr_put rfl (fr_put rfl o2)) (j2 _) ⟨by simp [u2_e], by rw [ee]; simp [u2_e], ?_, fun z => ?_, fun _ => ?_⟩
            · rw [ek, m10 s]; simp [u2_e]
            · rw [ek] at z
              rw [z] at s
              exact absurd s (by decide)
            · rw [ek, m8 s]; simp [u2_e]
          have n0 : yS (b q) = false → P (ix_u2 (ix_u2 (ix_u2 I1 204 18 (nI q)) 204 19 (nI (q + 1))) 204 17 1) (ix_u2 J 204 23 (b q &&& 255).toInt64) T := fun s => by
            rw [s, if_neg (by decide)] at ek
            refine hP _ _ (fr_put rfl (fr_put rfl o2)) (j2 _) ⟨by simp [u2_e], by rw [ee]; simp [u2_e], ?_, fun z => ?_, fun z => ?_⟩
            · rw [ek]; simp [u2_e]; decide
            · rw [ek] at z; exact absurd z (by decide)
            · rw [ek] at z; exact absurd z (by decide)
          have ys : ∀ x : Int32, yS x = true → (b q &&& 255) = x → yS (b q) = true := fun x h1 h2 => by rw [← m4, h2]; exact h1
          exact ⟨fun z => yes (ys _ (by decide) z), fun c58 => ⟨fun z => yes (ys _ (by decide) z), fun c59 => ⟨fun z => yes (ys _ (by decide) z), fun c44 => ⟨fun z => yes (ys _ (by decide) z), fun c60 => ⟨fun z => yes (ys _ (by decide) z), fun c62 => ⟨fun z => yes (ys _ (by decide) z), fun c61 => ⟨fun z => yes (ys _ (by decide) z), fun c43 => ⟨fun z => yes (ys _ (by decide) z), fun c45 => ⟨fun z => yes (ys _ (by decide) z), fun c42 => ⟨fun z => yes (ys _ (by decide) z), fun c47 => ⟨fun z => yes (ys _ (by decide) z), fun c40 => ⟨fun z => yes (ys _ (by decide) z), fun c41 => n0 (by rw [← m4]; unfold yS; rw [decide_eq_false c58, decide_eq_false c59, decide_eq_false c44, decide_eq_false c60, decide_eq_false c62, decide_eq_false c61, decide_eq_false c43, decide_eq_false c45, decide_eq_false c42, decide_eq_false c47, decide_eq_false c40, decide_eq_false c41]; rfl)⟩⟩⟩⟩⟩⟩⟩⟩⟩⟩⟩⟩
      · -- the end
        refine ⟨fun z => absurd z (by decide), fun _ => ?_⟩
        rw [e1]
        refine yga x1 hpl.2 (fun y => absurd y (by omega)) (fun _ => ⟨fun z => absurd z (by decide), fun _ => ?_⟩)
        have o2 : fr_off [(204, 205, 17, 20)] I (ix_u2 I1 204 18 (nI q)) := fr_put rfl o1
        have x2 := ytx_fr o2 hx rfl rfl
        rw [e1]
        refine yga x2 hpl.2 (fun y => absurd y (by omega)) (fun _ => ⟨fun _ => ?_, fun z => absurd rfl z⟩)
        have ek : ykd b n q = 21 := by unfold ykd; rw [if_pos (by omega)]
        have ee : yen b n q = q := by unfold yen; rw [if_pos (by omega)]
        refine hP _ _ (fr_put rfl o2) (fr_put rfl fr_refl) ⟨by simp [u2_e], by rw [ee]; simp [u2_e, e1], ?_, fun z => ?_, fun z => ?_⟩
        · rw [ek]; simp [u2_e]; decide
        · rw [ek] at z; exact absurd z (by decide)
        · rw [ek] at z; exact absurd z (by decide)
    | succ r ih =>
      intro q I1 hq hpq hr o1 e1
      have x1 := ytx_fr o1 hx rfl rfl
      have g : q < n := by omega
      have bl : yB (b q) = true := yR_in (f := fun q => yB (b q)) (m := n - q) (p := q) (Nat.le_refl _) (by
        have e : yR (fun q => yB (b q)) (n - q) q = ypl b n p := hr
        omega)
      have hq2 : ypl b n (q + 1) = ypl b n p := by
        rw [← hr]
        exact (yR_st (f := fun q => yB (b q)) g bl).symm
      have nx : V (ix_u2 I1 204 19 (nI (q + 1))) J T := ih (q + 1) _ (by omega) (by omega) hq2 (fr_put rfl o1) (by simp [u2_e])
      apply hV
      unfold wb_X12_next_0
      rw [e1]
      refine yga x1 (by omega) (fun _ => ⟨fun _ => ?_, fun c1 => ?_⟩) (fun y => by omega)
      · rw [e1, nI_1]; exact nx
      · rw [e1]
        refine yga x1 (by omega) (fun _ => ⟨fun _ => ?_, fun c2 => ?_⟩) (fun y => by omega)
        · rw [e1, nI_1]; exact nx
        · exfalso
          rw [← (yby_m (x1.2.2 q g).2).1] at bl
          unfold yB at bl
          rw [decide_eq_false c1, decide_eq_false c2] at bl
          cases bl
  exact key (ypl b n p - p) p I (by omega) (Nat.le_refl _) rfl fr_refl e19
