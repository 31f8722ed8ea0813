/-! treaties: the reference reads a sum -/
theorem yct_1 {k : Int32} : yct k = 1 ↔ k = 22 := by
  unfold yct
  constructor
  · intro h
    split at h
    · exact absurd h (by decide)
    · split at h
      · assumption
      · split at h
        · exact absurd h (by decide)
        · split at h <;> exact absurd h (by decide)
  · intro h; rw [h]; decide
theorem yct_3 {k : Int32} : yct k = 3 ↔ k = 20 := by
  unfold yct
  constructor
  · intro h
    split at h
    · exact absurd h (by decide)
    · split at h
      · exact absurd h (by decide)
      · split at h
        · assumption
        · split at h <;> exact absurd h (by decide)
  · intro h; rw [h]; decide
theorem yk4_m {k : Int32} : yk4 k = -1 ↔ ¬ (11 ≤ k ∧ k ≤ 17) := by
  unfold yk4
  by_cases h1 : k ≤ 10
  · rw [if_pos h1]
    refine ⟨fun _ z => ?_, fun _ => rfl⟩
    have z := z.1
    rw [Int32.le_iff_toInt_le] at h1 z
    have h1 : k.toInt ≤ 10 := h1
    have z : (11 : Int) ≤ k.toInt := z
    omega
  · rw [if_neg h1]
    have g : (11 : Int32) ≤ k := by
      rw [Int32.le_iff_toInt_le] at h1 ⊢
      have h1 : ¬ k.toInt ≤ 10 := h1
      show (11 : Int) ≤ k.toInt
      omega
    by_cases h2 : k ≤ 17
    · rw [if_pos h2]
      refine ⟨fun z => ?_, fun z => absurd ⟨g, h2⟩ z⟩
      obtain ⟨j, hj, e⟩ := y_var g h2
      have t : ∀ j : Fin 7, ¬ nI (11 + j.1) - 11 = -1 := by decide +kernel
      rw [e] at z
      exact absurd z (t ⟨j, hj⟩)
    · rw [if_neg h2]
      exact ⟨fun _ z => h2 z.2, fun _ => rfl⟩
theorem yk4_v {k : Int32} (h : 11 ≤ k ∧ k ≤ 17) : yk4 k = k - 11 := by
  obtain ⟨j, hj, e⟩ := y_var h.1 h.2
  have t : ∀ j : Fin 7, yk4 (nI (11 + j.1)) = nI (11 + j.1) - 11 := by decide +kernel
  rw [e]
  exact t ⟨j, hj⟩
/-- the reference within a treaty: at token c, the signs o behind the S old ones -/
def yM1 (b : Nat → Int32) (n S : Nat) (r : Nat → Int32) (rj : Nat → Int64) (c : Nat) (o : List YG) (I : Nat → Nat → Int32) (J : Nat → Nat → Int64) : Prop :=
  ytx b n I ∧ ymt b n (yps b n c) I J ∧ I 204 22 = 0 ∧ I 204 44 = nI (S + o.length) ∧ (∀ i x, o[i]? = some x → I 232 (S + i) = x.1 ∧ J 233 (S + i) = x.2) ∧ ∀ j, j < S → I 232 j = r j ∧ J 233 j = rj j
theorem yM1_fr {b : Nat → Int32} {n S c : Nat} {r : Nat → Int32} {rj : Nat → Int64} {o : List YG} {I I2 : Nat → Nat → Int32} {J J2 : Nat → Nat → Int64} {D E : List fr_R} (h : yM1 b n S r rj c o I J) (o1 : fr_off D I I2) (o2 : fr_off E J J2) (d : ((!(fr_in D 204 16 || fr_in D 204 21)) && ((!fr_in D 204 17) && ((!fr_in D 204 18) && ((!fr_in D 204 19) && ((!fr_in D 204 22) && ((!fr_in D 204 44) && (fr_rw D 214 215 && fr_rw D 232 233))))))) = true) (e : ((!fr_in E 204 23) && fr_rw E 233 234) = true) : yM1 b n S r rj c o I2 J2 := by
  simp only [Bool.and_eq_true, Bool.not_eq_true'] at d e
  obtain ⟨d0, d1, d2, d3, d4, d5, d6, d7⟩ := d
  obtain ⟨x, ⟨m1, m2, m3, m4, m5⟩, f, s, l, w⟩ := h
  refine ⟨ytx_fr o1 x d0 d6, ⟨?_, ?_, ?_, ?_, ?_⟩, ?_, ?_, ?_, ?_⟩
  · rw [fr_at 204 18 o1 d2]; exact m1
  · rw [fr_at 204 19 o1 d3]; exact m2
  · rw [fr_at 204 17 o1 d1]; exact m3
  · rw [fr_at 204 23 o2 e.1]; exact m4
  · rw [fr_at 204 23 o2 e.1]; exact m5
  · rw [fr_at 204 22 o1 d4]; exact f
  · rw [fr_at 204 44 o1 d5]; exact s
  · rw [fr_rw1 o1 232 d7, fr_rw1 o2 233 e.2]; exact l
  · rw [fr_rw1 o1 232 d7, fr_rw1 o2 233 e.2]; exact w
theorem yM_nx {b : Nat → Int32} {n S c : Nat} {r : Nat → Int32} {rj : Nat → Int64} {o : List YG} {I : Nat → Nat → Int32} {J : Nat → Nat → Int64} {T : Option Nat} {P : (Nat → Nat → Int32) → (Nat → Nat → Int64) → Option Nat → Prop} (h : yM1 b n S r rj c o I J) (hP : ∀ I2 J2, fr_off [(204, 205, 17, 20)] I I2 → fr_off [(204, 205, 23, 24)] J J2 → yM1 b n S r rj (c + 1) o I2 J2 → P I2 J2 T) : wp_X12_next I J T P := by
  obtain ⟨x, m, f, s, l, w⟩ := h
  refine yg_nx x (ye_le b n c).2 m.2.1 (fun I2 J2 o1 o2 m2 => hP I2 J2 o1 o2 ⟨ytx_fr o1 x rfl rfl, m2, ?_, ?_, ?_, ?_⟩)
  · rw [fr_at 204 22 o1 rfl]; exact f
  · rw [fr_at 204 44 o1 rfl]; exact s
  · rw [fr_rw1 o1 232 rfl, fr_rw1 o2 233 rfl]; exact l
  · rw [fr_rw1 o1 232 rfl, fr_rw1 o2 233 rfl]; exact w
theorem yM_pt {b : Nat → Int32} {n S c : Nat} {r : Nat → Int32} {rj : Nat → Int64} {o : List YG} {a0 : Int32} {a1 : Int64} {I : Nat → Nat → Int32} {J : Nat → Nat → Int64} {T : Option Nat} {P : (Nat → Nat → Int32) → (Nat → Nat → Int64) → Option Nat → Prop} (h : yM1 b n S r rj c o I J) (hS : S + o.length < 3500) (hP : ∀ I2 J2, fr_off [(204, 205, 44, 45), (232, 233, 0, 2147483648)] I I2 → fr_off [(233, 234, 0, 2147483648)] J J2 → yM1 b n S r rj c (o ++ [(a0, a1)]) I2 J2 → P I2 J2 T) : wp_X12_puts a0 a1 I J T P := by
  have h0 := h
  obtain ⟨x, m, f, s, l, w⟩ := h
  unfold wp_X12_puts
  rw [s, nI_clamp (show S + o.length < 2 ^ 31 by omega), nI_1]
  have o1 : fr_off [(204, 205, 44, 45), (232, 233, 0, 2147483648)] I (ix_u2 (ix_u2 I 232 (S + o.length) a0) 204 44 (nI (S + o.length + 1))) := fr_put rfl (fr_putn rfl (by omega) fr_refl)
  have o2 : fr_off [(233, 234, 0, 2147483648)] J (ix_u2 J 233 (S + o.length) a1) := fr_putn rfl (by omega) fr_refl
  refine ⟨nI_in2 hS (by decide), nI_in2 hS (by decide), hP _ _ o1 o2 ⟨ytx_fr o1 x rfl rfl, ⟨?_, ?_, ?_, ?_, ?_⟩, ?_, ?_, ?_, ?_⟩⟩
  · rw [fr_at 204 18 o1 rfl]; exact m.1
  · rw [fr_at 204 19 o1 rfl]; exact m.2.1
  · rw [fr_at 204 17 o1 rfl]; exact m.2.2.1
  · rw [fr_at 204 23 o2 rfl]; exact m.2.2.2.1
  · rw [fr_at 204 23 o2 rfl]; exact m.2.2.2.2
  · rw [fr_at 204 22 o1 rfl]; exact f
  · rw [List.length_append, List.length_singleton, ← Nat.add_assoc]
    simp [u2_e]
  · intro i y hy
    by_cases e : i < o.length
    · rw [List.getElem?_append_left e] at hy
      obtain ⟨q1, q2⟩ := l i y hy
      have ne : S + i ≠ S + o.length := by omega
      refine ⟨?_, ?_⟩
      · rw [u2_c (by decide), u2_j ne]; exact q1
      · rw [u2_j ne]; exact q2
    · rw [List.getElem?_append_right (by omega)] at hy
      have : i = o.length := by
        have := (List.getElem?_eq_some_iff.mp hy).1
        rw [List.length_singleton] at this
        omega
      subst this
      rw [Nat.sub_self] at hy
      have hy : (a0, a1) = y := Option.some.inj hy
      rw [← hy]
      simp [u2_e]
  · intro j hj
    have ne : j ≠ S + o.length := by omega
    obtain ⟨q1, q2⟩ := w j hj
    refine ⟨?_, ?_⟩
    · rw [u2_c (by decide), u2_j ne]; exact q1
    · rw [u2_j ne]; exact q2
def yft (b : Nat → Int32) (n c : Nat) (k : Int32) : Int32 := if yk b n c = 22 then 1 else k
theorem yM_fl {b : Nat → Int32} {n S c : Nat} {r : Nat → Int32} {rj : Nat → Int64} {o : List YG} {k : Int32} {I : Nat → Nat → Int32} {J : Nat → Nat → Int64} {T : Option Nat} {P : Int32 → (Nat → Nat → Int32) → (Nat → Nat → Int64) → Option Nat → Prop} (h : yM1 b n S r rj c o I J) (hP : ∀ I2, fr_off [(204, 205, 21, 23)] I I2 → I2 204 22 = yft b n c k → I2 204 21 = nI (yps b n c) → P 0 I2 J T) : wp_X12_fail k I J T P := by
  obtain ⟨x, m, f, s, l, w⟩ := h
  unfold wp_X12_fail
  rw [m.2.2.1, m.1]
  refine ⟨fun _ => ⟨fun z => hP _ (fr_put rfl (fr_put rfl fr_refl)) ?_ (by simp [u2_e]), fun z => hP _ (fr_put rfl (fr_put rfl fr_refl)) ?_ (by simp [u2_e])⟩, fun z => absurd f z⟩
  · have z : yk b n c = 22 := yct_1.mp z
    unfold yft
    rw [if_pos z]; simp [u2_e]
  · have z : ¬ yk b n c = 22 := fun e => z (yct_1.mpr e)
    unfold yft
    rw [if_neg z]; simp [u2_e]
def yfr : List YF → (Nat → Nat → Int32) → Prop
  | [], _ => True
  | f :: fs, I => I 234 fs.length = nI f.1 ∧ I 235 fs.length = f.2.1 ∧ I 236 fs.length = f.2.2 ∧ yfr fs I
theorem yfr_cg {I I2 : Nat → Nat → Int32} : ∀ {fs : List YF}, (∀ d, d < fs.length → I2 234 d = I 234 d ∧ I2 235 d = I 235 d ∧ I2 236 d = I 236 d) → yfr fs I → yfr fs I2
  | [], _, _ => trivial
  | f :: fs, h, ⟨a, b, c, d⟩ => by
    obtain ⟨h1, h2, h3⟩ := h fs.length (by rw [List.length_cons]; omega)
    exact ⟨by rw [h1]; exact a, by rw [h2]; exact b, by rw [h3]; exact c, yfr_cg (fun d hd => h d (by rw [List.length_cons]; omega)) d⟩
theorem yfr_fr {I I2 : Nat → Nat → Int32} {D : List fr_R} {fs : List YF} (o : fr_off D I I2) (d : (fr_rw D 234 235 && (fr_rw D 235 236 && fr_rw D 236 237)) = true) (h : yfr fs I) : yfr fs I2 := by
  simp only [Bool.and_eq_true] at d
  refine yfr_cg (fun k _ => ?_) h
  rw [fr_rw1 o 234 d.1, fr_rw1 o 235 d.2.1, fr_rw1 o 236 d.2.2]
  exact ⟨rfl, rfl, rfl⟩
def yDS : List fr_R := [(204, 205, 17, 20), (204, 205, 21, 23), (204, 205, 44, 45), (232, 233, 0, 2147483648), (234, 237, 0, 2147483648)]
def yES : List fr_R := [(204, 205, 23, 24), (233, 234, 0, 2147483648)]
theorem yM_op {b : Nat → Int32} {n S c : Nat} {r : Nat → Int32} {rj : Nat → Int64} {o : List YG} {f : YF} {fs : List YF} {k : Nat} {x : Int32} {I : Nat → Nat → Int32} {J : Nat → Nat → Int64} {T : Option Nat} {P : (Nat → Nat → Int32) → (Nat → Nat → Int64) → Option Nat → Prop} (h : yM1 b n S r rj c o I J) (hf : yfr fs I) (hl : fs.length ≤ 10) (hk : x = nI k) (hP : ∀ I2, fr_off [(234, 237, 0, 2147483648)] I I2 → yM1 b n S r rj c o I2 J → yfr ((k, 0, 0) :: fs) I2 → P I2 J T) : wp_X12_opens (nI fs.length) x I J T P := by
  unfold wp_X12_opens
  rw [nI_clamp (show fs.length < 2 ^ 31 by omega), hk]
  have ii : ix_inb (nI fs.length) 16 = true := nI_in2 (by omega) (by decide)
  have o1 : fr_off [(234, 237, 0, 2147483648)] I (ix_u2 (ix_u2 (ix_u2 I 234 fs.length (nI k)) 235 fs.length 0) 236 fs.length 0) := fr_putn rfl (by omega) (fr_putn rfl (by omega) (fr_putn rfl (by omega) fr_refl))
  refine ⟨ii, ii, ii, hP _ o1 (yM1_fr h o1 (fr_refl (D := [])) rfl rfl) ⟨by simp [u2_e], by simp [u2_e], by simp [u2_e], yfr_cg (fun d hd => ?_) hf⟩⟩
  have ne : d ≠ fs.length := by omega
  simp [u2_e, ne]
theorem i32_rt (x : Int32) : x.toInt64.toInt32 = x := by
  apply Int32.toInt_inj.mp
  rw [Int64.toInt_toInt32, Int32.toInt_toInt64]
  have := Int32.toInt_lt x
  have := Int32.le_toInt x
  rw [Int.bmod_eq_of_le] <;> omega
theorem yk_S {b : Nat → Int32} {n c : Nat} {a : Int32} (h : yk b n c = a) (ha : yS a = true) : yS (ykd b n (yps b n c)) = true := by
  have : ykd b n (yps b n c) = a := h
  rw [this]; exact ha
set_option maxHeartbeats 4000000 in
theorem yg_sm {b : Nat → Int32} {n L S : Nat} {r : Nat → Int32} {rj : Nat → Int64} {o0 : List YG} {M : Nat} (hL : L ≤ n) (hn : n ≤ 600 ∧ M ≤ 1800) (hL1 : yk b n L = 21 ∨ yk b n L = 22) {I0 : Nat → Nat → Int32} {J0 : Nat → Nat → Int64} {T : Option Nat} {V : Int32 → Int32 → (Nat → Nat → Int32) → (Nat → Nat → Int64) → Option Nat → Prop} {P : Int32 → (Nat → Nat → Int32) → (Nat → Nat → Int64) → Option Nat → Prop} (hV : ∀ x1 x2 I J T, wb_X12_sum_10 x1 x2 I J T V P → V x1 x2 I J T) : ∀ m c f fs (at_ : Bool) o I J, L < c + m → c ≤ L → fs.length ≤ 10 → S + (o0 ++ o).length + yw (f :: fs) ≤ M + c → f.1 ≤ 4 → yz f fs → yM1 b n S r rj c (o0 ++ o) I J → yfr (f :: fs) I → fr_off yDS I0 I → fr_off yES J0 J → (∀ k c' I2 J2, ysm (yk b n) (yv b n) m c f fs at_ o = .inl (k, c') → fr_off yDS I0 I2 → fr_off yES J0 J2 → I2 204 22 = yft b n c' k → I2 204 21 = nI (yps b n c') → (∀ j, j < S → I2 232 j = r j ∧ J2 233 j = rj j) → P 0 I2 J2 T) → (∀ o2 c' I2 J2, ysm (yk b n) (yv b n) m c f fs at_ o = .inr (o2, c') → c' ≤ L → fr_off yDS I0 I2 → fr_off yES J0 J2 → yM1 b n S r rj c' (o0 ++ o2) I2 J2 → P 1 I2 J2 T) → V (nI fs.length) (s01_ at_) I J T := by
  intro m
  induction m with
  | zero => intro c f fs at_ o I J h1 h2; omega
  | succ m ih =>
    intro c f fs at_ o I J hm hc hl hS hk4 hz hM hf hO hE hbad hok
    have hx := hM.1
    have hs := yps_le b n c
    have hmt := hM.2.1
    have e22 := hM.2.2.1
    have e17 : I 204 17 = yct (yk b n c) := hmt.2.2.1
    have kL : ∀ {a : Int32}, yk b n c = a → a ≠ 21 → a ≠ 22 → c + 1 ≤ L := fun {a} e h1 h2 => by
      by_cases e2 : c = L
      · rw [← e2] at hL1
        rcases hL1 with g | g
        · exact absurd (e.symm.trans g) h1
        · exact absurd (e.symm.trans g) h2
      · omega
    have ii : ix_inb (nI fs.length) 16 = true := nI_in2 (by omega) (by decide)
    have d5 : (nI fs.length).toNatClampNeg = fs.length := nI_clamp (by omega)
    rw [ysm.eq_def] at hbad hok
    have hlw : (o0 ++ o).length = o0.length + o.length := List.length_append
    have hfail : ∀ k c' I1 J1, yM1 b n S r rj c' (o0 ++ o) I1 J1 → fr_off yDS I0 I1 → fr_off yES J0 J1 → (∀ I2 J2, fr_off yDS I0 I2 → fr_off yES J0 J2 → I2 204 22 = yft b n c' k → I2 204 21 = nI (yps b n c') → (∀ j, j < S → I2 232 j = r j ∧ J2 233 j = rj j) → P 0 I2 J2 T) → wp_X12_fail k I1 J1 T (fun v85 I85 J85 T85 => ix_01 v85 = true ∧ P v85 I85 J85 T85) := by
      intro k c' I1 J1 hM1 hO1 hE1 hb
      refine yM_fl hM1 (fun I2 o2 f1 f2 => ⟨by decide, hb I2 J1 (fr_trans hO1 (fr_mono (by decide) o2)) hE1 f1 f2 (fun j hj => ?_)⟩)
      rw [fr_rw1 o2 232 rfl]
      exact hM1.2.2.2.2.2 j hj
    cases at_ with
    | true =>
      simp only at hbad hok
      apply hV
      unfold wb_X12_sum_10
      refine ⟨fun _ => ⟨fun z => absurd z (by decide), fun _ => ?_⟩, fun z => absurd e22 z⟩
      -- an opening bracket at token c'
      have opn : ∀ (k : Nat) (c' : Nat) (s0 : Int32) (I1 : Nat → Nat → Int32) (J1 : Nat → Nat → Int64), s0 = nI k → k = 0 ∨ k = 1 ∨ k = 3 → c ≤ c' → c + (if k = 0 then 0 else 1) ≤ c' → c' ≤ L → yM1 b n S r rj c' (o0 ++ o) I1 J1 → yfr (f :: fs) I1 → fr_off yDS I0 I1 → fr_off yES J0 J1 → (∀ k2 c2 I2 J2, (if yk b n c' = 40 then (if fs.length = 10 then Sum.inl (6, c') else ysm (yk b n) (yv b n) m (c' + 1) (k, 0, 0) (f :: fs) true o) else Sum.inl (2, c')) = .inl (k2, c2) → fr_off yDS I0 I2 → fr_off yES J0 J2 → I2 204 22 = yft b n c2 k2 → I2 204 21 = nI (yps b n c2) → (∀ j, j < S → I2 232 j = r j ∧ J2 233 j = rj j) → P 0 I2 J2 T) → (∀ o2 c2 I2 J2, (if yk b n c' = 40 then (if fs.length = 10 then Sum.inl (6, c') else ysm (yk b n) (yv b n) m (c' + 1) (k, 0, 0) (f :: fs) true o) else Sum.inl (2, c')) = .inr (o2, c2) → c2 ≤ L → fr_off yDS I0 I2 → fr_off yES J0 J2 → yM1 b n S r rj c2 (o0 ++ o2) I2 J2 → P 1 I2 J2 T) → wj_X12_sum_j117_10 (nI fs.length) 1 s0 I1 J1 T V P := by
        intro k c' s0 I1 J1 hs0 hk hcc hcc2 hcL hM1 hf1 hO1 hE1 hb hg
        unfold wj_X12_sum_j117_10
        refine yg_sg hM1.1 (yps_le b n c') hM1.2.1 (by decide) (fun y => ⟨fun z => absurd z (by decide), fun _ => ?_⟩) (fun y => ⟨fun _ => ?_, fun z => absurd rfl z⟩)
        · have y : yk b n c' = 40 := y
          rw [if_pos y] at hb hg
          refine ⟨fun z => ?_, fun z => ?_⟩
          · have z : fs.length = 10 := (nI_eq (b := 10) (by omega) (by omega)).mp z
            rw [if_pos z] at hb
            exact hfail 6 c' I1 J1 hM1 hO1 hE1 (fun I2 J2 => hb 6 c' I2 J2 rfl)
          · have z : ¬ fs.length = 10 := fun e => z (by rw [e]; rfl)
            rw [if_neg z] at hb hg
            have cL : c' + 1 ≤ L := by
              by_cases e2 : c' = L
              · rw [← e2, y] at hL1
                rcases hL1 with g | g
                · exact absurd g (by decide)
                · exact absurd g (by decide)
              · omega
            refine yM_nx hM1 (fun I2 J2 o2 r2 hM2 => ?_)
            rw [nI_1]
            have hlen : (f :: fs).length = fs.length + 1 := rfl
            rw [← hlen]
            refine yM_op (f := f) hM2 (yfr_fr o2 rfl hf1) (by rw [hlen]; omega) hs0 (fun I3 o3 hM3 hf3 => ?_)
            have e1 : yw ((k, 0, 0) :: f :: fs) ≤ yw (f :: fs) + (if k = 0 then 0 else 1) := by
              show (if k = 0 then 0 else 1) + yb_ 0 + yb_ 0 + yw (f :: fs) ≤ _
              rw [show yb_ 0 = 0 from rfl]; omega
            refine ih (c' + 1) (k, 0, 0) (f :: fs) true o I3 J2 (by omega) cL (by rw [hlen]; omega) (by split at e1 <;> split at hcc2 <;> omega) (show k ≤ 4 by omega) ⟨⟨show k ≤ 4 by omega, Or.inl rfl, Or.inl rfl⟩, hz⟩ hM3 hf3 ?_ ?_ hb hg
            · exact fr_trans hO1 (fr_trans (fr_mono (by decide) o2) (fr_mono (by decide) o3))
            · exact fr_trans hE1 (fr_mono (by decide) r2)
        · have y : ¬ yk b n c' = 40 := y
          rw [if_neg y] at hb
          exact hfail 2 c' I1 J1 hM1 hO1 hE1 (fun I2 J2 => hb 2 c' I2 J2 rfl)
      -- a number or a variable
      have atm : ∀ (s1 : Int32) (s2 : Int64) (hcL : c + 1 ≤ L), (∀ k2 c2 I2 J2, ysm (yk b n) (yv b n) m (c + 1) f fs false (o ++ [(s1, s2)]) = .inl (k2, c2) → fr_off yDS I0 I2 → fr_off yES J0 J2 → I2 204 22 = yft b n c2 k2 → I2 204 21 = nI (yps b n c2) → (∀ j, j < S → I2 232 j = r j ∧ J2 233 j = rj j) → P 0 I2 J2 T) → (∀ o2 c2 I2 J2, ysm (yk b n) (yv b n) m (c + 1) f fs false (o ++ [(s1, s2)]) = .inr (o2, c2) → c2 ≤ L → fr_off yDS I0 I2 → fr_off yES J0 J2 → yM1 b n S r rj c2 (o0 ++ o2) I2 J2 → P 1 I2 J2 T) → wj_X12_sum_j96_10_k204 (nI fs.length) s1 s2 I J T V P := by
        intro s1 s2 hcL hb hg
        unfold wj_X12_sum_j96_10_k204
        refine yM_pt hM (by omega) (fun I1 J1 o1 r1 hM1 => ?_)
        refine yM_nx hM1 (fun I2 J2 o2 r2 hM2 => ?_)
        rw [List.append_assoc] at hM2
        have l2 : (o0 ++ (o ++ [(s1, s2)])).length = o0.length + o.length + 1 := by simp only [List.length_append, List.length_singleton]; omega
        exact ih (c + 1) f fs false (o ++ [(s1, s2)]) I2 J2 (by omega) hcL hl (by omega) hk4 hz hM2 (yfr_fr o2 rfl (yfr_fr o1 rfl hf)) (fr_trans hO (fr_trans (fr_mono (by decide) o1) (fr_mono (by decide) o2))) (fr_trans hE (fr_trans (fr_mono (by decide) r1) (fr_mono (by decide) r2))) hb hg
      refine yg_k4 hx hs hmt ?_
      have few : ∀ (k : Nat) (s0 : Int32), s0 = nI k → (k = 1 ∨ k = 3) → (yk b n c = 9 ∨ yk b n c = 10) → (∀ k2 c2 I2 J2, (if yk b n (c + 1) = 40 then (if fs.length = 10 then Sum.inl (6, c + 1) else ysm (yk b n) (yv b n) m (c + 2) (k, 0, 0) (f :: fs) true o) else Sum.inl (2, c + 1)) = .inl (k2, c2) → fr_off yDS I0 I2 → fr_off yES J0 J2 → I2 204 22 = yft b n c2 k2 → I2 204 21 = nI (yps b n c2) → (∀ j, j < S → I2 232 j = r j ∧ J2 233 j = rj j) → P 0 I2 J2 T) → (∀ o2 c2 I2 J2, (if yk b n (c + 1) = 40 then (if fs.length = 10 then Sum.inl (6, c + 1) else ysm (yk b n) (yv b n) m (c + 2) (k, 0, 0) (f :: fs) true o) else Sum.inl (2, c + 1)) = .inr (o2, c2) → c2 ≤ L → fr_off yDS I0 I2 → fr_off yES J0 J2 → yM1 b n S r rj c2 (o0 ++ o2) I2 J2 → P 1 I2 J2 T) → wj_X12_sum_j56_10 (nI fs.length) 1 (yk4 (ykd b n (yps b n c))) s0 I J T V P := by
        intro k s0 hs0 hk hK hb hg
        have q : yct (yk b n c) = 2 ∧ yk4 (yk b n c) = -1 ∧ c + 1 ≤ L := by
          rcases hK with g | g
          · exact ⟨by rw [g]; decide, by rw [g]; decide, kL g (by decide) (by decide)⟩
          · exact ⟨by rw [g]; decide, by rw [g]; decide, kL g (by decide) (by decide)⟩
        unfold wj_X12_sum_j56_10
        rw [e17, q.1]
        have e4 : yk4 (ykd b n (yps b n c)) = -1 := q.2.1
        rw [e4]
        refine ⟨fun z => absurd z (by decide), fun _ => ⟨fun _ => ⟨fun z => ?_, fun _ => ?_⟩, fun z => absurd rfl z⟩⟩
        · rw [hs0] at z
          rcases hk with g | g
          · rw [g] at z; exact absurd z (by decide)
          · rw [g] at z; exact absurd z (by decide)
        · refine yM_nx hM (fun I2 J2 o2 r2 hM2 => ?_)
          exact opn k (c + 1) s0 I2 J2 hs0 (by omega) (by omega) (by split <;> omega) q.2.2 hM2 (yfr_fr o2 rfl hf) (fr_trans hO (fr_mono (by decide) o2)) (fr_trans hE (fr_mono (by decide) r2)) hb hg
      refine yg_key hx hs hmt ⟨by decide, by decide⟩ (fun k9 => ⟨fun z => absurd z (by decide), fun _ => ?_⟩) (fun k9 => ⟨fun _ => yg_key hx hs hmt ⟨by decide, by decide⟩ (fun k10 => ⟨fun z => absurd z (by decide), fun _ => ?_⟩) (fun k10 => ⟨fun _ => ?_, fun z => absurd rfl z⟩), fun z => absurd rfl z⟩)
      · have k9 : yk b n c = 9 := k9
        rw [if_neg (by rw [k9]; decide), if_neg (by rw [k9]; decide), if_pos k9] at hbad hok
        exact few 1 1 rfl (Or.inl rfl) (Or.inl k9) hbad hok
      · have k10 : yk b n c = 10 := k10
        rw [if_neg (by rw [k10]; decide), if_neg (by rw [k10]; decide), if_neg (by rw [k10]; decide), if_pos k10] at hbad hok
        exact few 3 3 rfl (Or.inr rfl) (Or.inr k10) hbad hok
      · have k9 : ¬ yk b n c = 9 := k9
        have k10 : ¬ yk b n c = 10 := k10
        unfold wj_X12_sum_j56_10
        rw [e17]
        by_cases h20 : yk b n c = 20
        · rw [if_pos h20] at hbad hok
          refine ⟨fun _ => ?_, fun z => absurd (yct_3.mpr h20) z⟩
          have e4 : yk4 (ykd b n (yps b n c)) = -1 := by
            have : ykd b n (yps b n c) = 20 := h20
            rw [this]; decide
          unfold wj_X12_sum_j71_10 wj_X12_sum_j82_10_k204
          rw [e4]
          refine ⟨fun _ => ⟨fun _ => ?_, fun z => absurd rfl z⟩, fun z => absurd rfl z⟩
          have ev : J 204 23 = yv b n c := hmt.2.2.2.1 h20
          rw [ev]
          exact atm 0 (yv b n c) (kL h20 (by decide) (by decide)) hbad hok
        · rw [if_neg h20] at hbad hok
          refine ⟨fun z => absurd (yct_3.mp z) h20, fun _ => ?_⟩
          by_cases hva : 11 ≤ yk b n c ∧ yk b n c ≤ 17
          · rw [if_pos hva] at hbad hok
            have n4 : ¬ yk4 (ykd b n (yps b n c)) = -1 := fun e => (yk4_m.mp e) hva
            refine ⟨fun z => absurd z n4, fun _ => ?_⟩
            unfold wj_X12_sum_j71_10 wj_X12_sum_j82_10_k204
            refine ⟨fun z => absurd z n4, fun _ => ⟨fun z => absurd z n4, fun _ => ?_⟩⟩
            have ev : yk4 (ykd b n (yps b n c)) = yk b n c - 11 := yk4_v hva
            rw [ev]
            refine atm 1 _ ?_ hbad hok
            obtain ⟨j, hj, ej⟩ := y_var hva.1 hva.2
            have t : ∀ j : Fin 7, nI (11 + j.1) ≠ 21 ∧ nI (11 + j.1) ≠ 22 := by decide +kernel
            exact kL ej (t ⟨j, hj⟩).1 (t ⟨j, hj⟩).2
          · rw [if_neg hva, if_neg k9, if_neg k10] at hbad hok
            refine ⟨fun _ => ⟨fun _ => ?_, fun z => absurd (by decide) z⟩, fun z => absurd (yk4_m.mpr hva) z⟩
            exact opn 0 c 0 I J rfl (Or.inl rfl) (Nat.le_refl _) (by simp) hc hM hf hO hE hbad hok
    | false =>
      simp only at hbad hok
      obtain ⟨f1, f2, f3, f4⟩ := hf
      have bw : yw (f :: fs) = (if f.1 = 0 then 0 else 1) + yb_ f.2.1 + yb_ f.2.2 + yw fs := rfl
      -- behind the items
      have g1 : ∀ I1 J1, fr_off yDS I0 I1 → fr_off yES J0 J1 → yM1 b n S r rj c (o0 ++ (o ++ yo f.2.2)) I1 J1 → I1 234 fs.length = nI f.1 → I1 235 fs.length = f.2.1 → yfr fs I1 → wj_X12_sum_j182_10 (nI fs.length) 0 I1 J1 T V P := by
        intro I1 J1 hO1 hE1 hM1 a1 a2 a4
        have l1 : (o0 ++ (o ++ yo f.2.2)).length = o0.length + o.length + yb_ f.2.2 := by simp only [List.length_append, yo_len]; omega
        have o2 : fr_off [(234, 237, 0, 2147483648)] I1 (ix_u2 I1 236 fs.length 0) := fr_putn rfl (by omega) fr_refl
        have hM2 := yM1_fr hM1 o2 (fr_refl (D := [])) rfl rfl
        have hO2 : fr_off yDS I0 (ix_u2 I1 236 fs.length 0) := fr_trans hO1 (fr_mono (by decide) o2)
        unfold wj_X12_sum_j182_10
        rw [d5]
        refine ⟨ii, ?_⟩
        have item : ∀ a, (a = 42 ∨ a = 47) → yk b n c = a → wj_X12_sum_j207_10 (nI fs.length) (ix_u2 I1 236 fs.length 0) J1 T V P := by
          intro a ha ek
          have yS_a : yS a = true := by rcases ha with g | g <;> rw [g] <;> decide
          have ev : J1 204 23 = (yk b n c).toInt64 := hM1.2.1.2.2.2.2 (yk_S ek yS_a)
          have hcL : c + 1 ≤ L := by rcases ha with g | g <;> exact kL ek (by rw [g]; decide) (by rw [g]; decide)
          have hor : yk b n c = 42 ∨ yk b n c = 47 := by rw [ek]; exact ha
          rw [if_pos hor] at hbad hok
          unfold wj_X12_sum_j207_10
          rw [d5, ev, i32_rt]
          refine ⟨ii, ?_⟩
          have o3 : fr_off [(234, 237, 0, 2147483648)] (ix_u2 I1 236 fs.length 0) (ix_u2 (ix_u2 I1 236 fs.length 0) 236 fs.length (yk b n c)) := fr_putn rfl (by omega) fr_refl
          refine yM_nx (yM1_fr hM2 o3 (fr_refl (D := [])) rfl rfl) (fun I4 J4 o4 r4 hM4 => ?_)
          have nz : yb_ (yk b n c) = 1 := by rcases hor with g | g <;> rw [g] <;> rfl
          have e1 : yw ((f.1, f.2.1, yk b n c) :: fs) = (if f.1 = 0 then 0 else 1) + yb_ f.2.1 + 1 + yw fs := by
            show (if f.1 = 0 then 0 else 1) + yb_ f.2.1 + yb_ (yk b n c) + yw fs = _
            rw [nz]
          refine ih (c + 1) (f.1, f.2.1, yk b n c) fs true (o ++ yo f.2.2) I4 J4 (by omega) hcL hl (by omega) hk4 (yz_to hz rfl ⟨hk4, (yz_w hz).2.1, Or.inr hor⟩) hM4 ?_ (fr_trans hO2 (fr_trans (fr_mono (by decide) o3) (fr_mono (by decide) o4))) (fr_trans hE1 (fr_mono (by decide) r4)) hbad hok
          refine yfr_fr o4 rfl ⟨?_, ?_, ?_, yfr_cg (fun d hd => ?_) a4⟩
          · rw [u2_c (by decide), u2_c (by decide)]; exact a1
          · rw [u2_c (by decide), u2_c (by decide)]; exact a2
          · simp [u2_e]
          · have ne : d ≠ fs.length := by omega
            simp [u2_e, ne]
        refine yg_sg hM2.1 hs hM2.2.1 (by decide) (fun y => ⟨fun z => absurd z (by decide), fun _ => item 42 (Or.inl rfl) y⟩) (fun y1 => ⟨fun _ => yg_sg hM2.1 hs hM2.2.1 (by decide) (fun y => ⟨fun z => absurd z (by decide), fun _ => item 47 (Or.inr rfl) y⟩) (fun y2 => ⟨fun _ => ⟨ii, ?_⟩, fun z => absurd rfl z⟩), fun z => absurd rfl z⟩)
        have no1 : ¬ (yk b n c = 42 ∨ yk b n c = 47) := fun z => z.elim y1 y2
        rw [if_neg no1] at hbad hok
        -- behind the sums
        have g2 : ∀ I1 J1, fr_off yDS I0 I1 → fr_off yES J0 J1 → yM1 b n S r rj c (o0 ++ (o ++ yo f.2.2 ++ yo f.2.1)) I1 J1 → I1 234 fs.length = nI f.1 → I1 236 fs.length = 0 → yfr fs I1 → wj_X12_sum_j247_10 (nI fs.length) 0 I1 J1 T V P := by
          clear hM2 hO2 item o2
          intro I1 J1 hO1 hE1 hM1 a1 a3 a4
          have l2 : (o0 ++ (o ++ yo f.2.2 ++ yo f.2.1)).length = o0.length + o.length + yb_ f.2.2 + yb_ f.2.1 := by simp only [List.length_append, yo_len]; omega
          have o2 : fr_off [(234, 237, 0, 2147483648)] I1 (ix_u2 I1 235 fs.length 0) := fr_putn rfl (by omega) fr_refl
          have hM2 := yM1_fr hM1 o2 (fr_refl (D := [])) rfl rfl
          have hO2 : fr_off yDS I0 (ix_u2 I1 235 fs.length 0) := fr_trans hO1 (fr_mono (by decide) o2)
          have b4 : (ix_u2 I1 235 fs.length 0) 234 fs.length = nI f.1 := by rw [u2_c (by decide)]; exact a1
          have c4 : yfr fs (ix_u2 I1 235 fs.length 0) := yfr_cg (fun d hd => by
            have ne : d ≠ fs.length := by omega
            simp [u2_e, ne]) a4
          unfold wj_X12_sum_j247_10
          rw [d5]
          refine ⟨ii, ?_⟩
          have sm : ∀ a, (a = 43 ∨ a = 45) → yk b n c = a → wj_X12_sum_j272_10 (nI fs.length) (ix_u2 I1 235 fs.length 0) J1 T V P := by
            intro a ha ek
            have yS_a : yS a = true := by rcases ha with g | g <;> rw [g] <;> decide
            have ev : J1 204 23 = (yk b n c).toInt64 := hM1.2.1.2.2.2.2 (yk_S ek yS_a)
            have hcL : c + 1 ≤ L := by rcases ha with g | g <;> exact kL ek (by rw [g]; decide) (by rw [g]; decide)
            have hor : yk b n c = 43 ∨ yk b n c = 45 := by rw [ek]; exact ha
            rw [if_pos hor] at hbad hok
            unfold wj_X12_sum_j272_10
            rw [d5, ev, i32_rt]
            refine ⟨ii, ?_⟩
            have o3 : fr_off [(234, 237, 0, 2147483648)] (ix_u2 I1 235 fs.length 0) (ix_u2 (ix_u2 I1 235 fs.length 0) 235 fs.length (yk b n c)) := fr_putn rfl (by omega) fr_refl
            refine yM_nx (yM1_fr hM2 o3 (fr_refl (D := [])) rfl rfl) (fun I4 J4 o4 r4 hM4 => ?_)
            have nz : yb_ (yk b n c) = 1 := by rcases hor with g | g <;> rw [g] <;> rfl
            have e1 : yw ((f.1, yk b n c, 0) :: fs) = (if f.1 = 0 then 0 else 1) + 1 + yw fs := by
              show (if f.1 = 0 then 0 else 1) + yb_ (yk b n c) + yb_ 0 + yw fs = _
              rw [nz, show yb_ 0 = 0 from rfl]
            refine ih (c + 1) (f.1, yk b n c, 0) fs true (o ++ yo f.2.2 ++ yo f.2.1) I4 J4 (by omega) hcL hl (by omega) hk4 (yz_to hz rfl ⟨hk4, Or.inr hor, Or.inl rfl⟩) hM4 ?_ (fr_trans hO2 (fr_trans (fr_mono (by decide) o3) (fr_mono (by decide) o4))) (fr_trans hE1 (fr_mono (by decide) r4)) hbad hok
            refine yfr_fr o4 rfl ⟨?_, ?_, ?_, yfr_cg (fun d hd => ?_) a4⟩
            · rw [u2_c (by decide), u2_c (by decide)]; exact a1
            · simp [u2_e]
            · rw [u2_c (by decide), u2_c (by decide)]; exact a3
            · have ne : d ≠ fs.length := by omega
              simp [u2_e, ne]
          refine yg_sg hM2.1 hs hM2.2.1 (by decide) (fun y => ⟨fun z => absurd z (by decide), fun _ => sm 43 (Or.inl rfl) y⟩) (fun y3 => ⟨fun _ => yg_sg hM2.1 hs hM2.2.1 (by decide) (fun y => ⟨fun z => absurd z (by decide), fun _ => sm 45 (Or.inr rfl) y⟩) (fun y4 => ⟨fun _ => ?_, fun z => absurd rfl z⟩), fun z => absurd rfl z⟩)
          have no2 : ¬ (yk b n c = 43 ∨ yk b n c = 45) := fun z => z.elim y3 y4
          rw [if_neg no2] at hbad hok
          cases fs with
          | nil =>
            rw [if_pos (show ([] : List YF).length = 0 from rfl)] at hok
            exact ⟨fun _ => hok _ c _ _ rfl hc hO2 hE1 hM2, fun z => absurd rfl z⟩
          | cons g gs =>
            rw [if_neg (by simp), List.headD_cons, List.tail_cons] at hbad hok
            have hlen : (g :: gs).length = gs.length + 1 := rfl
            refine ⟨fun z => absurd ((nI_eq (b := 0) (by omega) (by omega)).mp z) (by omega), fun _ => ⟨ii, ?_⟩⟩
            rw [b4]
            -- comma or bracket
            have fst : (f.1 = 1 ∨ f.1 = 3) → wj_X12_sum_j315_10 (nI (g :: gs).length) 0 (nI f.1) (ix_u2 I1 235 (g :: gs).length 0) J1 T V P := by
              intro hfst
              rw [if_pos hfst] at hbad hok
              unfold wj_X12_sum_j315_10 wj_X12_sum_j320_10
              refine ⟨fun z => absurd z (by decide), fun _ => ?_⟩
              unfold wj_X12_sum_j335_10_k204 wp_X12_want
              refine yg_sg hM2.1 hs hM2.2.1 (by decide) (fun y => ⟨fun z => absurd z (by decide), fun _ => ?_⟩) (fun y => ⟨fun _ => ?_, fun z => absurd rfl z⟩)
              · have y : yk b n c = 44 := y
                rw [if_pos y] at hbad hok
                refine yM_nx hM2 (fun I3 J3 o3 r3 hM3 => ?_)
                refine ⟨fun z => absurd z (by decide), fun _ => ⟨fun z => absurd z (by decide), fun _ => ?_⟩⟩
                refine yM_op (f := f) (k := f.1 + 1) hM3 (yfr_fr o3 rfl c4) (by omega) (by rw [nI_1]) (fun I4 o4 hM4 hf4 => ?_)
                have e1 : yw ((f.1 + 1, 0, 0) :: g :: gs) = 1 + yw (g :: gs) := by
                  show (if f.1 + 1 = 0 then 0 else 1) + yb_ 0 + yb_ 0 + yw (g :: gs) = _
                  rw [if_neg (by omega), show yb_ 0 = 0 from rfl]
                rw [if_neg (by omega)] at bw
                exact ih (c + 1) (f.1 + 1, 0, 0) (g :: gs) true _ I4 J3 (by omega) (kL y (by decide) (by decide)) hl (by omega) (show f.1 + 1 ≤ 4 by omega) ⟨⟨show f.1 + 1 ≤ 4 by omega, Or.inl rfl, Or.inl rfl⟩, hz.2⟩ hM4 hf4 (fr_trans hO2 (fr_trans (fr_mono (by decide) o3) (fr_mono (by decide) o4))) (fr_trans hE1 (fr_mono (by decide) r3)) hbad hok
              · have y : ¬ yk b n c = 44 := y
                rw [if_neg y] at hbad
                refine yM_fl hM2 (fun I3 o3 q1 q2 => ⟨by decide, fun _ => ?_, fun z => absurd rfl z⟩)
                refine hbad 2 c I3 J1 rfl (fr_trans hO2 (fr_mono (by decide) o3)) hE1 q1 q2 (fun j hj => ?_)
                rw [fr_rw1 o3 232 rfl]
                exact hM2.2.2.2.2.2 j hj
            have q1 : nI f.1 = 1 ↔ f.1 = 1 := nI_eq (b := 1) (by omega) (by omega)
            have q3 : nI f.1 = 3 ↔ f.1 = 3 := nI_eq (b := 3) (by omega) (by omega)
            refine ⟨fun z => fst (Or.inl (q1.mp z)), fun z1 => ⟨fun z => fst (Or.inr (q3.mp z)), fun z3 => ?_⟩⟩
            have nf : ¬ (f.1 = 1 ∨ f.1 = 3) := fun z => z.elim (fun y => z1 (q1.mpr y)) (fun y => z3 (q3.mpr y))
            rw [if_neg nf] at hbad hok
            unfold wj_X12_sum_j320_10
            refine ⟨fun _ => ?_, fun z => absurd rfl z⟩
            unfold wj_X12_sum_j335_10_k204 wp_X12_want
            refine yg_sg hM2.1 hs hM2.2.1 (by decide) (fun y => ⟨fun z => absurd z (by decide), fun _ => ?_⟩) (fun y => ⟨fun _ => ?_, fun z => absurd rfl z⟩)
            · have y : yk b n c = 41 := y
              rw [if_pos y] at hbad hok
              refine yM_nx hM2 (fun I3 J3 o3 r3 hM3 => ?_)
              refine ⟨fun z => absurd z (by decide), fun _ => ⟨fun _ => ?_, fun z => absurd rfl z⟩⟩
              have hcL := kL y (by decide) (by decide)
              have fin : ∀ I4 J4, fr_off yDS I0 I4 → fr_off yES J0 J4 → yM1 b n S r rj (c + 1) (o0 ++ (o ++ yo f.2.2 ++ yo f.2.1 ++ ycl f.1)) I4 J4 → yfr (g :: gs) I4 → wj_X12_sum_j382_10 (nI (g :: gs).length) 0 I4 J4 T V P := by
                intro I4 J4 hO4 hE4 hM4 hf4
                unfold wj_X12_sum_j382_10
                rw [hlen, nI_p1]
                have l3 : (o0 ++ (o ++ yo f.2.2 ++ yo f.2.1 ++ ycl f.1)).length = o0.length + o.length + yb_ f.2.2 + yb_ f.2.1 + (if f.1 = 0 then 0 else 1) := by
                  have : (ycl f.1).length = if f.1 = 0 then 0 else 1 := by
                    unfold ycl
                    split
                    · rfl
                    · split <;> rfl
                  simp only [List.length_append, yo_len, this]; omega
                have hgw := yz_w hz.2
                exact ih (c + 1) g gs false _ I4 J4 (by omega) hcL (by omega) (by omega) hgw.1 hz.2 hM4 hf4 hO4 hE4 hbad hok
              have hO3 := fr_trans hO2 (fr_mono (E := yDS) (by decide) o3)
              have hE3 := fr_trans hE1 (fr_mono (E := yES) (by decide) r3)
              by_cases k0 : f.1 = 0
              · rw [k0]
                refine ⟨fun _ => ?_, fun z => absurd (by decide) z⟩
                have e2 : ycl f.1 = [] := by unfold ycl; rw [if_pos k0]
                rw [e2, List.append_nil] at fin
                exact fin I3 J3 hO3 hE3 hM3 (yfr_fr o3 rfl c4)
              · have kp : ¬ nI f.1 ≤ 0 := fun z => by
                  have := (yi_le (b := 0) (by omega) (by omega)).mp z
                  omega
                refine ⟨fun z => absurd z kp, fun _ => ?_⟩
                have put : ∀ s : Int32, ycl f.1 = [(s, 0)] → wj_X12_sum_j378_10_k204 (nI (g :: gs).length) 0 s I3 J3 T V P := by
                  intro s e2
                  unfold wj_X12_sum_j378_10_k204
                  rw [e2] at fin
                  refine yM_pt hM3 (by omega) (fun I4 J4 o4 r4 hM4 => ?_)
                  rw [List.append_assoc] at hM4
                  exact fin I4 J4 (fr_trans hO3 (fr_mono (by decide) o4)) (fr_trans hE3 (fr_mono (by decide) r4)) hM4 (yfr_fr o4 rfl (yfr_fr o3 rfl c4))
                refine ⟨fun z => put 108 ?_, fun z => put 109 ?_⟩
                · have z : f.1 = 2 := (nI_eq (b := 2) (by omega) (by omega)).mp z
                  unfold ycl; rw [if_neg k0, if_pos z]
                · have z : ¬ f.1 = 2 := fun y => z (by rw [y]; rfl)
                  unfold ycl; rw [if_neg k0, if_neg z]
            · have y : ¬ yk b n c = 41 := y
              rw [if_neg y] at hbad
              refine yM_fl hM2 (fun I3 o3 q1 q2 => ⟨by decide, fun _ => ?_, fun z => absurd rfl z⟩)
              refine hbad 2 c I3 J1 rfl (fr_trans hO2 (fr_mono (by decide) o3)) hE1 q1 q2 (fun j hj => ?_)
              rw [fr_rw1 o3 232 rfl]
              exact hM2.2.2.2.2.2 j hj
        have b5 : (ix_u2 I1 236 fs.length 0) 235 fs.length = f.2.1 := by rw [u2_c (by decide)]; exact a2
        have b4 : (ix_u2 I1 236 fs.length 0) 234 fs.length = nI f.1 := by rw [u2_c (by decide)]; exact a1
        have b6 : (ix_u2 I1 236 fs.length 0) 236 fs.length = 0 := by simp [u2_e]
        have c4 : yfr fs (ix_u2 I1 236 fs.length 0) := yfr_cg (fun d hd => by
          have ne : d ≠ fs.length := by omega
          simp [u2_e, ne]) a4
        rw [b5]
        refine ⟨fun z => g2 _ _ hO2 hE1 ?_ b4 b6 c4, fun z => ⟨ii, ?_⟩⟩
        · have : yo f.2.1 = [] := by unfold yo; rw [if_pos z]
          rw [this, List.append_nil]
          exact hM2
        · have e2 : yo f.2.1 = [(f.2.1, 0)] := by unfold yo; rw [if_neg z]
          refine yM_pt hM2 (by have := yb_le f.2.1; have : yb_ f.2.1 = 1 := by { unfold yb_; rw [if_neg z] }; omega) (fun I3 J3 o3 r3 hM3 => ?_)
          rw [List.append_assoc, ← e2] at hM3
          refine g2 I3 J3 (fr_trans hO2 (fr_mono (by decide) o3)) (fr_trans hE1 (fr_mono (by decide) r3)) hM3 ?_ ?_ (yfr_fr o3 rfl c4)
          · rw [fr_rw1 o3 234 rfl]; exact b4
          · rw [fr_rw1 o3 236 rfl]; exact b6
      apply hV
      unfold wb_X12_sum_10
      rw [d5, f3]
      refine ⟨fun _ => ⟨fun _ => ⟨ii, fun z => ?_, fun z => ⟨ii, ?_⟩⟩, fun z => absurd rfl z⟩, fun z => absurd e22 z⟩
      · have : yo f.2.2 = [] := by unfold yo; rw [if_pos z]
        rw [this, List.append_nil] at g1
        exact g1 I J hO hE hM f1 f2 f4
      · have e2 : yo f.2.2 = [(f.2.2, 0)] := by unfold yo; rw [if_neg z]
        refine yM_pt hM (by have : yb_ f.2.2 = 1 := by { unfold yb_; rw [if_neg z] }; omega) (fun I3 J3 o3 r3 hM3 => ?_)
        rw [List.append_assoc, ← e2] at hM3
        refine g1 I3 J3 (fr_trans hO (fr_mono (by decide) o3)) (fr_trans hE (fr_mono (by decide) r3)) hM3 ?_ ?_ (yfr_fr o3 rfl f4)
        · rw [fr_rw1 o3 234 rfl]; exact f1
        · rw [fr_rw1 o3 235 rfl]; exact f2
