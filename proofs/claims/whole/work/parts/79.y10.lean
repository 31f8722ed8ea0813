/-! treaties: a clause in pure words, and how the reference reads it -/
abbrev YC : Type := Nat × Bool × Int32 × Int32 × List (Bool × YO) × List YG
def yc5 (K : Nat → Int32) (v : Nat → Int64) (c : Nat) (th : Bool) (fr to : Int32) (ws : List (Bool × YO)) (c6 : Nat) : Sum (Int32 × Nat) (YC × Nat) :=
  if K c6 = 5 then (match ysm K v 700 (c6 + 1) (0, 0, 0) [] true [] with
    | .inl e => .inl e
    | .inr (sm, c7) => if K c7 = 59 then .inr ((c, th, fr, to, ws, sm), c7 + 1) else .inl (2, c7)) else .inl (2, c6)
def yc4 (K : Nat → Int32) (v : Nat → Int64) (c : Nat) (th : Bool) (fr to : Int32) (c5 : Nat) : Sum (Int32 × Nat) (YC × Nat) :=
  if K c5 = 4 then (match yte K v 700 (c5 + 1) true [] with
    | .inl e => .inl e
    | .inr (ws, c6) => yc5 K v c th fr to ws c6) else yc5 K v c th fr to [] c5
def yc3 (K : Nat → Int32) (v : Nat → Int64) (c : Nat) (th : Bool) (fr : Int32) (c4 : Nat) : Sum (Int32 × Nat) (YC × Nat) :=
  if K c4 = 3 then (match yli K v 700 (c4 + 1) 0 with
    | .inl e => .inl e
    | .inr (to, c5) => yc4 K v c th fr to c5) else yc4 K v c th fr 0 c4
def yc2 (K : Nat → Int32) (v : Nat → Int64) (c : Nat) (th : Bool) (c3 : Nat) : Sum (Int32 × Nat) (YC × Nat) :=
  if K c3 = 2 then (match yli K v 700 (c3 + 1) 0 with
    | .inl e => .inl e
    | .inr (fr, c4) => yc3 K v c th fr c4) else yc3 K v c th 0 c3
def yc1 (K : Nat → Int32) (v N : Nat → Int64) (nm : List Nat) (c : Nat) : Sum (Int32 × Nat) (YC × Nat) :=
  if K c = 18 then (if nm.length = 12 then .inl (3, c) else if nm.any (fun d => decide (N d = N c)) then .inl (4, c)
    else if K (c + 1) = 58 then (if K (c + 2) = 0 then yc2 K v c false (c + 3) else if K (c + 2) = 1 then yc2 K v c true (c + 3) else .inl (2, c + 2)) else .inl (2, c + 1)) else .inl (2, c)
theorem yli_b1 : ∀ m : Fin 128, ∀ j : Fin 7, (nI m.1 ||| (1 <<< (nI j.1 &&& 31))) = nI (m.1 ||| 2 ^ j.1) ∧ 0 < (m.1 ||| 2 ^ j.1) ∧ (m.1 ||| 2 ^ j.1) < 128 := by decide +kernel
theorem yli_nz {K : Nat → Int32} {v : Nat → Int64} (hv : ∀ c, K c = 20 → ∃ n : Nat, n ≤ 9999999 ∧ v c = lZ n) : ∀ m c x y c', (∃ k : Nat, k < 128 ∧ x = nI k) → yli K v m c x = .inr (y, c') → (∃ k : Nat, 0 < k ∧ k < 128 ∧ y = nI k) ∧ c + 1 ≤ c' := by
  intro m
  induction m with
  | zero => intro c x y c' _ h; rw [yli] at h; cases h
  | succ m ih =>
    rintro c x y c' ⟨k, hk, ex⟩ h
    rw [yli] at h
    split at h
    · next h20 =>
      obtain ⟨n, hn, en⟩ := hv c h20
      split at h
      · next h6 =>
        split at h
        · have h6 : (n : Int) ≤ 6 := by
            rw [en, show (6 : Int64) = lZ 6 from rfl, lZ_le (by omega) (by omega)] at h6
            exact h6
          have e32 : (v c).toInt32 = nI n := by rw [en, lZ_32]; rfl
          rw [e32, ex] at h
          obtain ⟨b1, b2, b3⟩ := yli_b1 ⟨k, hk⟩ ⟨n, by omega⟩
          simp only at b1 b2 b3
          rw [b1] at h
          split at h
          · have := ih _ _ _ _ ⟨_, b3, rfl⟩ h
            exact ⟨this.1, by omega⟩
          · have h := Sum.inr.inj h
            have h1 := congrArg Prod.fst h
            have h2 := congrArg Prod.snd h
            simp only at h1 h2
            exact ⟨⟨_, b2, b3, h1.symm⟩, by omega⟩
        · cases h
      · cases h
    · cases h
def yC1 (b : Nat → Int32) (n S O t : Nat) (o : List YG) (w : List YP) (x : YC) (i : Nat) (I : Nat → Nat → Int32) (J : Nat → Nat → Int64) : Prop :=
  J 224 (12 * t + i) = yna b n x.1 ∧ yk b n x.1 = 18 ∧ I 217 (12 * t + i) = s01_ x.2.1 ∧ I 218 (12 * t + i) = (if x.2.2.1 = 0 then -1 else x.2.2.1) ∧ I 219 (12 * t + i) = (if x.2.2.2.1 = 0 then -1 else x.2.2.2.1) ∧ ∃ a p sA, I 220 (12 * t + i) = nI (O + a) ∧ I 221 (12 * t + i) = nI (O + a + x.2.2.2.2.1.length) ∧ I 222 (12 * t + i) = nI (S + sA) ∧ I 223 (12 * t + i) = nI (S + sA + x.2.2.2.2.2.length) ∧ a + x.2.2.2.2.1.length ≤ w.length ∧ (∀ j y, (yrc p x.2.2.2.2.1)[j]? = some y → w[a + j]? = some y) ∧ (∀ j y, (yss x.2.2.2.2.1)[j]? = some y → o[p + j]? = some y) ∧ ∀ j y, x.2.2.2.2.2[j]? = some y → o[sA + j]? = some y
theorem yC1_to {b : Nat → Int32} {n S O t i : Nat} {o o2 : List YG} {w w2 : List YP} {x : YC} {I I2 : Nat → Nat → Int32} {J J2 : Nat → Nat → Int64} (h : yC1 b n S O t o w x i I J) (hI : ∀ a, 217 ≤ a → a ≤ 223 → I2 a (12 * t + i) = I a (12 * t + i)) (hJ : J2 224 (12 * t + i) = J 224 (12 * t + i)) (ho : ∀ (j : Nat) y, o[j]? = some y → o2[j]? = some y) (hw : ∀ (j : Nat) y, w[j]? = some y → w2[j]? = some y) (hl : w.length ≤ w2.length) : yC1 b n S O t o2 w2 x i I2 J2 := by
  obtain ⟨h1, h2, h3, h4, h5, a, p, sA, h6, h7, h8, h9, h9b, h10, h11, h12⟩ := h
  refine ⟨by rw [hJ]; exact h1, h2, ?_, ?_, ?_, a, p, sA, ?_, ?_, ?_, ?_, Nat.le_trans h9b hl, fun j y e => hw _ _ (h10 j y e), fun j y e => ho _ _ (h11 j y e), fun j y e => ho _ _ (h12 j y e)⟩
  · rw [hI _ (by decide) (by decide)]; exact h3
  · rw [hI _ (by decide) (by decide)]; exact h4
  · rw [hI _ (by decide) (by decide)]; exact h5
  · rw [hI _ (by decide) (by decide)]; exact h6
  · rw [hI _ (by decide) (by decide)]; exact h7
  · rw [hI _ (by decide) (by decide)]; exact h8
  · rw [hI _ (by decide) (by decide)]; exact h9
def yM4 (b : Nat → Int32) (n S O t : Nat) (R : Nat → Nat → Int32) (RJ : Nat → Nat → Int64) (c : Nat) (o : List YG) (w : List YP) (q : List YC) (I : Nat → Nat → Int32) (J : Nat → Nat → Int64) : Prop :=
  yM1 b n S (R 232) (RJ 233) c o I J ∧ yM2 S O R w I ∧ I 204 24 = nI t ∧ I 216 t = nI q.length ∧ (∀ i x, q[i]? = some x → yC1 b n S O t o w x i I J) ∧ (∀ a j, 217 ≤ a → a ≤ 223 → j < 12 * t → I a j = R a j) ∧ ∀ j, j ≠ t → I 216 j = R 216 j
theorem yM4_to {b : Nat → Int32} {n S O t c c2 : Nat} {R : Nat → Nat → Int32} {RJ : Nat → Nat → Int64} {o o2 : List YG} {w w2 : List YP} {q : List YC} {I I2 : Nat → Nat → Int32} {J J2 : Nat → Nat → Int64} {D E : List fr_R} (h : yM4 b n S O t R RJ c o w q I J) (o1 : fr_off D I I2) (r1 : fr_off E J J2) (d : ((!fr_in D 204 24) && fr_rw D 216 224) = true) (e : fr_rw E 224 225 = true) (m1 : yM1 b n S (R 232) (RJ 233) c2 (o ++ o2) I2 J2) (m2 : yM2 S O R (w ++ w2) I2) : yM4 b n S O t R RJ c2 (o ++ o2) (w ++ w2) q I2 J2 := by
  simp only [Bool.and_eq_true, Bool.not_eq_true'] at d
  have er : ∀ a, 216 ≤ a → a ≤ 223 → I2 a = I a := fun a h1 h2 => fr_row o1 d.2 h1 (by omega)
  have ej : J2 224 = J 224 := fr_rw1 r1 224 e
  obtain ⟨-, -, h3, h4, h5, h6, h7⟩ := h
  refine ⟨m1, m2, ?_, ?_, fun i x hx => yC1_to (h5 i x hx) (fun a h1 h2 => by rw [er a (by omega) h2]) (by rw [ej]) (fun j y hy => ?_) (fun j y hy => ?_) (by rw [List.length_append]; omega), fun a j h1 h2 h3 => ?_, ?_⟩
  · rw [fr_at 204 24 o1 d.1]; exact h3
  · rw [er 216 (by omega) (by omega)]; exact h4
  · rw [List.getElem?_append_left (List.getElem?_eq_some_iff.mp hy).1]; exact hy
  · rw [List.getElem?_append_left (List.getElem?_eq_some_iff.mp hy).1]; exact hy
  · rw [er a (by omega) h2]; exact h6 a j h1 h2 h3
  · rw [er 216 (by omega) (by omega)]; exact h7
theorem yM4_nx {b : Nat → Int32} {n S O t c : Nat} {R : Nat → Nat → Int32} {RJ : Nat → Nat → Int64} {o : List YG} {w : List YP} {q : List YC} {I : Nat → Nat → Int32} {J : Nat → Nat → Int64} {T : Option Nat} {P : (Nat → Nat → Int32) → (Nat → Nat → Int64) → Option Nat → Prop} (h : yM4 b n S O t R RJ c o w q I J) (hP : ∀ I2 J2, fr_off [(204, 205, 17, 20)] I I2 → fr_off [(204, 205, 23, 24)] J J2 → yM4 b n S O t R RJ (c + 1) o w q I2 J2 → P I2 J2 T) : wp_X12_next I J T P := yM_nx h.1 (fun I2 J2 o1 r1 m1 => hP I2 J2 o1 r1 (by
  have := yM4_to (o2 := []) (w2 := []) h o1 r1 rfl rfl (by rw [List.append_nil]; exact m1) (by rw [List.append_nil]; exact yM2_fr h.2.1 o1 rfl)
  rw [List.append_nil, List.append_nil] at this
  exact this))
/-- a row of the new clause is written -/
theorem yM4_w {b : Nat → Int32} {n S O t c : Nat} {R : Nat → Nat → Int32} {RJ : Nat → Nat → Int64} {o : List YG} {w : List YP} {q : List YC} {I : Nat → Nat → Int32} {J : Nat → Nat → Int64} {a g : Nat} {v : Int32} (h : yM4 b n S O t R RJ c o w q I J) (ha : 217 ≤ a ∧ a ≤ 223) (hg : g = 12 * t + q.length) (hg2 : g < 60) : yM4 b n S O t R RJ c o w q (ix_u2 I a g v) J := by
  obtain ⟨h1, h2, h3, h4, h5, h6, h7⟩ := h
  have o1 : fr_off [(217, 224, 0, 2147483648)] I (ix_u2 I a g v) := fun a2 j hq => by
    rw [u2_e]
    by_cases e : a2 = a
    · by_cases e2 : j = g
      · exfalso
        rw [e, e2] at hq
        have : fr_in [(217, 224, 0, 2147483648)] a g = true := by
          simp only [fr_in, fr_1, List.any_cons, List.any_nil, Bool.or_false, Bool.and_eq_true, Nat.ble_eq, Nat.blt_eq]
          omega
        rw [this] at hq; cases hq
      · rw [if_pos e, if_neg e2]
    · rw [if_neg e]
  refine ⟨yM1_fr h1 o1 (fr_refl (D := [])) rfl rfl, yM2_fr h2 o1 rfl, ?_, ?_, fun i x hx => yC1_to (h5 i x hx) (fun a2 _ _ => ?_) rfl (fun _ _ hy => hy) (fun _ _ hy => hy) (Nat.le_refl _), fun a2 j k1 k2 k3 => ?_, fun j hj => ?_⟩
  · rw [u2_c (by omega)]; exact h3
  · rw [u2_c (by omega)]; exact h4
  · have := (List.getElem?_eq_some_iff.mp hx).1
    rw [u2_e, if_neg (show ¬ 12 * t + i = g by omega)]; split <;> rfl
  · rw [u2_e, if_neg (show ¬ j = g by omega)]
    rw [← h6 a2 j k1 k2 k3]; split <;> rfl
  · rw [u2_c (by omega)]; exact h7 j hj
theorem yM4_wj {b : Nat → Int32} {n S O t c : Nat} {R : Nat → Nat → Int32} {RJ : Nat → Nat → Int64} {o : List YG} {w : List YP} {q : List YC} {I : Nat → Nat → Int32} {J : Nat → Nat → Int64} {g : Nat} {v : Int64} (h : yM4 b n S O t R RJ c o w q I J) (hg : g = 12 * t + q.length) (hg2 : g < 60) : yM4 b n S O t R RJ c o w q I (ix_u2 J 224 g v) := by
  obtain ⟨h1, h2, h3, h4, h5, h6, h7⟩ := h
  have o1 : fr_off [(224, 225, 0, 2147483648)] J (ix_u2 J 224 g v) := fr_putn rfl (by omega) fr_refl
  refine ⟨yM1_fr h1 (fr_refl (D := [])) o1 rfl rfl, h2, h3, h4, fun i x hx => yC1_to (h5 i x hx) (fun a2 _ _ => rfl) ?_ (fun _ _ hy => hy) (fun _ _ hy => hy) (Nat.le_refl _), h6, h7⟩
  have := (List.getElem?_eq_some_iff.mp hx).1
  rw [u2_e, if_neg (show ¬ 12 * t + i = g by omega)]; split <;> rfl
def ylow (S O t : Nat) (R : Nat → Nat → Int32) (RJ : Nat → Nat → Int64) (I : Nat → Nat → Int32) (J : Nat → Nat → Int64) : Prop := (∀ j, j < S → I 232 j = R 232 j ∧ J 233 j = RJ 233 j) ∧ (∀ a j, 225 ≤ a → a ≤ 231 → j < O → I a j = R a j) ∧ (∀ a j, 217 ≤ a → a ≤ 223 → j < 12 * t → I a j = R a j) ∧ ∀ j, j ≠ t → I 216 j = R 216 j
theorem yM4_low {b : Nat → Int32} {n S O t c : Nat} {R : Nat → Nat → Int32} {RJ : Nat → Nat → Int64} {o : List YG} {w : List YP} {q : List YC} {I I2 : Nat → Nat → Int32} {J : Nat → Nat → Int64} (h : yM4 b n S O t R RJ c o w q I J) (o1 : fr_off [(204, 205, 21, 23)] I I2) : ylow S O t R RJ I2 J := by
  obtain ⟨h1, h2, h3, h4, h5, h6, h7⟩ := h
  refine ⟨fun j hj => ?_, fun a j k1 k2 k3 => ?_, fun a j k1 k2 k3 => ?_, fun j hj => ?_⟩
  · rw [fr_rw1 o1 232 rfl]; exact h1.2.2.2.2.2 j hj
  · rw [fr_row o1 (show fr_rw [(204, 205, 21, 23)] 225 232 = true from rfl) k1 (by omega)]; exact h2.2.2 a j k1 k2 k3
  · rw [fr_row o1 (show fr_rw [(204, 205, 21, 23)] 217 224 = true from rfl) k1 (by omega)]; exact h6 a j k1 k2 k3
  · rw [fr_rw1 o1 216 rfl]; exact h7 j hj
def yDC : List fr_R := [(204, 205, 17, 20), (204, 205, 21, 23), (204, 205, 44, 46), (216, 224, 0, 2147483648), (225, 233, 0, 2147483648), (234, 237, 0, 2147483648)]
def yEC : List fr_R := [(204, 205, 23, 24), (224, 225, 0, 2147483648), (233, 234, 0, 2147483648)]
/-- fails at token c' -/
theorem yM4_fl {b : Nat → Int32} {n S O t c : Nat} {R : Nat → Nat → Int32} {RJ : Nat → Nat → Int64} {o : List YG} {w : List YP} {q : List YC} {k : Int32} {I0 I : Nat → Nat → Int32} {J0 J : Nat → Nat → Int64} {T : Option Nat} {P : Int32 → (Nat → Nat → Int32) → (Nat → Nat → Int64) → Option Nat → Prop} (h : yM4 b n S O t R RJ c o w q I J) (hO : fr_off yDC I0 I) (hE : fr_off yEC J0 J) (hP : ∀ I2, fr_off yDC I0 I2 → fr_off yEC J0 J → I2 204 22 = yft b n c k → I2 204 21 = nI (yps b n c) → ylow S O t R RJ I2 J → P 0 I2 J T) : wp_X12_fail k I J T (fun v97 I97 J97 T97 => ix_01 v97 = true ∧ P v97 I97 J97 T97) := yM_fl h.1 (fun I2 o2 f1 f2 => ⟨by decide, hP I2 (fr_trans hO (fr_mono (by decide) o2)) hE f1 f2 (yM4_low h o2)⟩)
