/-! telling: the model's loops -/
def ms_ (b : Nat) : Int32 := if b = 2147483647 then -1 else nI b
def st_ (I : Nat → Nat → Int32) (s : Nat × (Nat → Nat)) : Prop := s.1 ≤ 2147483647 ∧ (s.1 = 2147483647 ∨ ∀ j, j < 3 → I 253 j = nI (s.2 j))
theorem lp_t137 {x1 x2 x3 x4 x5 : Int32} {I : Nat → Nat → Int32} {J : Nat → Nat → Int64} {T : Option Nat} {P : Int32 → (Nat → Nat → Int32) → (Nat → Nat → Int64) → Option Nat → Prop} {I0 : Nat → Nat → Int32} {V20 : Int32 → Int32 → Int32 → (Nat → Nat → Int32) → (Nat → Nat → Int64) → Option Nat → Prop} {V40 : Int32 → Int32 → Int32 → Int32 → (Nat → Nat → Int32) → (Nat → Nat → Int64) → Option Nat → Prop} {V71 : Int32 → Int32 → Int32 → Int32 → Int32 → (Nat → Nat → Int32) → (Nat → Nat → Int64) → Option Nat → Prop} (o0 : fr_off [(253, 255, 0, 2147483648)] I I0) (nx : ∀ I2, fr_off [(253, 255, 0, 2147483648)] I I2 → (∀ j, j < 3 → I2 253 j = I0 254 j) → V71 x1 x2 x3 x4 (x5 + 1) I2 J T) : wl_X12_telling_137_20_40_71 x1 x2 x3 x4 x5 0 I0 J T V20 V40 V71 P := by
  intro V hV
  have key : ∀ m j : Nat, ∀ I1 : Nat → Nat → Int32, j + m = 3 → fr_off [(253, 255, 0, 2147483648)] I I1 → (∀ y, I1 254 y = I0 254 y) → (∀ y, y < j → I1 253 y = I0 254 y) → V x1 x2 x3 x4 x5 (nI j) I1 J T := by
    intro m
    induction m with
    | zero =>
      intro j I1 hj o q t
      have hj : j = 3 := by omega
      subst hj
      apply hV
      unfold wb_X12_telling_137_20_40_71
      exact ⟨fun z => absurd z (by decide), fun _ => nx I1 o t⟩
    | succ m ih =>
      intro j I1 hj o q t
      have fj : ix_inb (nI j) 3 = true := nI_in2 (by omega) (by decide)
      apply hV
      unfold wb_X12_telling_137_20_40_71
      rw [nI_clamp (show j < 2 ^ 31 by omega), q j, nI_1]
      refine ⟨fun _ => ⟨fj, fj, ih (j + 1) _ (by omega) (fr_putn rfl (by omega) o) (fun y => by rw [u2_c (by decide)]; exact q y) (fun y hy => ?_)⟩, fun z => absurd (nI_lt (a := j) (b := 3) (by omega) (by omega)) z⟩
      by_cases c : y = j
      · subst c; simp [u2_e]
      · rw [u2_j c]; exact t y (by omega)
  exact key 3 0 I0 (by omega) o0 (fun _ => rfl) (fun y hy => by omega)
theorem lp_tst {w n a b c : Nat} {K : Nat → Nat → Nat} {s : Nat × (Nat → Nat)} (hw : 1 ≤ w) (hw3 : w ≤ 3) (hn : n ≤ 8) (ha : a < 52) (hb : b < 52) (hc : c < 52) {I : Nat → Nat → Int32} {J : Nat → Nat → Int64} {T : Option Nat} {P : Int32 → (Nat → Nat → Int32) → (Nat → Nat → Int64) → Option Nat → Prop} {V20 : Int32 → Int32 → Int32 → (Nat → Nat → Int32) → (Nat → Nat → Int64) → Option Nat → Prop} {V40 : Int32 → Int32 → Int32 → Int32 → (Nat → Nat → Int32) → (Nat → Nat → Int64) → Option Nat → Prop} {V71 : Int32 → Int32 → Int32 → Int32 → Int32 → (Nat → Nat → Int32) → (Nat → Nat → Int64) → Option Nat → Prop} (n2 : I 204 65 = nI n) (hK : ∀ k, k < n → ∀ i, i < 52 → I 251 (52 * k + i) = nI (K k i) ∧ K k i ≤ 10000) {I0 : Nat → Nat → Int32} (o0 : fr_off [(253, 255, 0, 2147483648)] I I0) (hs : st_ I0 s) (nx : ∀ I2, fr_off [(253, 255, 0, 2147483648)] I I2 → st_ I2 (up_ K w n (dd_ a b c) s) → V71 (nI w) (ms_ (up_ K w n (dd_ a b c) s).1) (nI a) (nI b) (nI (c + 1)) I2 J T) : wp_X12_farOff (nI w) (ix_u2 (ix_u2 (ix_u2 I0 254 ((0 : Int32)).toNatClampNeg (nI a)) 254 ((1 : Int32)).toNatClampNeg (nI b)) 254 ((2 : Int32)).toNatClampNeg (nI c)) J T (fun v20 I20 J20 T20 => ((ms_ s.1 = (-1 : Int32) → wl_X12_telling_137_20_40_71 (nI w) (v20) (nI a) (nI b) (nI c) ((0 : Int32)) I20 J20 T20 V20 V40 V71 P) ∧ (¬ (ms_ s.1 = (-1 : Int32)) → ((v20 < ms_ s.1 → wl_X12_telling_137_20_40_71 (nI w) (v20) (nI a) (nI b) (nI c) ((0 : Int32)) I20 J20 T20 V20 V40 V71 P) ∧ (¬ (v20 < ms_ s.1) → V71 (nI w) (ms_ s.1) (nI a) (nI b) (nI c + (1 : Int32)) I20 J20 T20))))) := by
  have hd : ∀ j, j < w → dd_ a b c j < 52 := fun j hj => by
    unfold dd_
    split
    · exact ha
    · split
      · exact hb
      · exact hc
  have fb : ft_ K (dd_ a b c) w n ≤ 520000 * n := sN_le (fun k hk => (tl_bd (K := K) hw (fun i hi => (hK k hk i hi).2) hd).2.2.2)
  generalize hI9 : (ix_u2 (ix_u2 (ix_u2 I0 254 ((0 : Int32)).toNatClampNeg (nI a)) 254 ((1 : Int32)).toNatClampNeg (nI b)) 254 ((2 : Int32)).toNatClampNeg (nI c)) = I9
  have o9 : fr_off [(253, 255, 0, 2147483648)] I I9 := by
    subst hI9
    exact fr_put rfl (fr_put rfl (fr_put rfl o0))
  have q9 : ∀ j, j < 3 → I9 254 j = nI (dd_ a b c j) := fun j hj => by
    subst hI9
    match j, hj with
    | 0, _ => rfl
    | 1, _ => rfl
    | 2, _ => rfl
  have s9 : st_ I9 s := by
    subst hI9
    refine ⟨hs.1, hs.2.imp id (fun q j hj => ?_)⟩
    rw [u2_c (by decide), u2_c (by decide), u2_c (by decide)]
    exact q j hj
  refine fn_farM (d := dd_ a b c) (K := K) (n := n) hw hw3 hn (by rw [fr_at 204 65 o9 rfl]; exact n2) (fun j hj => ⟨q9 j (by omega), hd j hj⟩) (fun k hk i hi => by rw [fr_rw1 o9 251 rfl]; exact hK k hk i hi) ?_
  have cp : ft_ K (dd_ a b c) w n < s.1 → wl_X12_telling_137_20_40_71 (nI w) (nI (ft_ K (dd_ a b c) w n)) (nI a) (nI b) (nI c) ((0 : Int32)) I9 J T V20 V40 V71 P := fun z => lp_t137 o9 (fun I2 o2 q2 => by
    have := nx I2 o2
    unfold up_ at this
    rw [if_pos z] at this
    have e : ms_ (ft_ K (dd_ a b c) w n) = nI (ft_ K (dd_ a b c) w n) := if_neg (by omega)
    have t2 := this ⟨by show ft_ K (dd_ a b c) w n ≤ _; omega, Or.inr (fun j hj => (q2 j hj).trans (q9 j hj))⟩
    rw [nI_1, ← e]
    exact t2)
  have l1 := hs.1
  by_cases m1 : s.1 = 2147483647
  · have e : ms_ s.1 = -1 := if_pos m1
    rw [e]
    exact ⟨fun _ => cp (by omega), fun z => absurd rfl z⟩
  · have e : ms_ s.1 = nI s.1 := if_neg m1
    have ne : ¬ nI s.1 = -1 := fun z => by
      have := congrArg Int32.toInt z
      rw [nI_toInt (by omega)] at this
      have : (s.1 : Int) = -1 := this
      omega
    rw [e, nI_ltI (by omega) (by omega)]
    refine ⟨fun z => absurd z ne, fun _ => ⟨cp, fun z => ?_⟩⟩
    have := nx I9 o9
    unfold up_ at this
    rw [if_neg z, e] at this
    rw [nI_1]
    exact this s9
theorem lp_t71 {w n a b : Nat} {K : Nat → Nat → Nat} (hw : 1 ≤ w) (hw3 : w ≤ 3) (hn : n ≤ 8) (ha : a < 52) (hb : b < 52) {I : Nat → Nat → Int32} {J : Nat → Nat → Int64} {T : Option Nat} {P : Int32 → (Nat → Nat → Int32) → (Nat → Nat → Int64) → Option Nat → Prop} {V20 : Int32 → Int32 → Int32 → (Nat → Nat → Int32) → (Nat → Nat → Int64) → Option Nat → Prop} {V40 : Int32 → Int32 → Int32 → Int32 → (Nat → Nat → Int32) → (Nat → Nat → Int64) → Option Nat → Prop} (n2 : I 204 65 = nI n) (hK : ∀ k, k < n → ∀ i, i < 52 → I 251 (52 * k + i) = nI (K k i) ∧ K k i ≤ 10000) {m0 c0 : Nat} {s0 : Nat × (Nat → Nat)} {I0 : Nat → Nat → Int32} (h0 : e2_ w - c0 = m0) (c0b : c0 ≤ 53) (o0 : fr_off [(253, 255, 0, 2147483648)] I I0) (hs : st_ I0 s0) (nx : ∀ I2, fr_off [(253, 255, 0, 2147483648)] I I2 → st_ I2 (mC_ K w n a b m0 c0 s0) → V40 (nI w) (ms_ (mC_ K w n a b m0 c0 s0).1) (nI a) (nI (b + 1)) I2 J T) : wl_X12_telling_71_20_40 (nI w) (ms_ s0.1) (nI a) (nI b) (nI c0) I0 J T V20 V40 P := by
  intro V hV
  have key : ∀ m c : Nat, ∀ (s : Nat × (Nat → Nat)) (I1 : Nat → Nat → Int32), e2_ w - c = m → c ≤ 53 → fr_off [(253, 255, 0, 2147483648)] I I1 → st_ I1 s → mC_ K w n a b m c s = mC_ K w n a b m0 c0 s0 → V (nI w) (ms_ s.1) (nI a) (nI b) (nI c) I1 J T := by
    intro m
    induction m with
    | zero =>
      intro c s I1 hc hc3 o q e
      have e : s = mC_ K w n a b m0 c0 s0 := e
      have nx := nx I1 o (by rw [← e]; exact q)
      rw [← e] at nx
      unfold e2_ at hc
      apply hV
      unfold wb_X12_telling_71_20_40
      simp only [nI_1]
      by_cases c3 : w < 3
      · rw [if_pos c3] at hc
        exact ⟨fun _ => ⟨fun z => absurd z (nI_nlt (a := c) (b := 1) (by omega) (by omega)), fun _ => nx⟩, fun z => absurd (nI_lt (a := w) (b := 3) (by omega) (by omega)) z⟩
      · rw [if_neg c3] at hc
        exact ⟨fun z => absurd z (nI_nlt (a := w) (b := 3) (by omega) (by omega)), fun _ => ⟨fun z => absurd z (nI_nlt (a := c) (b := 52) (by omega) (by omega)), fun _ => nx⟩⟩
    | succ m ih =>
      intro c s I1 hc hc3 o q e
      have hc52 : c < 52 := by
        unfold e2_ at hc
        by_cases c3 : w < 3
        · rw [if_pos c3] at hc; omega
        · rw [if_neg c3] at hc; omega
      apply hV
      unfold wb_X12_telling_71_20_40
      have st := lp_tst (P := P) (J := J) (T := T) (V20 := V20) (V40 := V40) (V71 := V) (K := K) (s := s) hw hw3 hn ha hb hc52 n2 hK o q (fun I2 o2 s2 => ih (c + 1) _ I2 (by omega) (by omega) o2 s2 e)
      unfold e2_ at hc
      by_cases c3 : w < 3
      · rw [if_pos c3] at hc
        exact ⟨fun _ => ⟨fun _ => st, fun z => absurd (nI_lt (a := c) (b := 1) (by omega) (by omega)) z⟩, fun z => absurd (nI_lt (a := w) (b := 3) (by omega) (by omega)) z⟩
      · rw [if_neg c3] at hc
        exact ⟨fun z => absurd z (nI_nlt (a := w) (b := 3) (by omega) (by omega)), fun _ => ⟨fun _ => st, fun z => absurd (nI_lt (a := c) (b := 52) (by omega) (by omega)) z⟩⟩
  exact key m0 c0 s0 I0 h0 c0b o0 hs rfl
theorem lp_t40 {w n a : Nat} {K : Nat → Nat → Nat} (hw : 1 ≤ w) (hw3 : w ≤ 3) (hn : n ≤ 8) (ha : a < 52) {I : Nat → Nat → Int32} {J : Nat → Nat → Int64} {T : Option Nat} {P : Int32 → (Nat → Nat → Int32) → (Nat → Nat → Int64) → Option Nat → Prop} {V20 : Int32 → Int32 → Int32 → (Nat → Nat → Int32) → (Nat → Nat → Int64) → Option Nat → Prop} (n2 : I 204 65 = nI n) (hK : ∀ k, k < n → ∀ i, i < 52 → I 251 (52 * k + i) = nI (K k i) ∧ K k i ≤ 10000) {m0 b0 : Nat} {s0 : Nat × (Nat → Nat)} {I0 : Nat → Nat → Int32} (h0 : e1_ w - b0 = m0) (b0b : b0 ≤ 53) (o0 : fr_off [(253, 255, 0, 2147483648)] I I0) (hs : st_ I0 s0) (nx : ∀ I2, fr_off [(253, 255, 0, 2147483648)] I I2 → st_ I2 (mB_ K w n a m0 b0 s0) → V20 (nI w) (ms_ (mB_ K w n a m0 b0 s0).1) (nI (a + 1)) I2 J T) : wl_X12_telling_40_20 (nI w) (ms_ s0.1) (nI a) (nI b0) I0 J T V20 P := by
  intro V hV
  have key : ∀ m b : Nat, ∀ (s : Nat × (Nat → Nat)) (I1 : Nat → Nat → Int32), e1_ w - b = m → b ≤ 53 → fr_off [(253, 255, 0, 2147483648)] I I1 → st_ I1 s → mB_ K w n a m b s = mB_ K w n a m0 b0 s0 → V (nI w) (ms_ s.1) (nI a) (nI b) I1 J T := by
    intro m
    induction m with
    | zero =>
      intro b s I1 hc hc3 o q e
      have e : s = mB_ K w n a m0 b0 s0 := e
      have nx := nx I1 o (by rw [← e]; exact q)
      rw [← e] at nx
      unfold e1_ at hc
      apply hV
      unfold wb_X12_telling_40_20
      simp only [nI_1]
      by_cases c3 : w < 2
      · rw [if_pos c3] at hc
        exact ⟨fun _ => ⟨fun z => absurd z (nI_nlt (a := b) (b := 1) (by omega) (by omega)), fun _ => nx⟩, fun z => absurd (nI_lt (a := w) (b := 2) (by omega) (by omega)) z⟩
      · rw [if_neg c3] at hc
        exact ⟨fun z => absurd z (nI_nlt (a := w) (b := 2) (by omega) (by omega)), fun _ => ⟨fun z => absurd z (nI_nlt (a := b) (b := 52) (by omega) (by omega)), fun _ => nx⟩⟩
    | succ m ih =>
      intro b s I1 hc hc3 o q e
      have hb52 : b < 52 := by
        unfold e1_ at hc
        by_cases c3 : w < 2
        · rw [if_pos c3] at hc; omega
        · rw [if_neg c3] at hc; omega
      apply hV
      unfold wb_X12_telling_40_20
      have st : wl_X12_telling_71_20_40 (nI w) (ms_ s.1) (nI a) (nI b) (nI (s2_ w b)) I1 J T V20 V P := lp_t71 (K := K) hw hw3 hn ha hb52 n2 hK rfl (by unfold s2_; split <;> omega) o q (fun I2 o2 s2 => ih (b + 1) _ I2 (by omega) (by omega) o2 s2 e)
      have st2 : (nI w < (3 : Int32) → wl_X12_telling_71_20_40 (nI w) (ms_ s.1) (nI a) (nI b) ((0 : Int32)) I1 J T V20 V P) ∧ (¬ (nI w < (3 : Int32)) → wl_X12_telling_71_20_40 (nI w) (ms_ s.1) (nI a) (nI b) (nI b + (1 : Int32)) I1 J T V20 V P) := by
        unfold s2_ at st
        by_cases c3 : w < 3
        · rw [if_pos c3] at st
          exact ⟨fun _ => st, fun z => absurd (nI_lt (a := w) (b := 3) (by omega) (by omega)) z⟩
        · rw [if_neg c3] at st
          rw [nI_1]
          exact ⟨fun z => absurd z (nI_nlt (a := w) (b := 3) (by omega) (by omega)), fun _ => st⟩
      unfold e1_ at hc
      by_cases c3 : w < 2
      · rw [if_pos c3] at hc
        exact ⟨fun _ => ⟨fun _ => st2, fun z => absurd (nI_lt (a := b) (b := 1) (by omega) (by omega)) z⟩, fun z => absurd (nI_lt (a := w) (b := 2) (by omega) (by omega)) z⟩
      · rw [if_neg c3] at hc
        exact ⟨fun z => absurd z (nI_nlt (a := w) (b := 2) (by omega) (by omega)), fun _ => ⟨fun _ => st2, fun z => absurd (nI_lt (a := b) (b := 52) (by omega) (by omega)) z⟩⟩
  exact key m0 b0 s0 I0 h0 b0b o0 hs rfl
theorem lp_t20 {w n : Nat} {K : Nat → Nat → Nat} (hw : 1 ≤ w) (hw3 : w ≤ 3) (hn : n ≤ 8) {I : Nat → Nat → Int32} {J : Nat → Nat → Int64} {T : Option Nat} {P : Int32 → (Nat → Nat → Int32) → (Nat → Nat → Int64) → Option Nat → Prop} (n2 : I 204 65 = nI n) (hK : ∀ k, k < n → ∀ i, i < 52 → I 251 (52 * k + i) = nI (K k i) ∧ K k i ≤ 10000) {t0 : Nat → Nat} {R : Nat × (Nat → Nat)} (hR : mA_ K w n 52 0 (2147483647, t0) = R) (nx : ∀ I2, fr_off [(253, 255, 0, 2147483648)] I I2 → st_ I2 R → wp_X12_gives (ms_ R.1) (ix_u2 I2 204 67 (nI w)) J T (fun v42 I42 J42 T42 => P (v42) I42 J42 T42)) : wl_X12_telling_20 (nI w) (-1) 0 I J T P := by
  intro V hV
  have key : ∀ m a : Nat, ∀ (s : Nat × (Nat → Nat)) (I1 : Nat → Nat → Int32), a + m = 52 → fr_off [(253, 255, 0, 2147483648)] I I1 → st_ I1 s → mA_ K w n m a s = R → V (nI w) (ms_ s.1) (nI a) I1 J T := by
    intro m
    induction m with
    | zero =>
      intro a s I1 hc o q e
      have e : s = R := e
      subst e
      apply hV
      unfold wb_X12_telling_20
      exact ⟨fun z => absurd z (nI_nlt (a := a) (b := 52) (by omega) (by omega)), fun _ => nx I1 o q⟩
    | succ m ih =>
      intro a s I1 hc o q e
      apply hV
      unfold wb_X12_telling_20
      have st : wl_X12_telling_40_20 (nI w) (ms_ s.1) (nI a) (nI (s1_ w a)) I1 J T V P := lp_t40 (K := K) hw hw3 hn (by omega) n2 hK rfl (by unfold s1_; split <;> omega) o q (fun I2 o2 s2 => ih (a + 1) _ I2 (by omega) o2 s2 e)
      refine ⟨fun _ => ?_, fun z => absurd (nI_lt (a := a) (b := 52) (by omega) (by omega)) z⟩
      unfold s1_ at st
      by_cases c3 : w < 2
      · rw [if_pos c3] at st
        exact ⟨fun _ => st, fun z => absurd (nI_lt (a := w) (b := 2) (by omega) (by omega)) z⟩
      · rw [if_neg c3] at st
        rw [nI_1]
        exact ⟨fun z => absurd z (nI_nlt (a := w) (b := 2) (by omega) (by omega)), fun _ => st⟩
  exact key 52 0 (2147483647, t0) I (by omega) fr_refl ⟨Nat.le_refl _, Or.inl rfl⟩ hR
theorem lp_ft10 {w n : Nat} {K : Nat → Nat → Nat} {R : Nat × (Nat → Nat)} (hw : 1 ≤ w) (hw3 : w ≤ 3) (hn : n ≤ 8) {I : Nat → Nat → Int32} {J : Nat → Nat → Int64} {T : Option Nat} {P : Int32 → (Nat → Nat → Int32) → (Nat → Nat → Int64) → Option Nat → Prop} (n1 : I 106 0 = nI n) (hK : ∀ k, k < n → (∀ i, i < 52 → I (113 + k) i = nI (K k i) ∧ K k i ≤ 10000) ∧ I 111 k = nI (sN_ (K k) 52)) (hP : ∀ I2, fr_off [(122, 124, 0, 2147483648)] I I2 → (R.1 = 2147483647 ∨ ∀ j, j < w → I2 122 j = nI (R.2 j)) → P (nI R.1) I2 J T) {t0 : Nat → Nat} (hR : bz_ K w n 140608 (fun j => j) 2147483647 t0 = R) : wl_X4_findTelling_10 (nI w) 2147483647 0 I J T P := by
  intro V hV
  have key : ∀ m j : Nat, ∀ (I1 : Nat → Nat → Int32), j + m = w → fr_off [(122, 124, 0, 2147483648)] I I1 → (∀ y, y < j → I1 123 y = nI y) → V (nI w) 2147483647 (nI j) I1 J T := by
    intro m
    induction m with
    | zero =>
      intro j I1 hj o q
      have hj : j = w := by omega
      subst hj
      apply hV
      unfold wb_X4_findTelling_10
      exact ⟨fun z => absurd z (nI_nlt (Nat.le_refl _) (by omega)), fun _ => lp_f33 (K := K) (R := R) hw hw3 hn n1 hK hP o (d0 := fun j => j) (t0 := t0) (fun y hy => ⟨q y hy, by omega⟩) hR⟩
    | succ m ih =>
      intro j I1 hj o q
      apply hV
      unfold wb_X4_findTelling_10
      rw [nI_clamp (show j < 2 ^ 31 by omega), nI_1]
      refine ⟨fun _ => ⟨nI_in2 (by omega) (by decide), ih (j + 1) _ (by omega) (fr_putn rfl (by omega) o) (fun y hy => ?_)⟩, fun z => absurd (nI_lt (by omega) (by omega)) z⟩
      by_cases c : y = j
      · subst c; simp [u2_e]
      · rw [u2_j c]; exact q y (by omega)
  exact key w 0 I (by omega) fr_refl (fun y hy => by omega)
