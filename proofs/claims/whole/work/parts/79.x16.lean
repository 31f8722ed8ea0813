theorem rk_book {I I2 : Nat → Nat → Int32} {J : Nat → Nat → Int64} {J2 : Nat → Nat → Int64} (h : RR I J) (o : fr_off [(0, 1, 0, 1), (204, 205, 0, 1), (192, 193, 0, 2147483648), (197, 200, 0, 2147483648), (204, 205, 103, 104), (271, 273, 0, 2147483648)] I I2) (oj : fr_off [(194, 197, 0, 2147483648)] J J2) (p0 : RL_stat I2) : RR I2 J2 := ⟨p0, fr_frac oj rfl h.frac, fr_tray o oj rfl h.tray, fr_land o rfl h.land, fr_gold o rfl h.gold, fr_road o rfl h.road, fr_carr o rfl h.carr, fr_rate o rfl h.rate, fr_tape o rfl h.tape, fr_falt o rfl h.falt, fr_resv o rfl h.resv, fr_flow o rfl h.flow, fr_draw o rfl h.draw, fr_tell o rfl h.tell, fr_acct o oj rfl h.acct, fr_rule o rfl h.rule, fr_bags o rfl h.bags, fr_hand o rfl h.hand, fr_book o rfl h.book, fr_figs oj rfl h.figs, fr_case o rfl h.case, fr_wght o rfl h.wght, fr_trty o oj rfl h.trty⟩
/-! books: join, mate, leans -/
def bnN (I : Nat → Nat → Int32) (s k : Nat) : Nat := tn_ (I (184 + s)) k
def bnD (I : Nat → Nat → Int32) (s k : Nat) : Nat := tn_ (I (187 + s)) k
def bnG (I : Nat → Nat → Int32) (s k : Nat) : Nat := tn_ (I (190 + s)) k
theorem RR.bk {I : Nat → Nat → Int32} {J : Nat → Nat → Int64} (h : RR I J) : ∃ n0 n1 : Nat, n0 ≤ 12 ∧ n1 ≤ 12 ∧ I 182 0 = nI n0 ∧ I 267 0 = nI n0 ∧ I 182 1 = nI n1 ∧ I 267 1 = nI n1 ∧ bkM I n0 n1 (bnN I) (bnD I) (bnG I) ∧ bkMM I n0 n1 (bnN I) (bnD I) (bnG I) := by
  obtain ⟨n0, h0, a1, a2, a3⟩ := h.book 0 (by omega)
  obtain ⟨n1, h1, b1, b2, b3⟩ := h.book 1 (by omega)
  have f0 : ∀ k, k < n0 → bnN I 0 k ≤ 9999 ∧ bnD I 0 k ≤ 9999 ∧ bnG I 0 k ≤ 1000000 ∧ (I 184 k = nI (bnN I 0 k) ∧ I 187 k = nI (bnD I 0 k) ∧ I 190 k = nI (bnG I 0 k)) ∧ I 268 k = nI (bnN I 0 k) ∧ I 269 k = nI (bnD I 0 k) ∧ I 270 k = nI (bnG I 0 k) := fun k hk => by
    obtain ⟨e, d, g, e1, d1, g1, x1, x2, x3, x4, x5, x6⟩ := a3 k hk
    rw [show 12 * 0 + k = k by omega] at x2 x4 x6
    have y1 : bnN I 0 k = e := tn_of (f := I 184) x1 (by omega)
    have y2 : bnD I 0 k = d := tn_of (f := I 187) x3 (by omega)
    have y3 : bnG I 0 k = g := tn_of (f := I 190) x5 (by omega)
    rw [y1, y2, y3]
    exact ⟨e1, d1, g1, ⟨x1, x3, x5⟩, x2, x4, x6⟩
  have f1 : ∀ k, k < n1 → bnN I 1 k ≤ 9999 ∧ bnD I 1 k ≤ 9999 ∧ bnG I 1 k ≤ 1000000 ∧ (I 185 k = nI (bnN I 1 k) ∧ I 188 k = nI (bnD I 1 k) ∧ I 191 k = nI (bnG I 1 k)) ∧ I 268 (12 + k) = nI (bnN I 1 k) ∧ I 269 (12 + k) = nI (bnD I 1 k) ∧ I 270 (12 + k) = nI (bnG I 1 k) := fun k hk => by
    obtain ⟨e, d, g, e1, d1, g1, x1, x2, x3, x4, x5, x6⟩ := b3 k hk
    rw [show 12 * 1 + k = 12 + k by omega] at x2 x4 x6
    have y1 : bnN I 1 k = e := tn_of (f := I 185) x1 (by omega)
    have y2 : bnD I 1 k = d := tn_of (f := I 188) x3 (by omega)
    have y3 : bnG I 1 k = g := tn_of (f := I 191) x5 (by omega)
    rw [y1, y2, y3]
    exact ⟨e1, d1, g1, ⟨x1, x3, x5⟩, x2, x4, x6⟩
  refine ⟨n0, n1, h0, h1, a1, a2, b1, b2, ⟨fun k hk => ?_, fun k hk => ?_⟩, ⟨fun k hk => ?_, fun k hk => ?_⟩⟩
  · obtain ⟨q1, q2, q3, ⟨q4, q5, q6⟩, -⟩ := f0 k hk; exact ⟨q1, q2, q3, q4, q5, q6⟩
  · obtain ⟨q1, q2, q3, ⟨q4, q5, q6⟩, -⟩ := f1 k hk; exact ⟨q1, q2, q3, q4, q5, q6⟩
  · obtain ⟨q1, q2, q3, -, q4, q5, q6⟩ := f0 k hk; exact ⟨q1, q2, q3, q4, q5, q6⟩
  · obtain ⟨q1, q2, q3, -, q4, q5, q6⟩ := f1 k hk; exact ⟨q1, q2, q3, q4, q5, q6⟩
theorem fn_jc {n0 n1 : Nat} {N D G : Nat → Nat → Nat} {g : Nat → Nat} (h0 : n0 ≤ 12) (h1 : n1 ≤ 12) {I : Nat → Nat → Int32} {J : Nat → Nat → Int64} {T : Option Nat} {P : Int32 → (Nat → Nat → Int32) → (Nat → Nat → Int64) → Option Nat → Prop} (e0 : I 182 0 = nI n0) (e1 : I 182 1 = nI n1) (h : bkM I n0 n1 N D G) (hg : bkV n0 n1 g) (hm : ∀ i, i < n0 → I 192 i = mt_ (g i)) (hP : P (iZ (25 * n1 + bkA (bko N D G) g n0)) I J T) : wp_X2_joinedCost I J T P := by
  unfold wp_X2_joinedCost
  rw [show ((0 : Int32)).toNatClampNeg = 0 from rfl, show ((1 : Int32)).toNatClampNeg = 1 from rfl, e0, e1]
  intro V hV
  have key : ∀ (q k : Nat), k + q = n0 → V (iZ (25 * n1 + 25 * q + bkA (bko N D G) g k)) (nI k) I J T := by
    intro q
    induction q with
    | zero =>
      intro k hk
      have hk : k = n0 := by omega
      subst hk
      apply hV
      unfold wb_X2_joinedCost_19
      rw [show ((0 : Int32)).toNatClampNeg = 0 from rfl, e0]
      have e : (25 * (n1 : Int) + 25 * ((0 : Nat) : Int) + bkA (bko N D G) g k) = 25 * n1 + bkA (bko N D G) g k := by omega
      rw [e]
      exact ⟨fun z => absurd z (nI_nlt (Nat.le_refl _) (by omega)), fun _ => hP⟩
    | succ q ih =>
      intro k hk
      have nx := ih (k + 1) (by omega)
      rw [bkA] at nx
      have ik : ix_inb (nI k) 12 = true := nI_in2 (by omega) (by decide)
      apply hV
      unfold wb_X2_joinedCost_19
      rw [show ((0 : Int32)).toNatClampNeg = 0 from rfl, e0, nI_clamp (show k < 2 ^ 31 by omega), hm k (by omega)]
      simp only [nI_1]
      refine ⟨fun _ => ⟨ik, fun z => ?_, fun z => ⟨ik, ?_⟩⟩, fun z => absurd (nI_lt (by omega) (by omega)) z⟩
      · have g12 : g k = 12 := by
          by_cases c : g k = 12
          · exact c
          · exact absurd z (mt_m (by rcases hg.1 k (by omega) with x | x <;> omega))
        have e : bkc (bko N D G) g k = 25 := if_pos g12
        rw [e] at nx
        rw [show (25 * (n1 : Int) + 25 * ((q + 1 : Nat) : Int) + bkA (bko N D G) g k) = 25 * n1 + 25 * q + (bkA (bko N D G) g k + 25) by omega]
        exact nx
      · have g12 : ¬ g k = 12 := fun c => z (by rw [c]; rfl)
        have gk : g k < n1 := (hg.1 k (by omega)).resolve_right g12
        have e : bkc (bko N D G) g k = (bko N D G k (g k) : Int) - 25 := if_neg g12
        have em : mt_ (g k) = nI (g k) := if_neg g12
        rw [em]
        refine fn_cst h0 h1 (by omega) gk h ?_
        rw [e] at nx
        have e2 : iZ (25 * (n1 : Int) + 25 * ((q + 1 : Nat) : Int) + bkA (bko N D G) g k) + (nI (bko N D G k (g k)) - 50) = iZ (25 * n1 + 25 * q + (bkA (bko N D G) g k + ((bko N D G k (g k) : Int) - 25))) := by
          rw [nI_iZ, show (50 : Int32) = iZ 50 from rfl, iZ_sub, iZ_add]
          exact congrArg iZ (by omega)
        rw [e2]
        exact nx
  have := key n0 0 (by omega)
  have e : (25 : Int32) * (nI n0 + nI n1) = iZ (25 * n1 + 25 * n0 + bkA (bko N D G) g 0) := by
    rw [nI_iZ, nI_iZ, iZ_add, show (25 : Int32) = iZ 25 from rfl, iZ_mul]
    refine congrArg iZ ?_
    show _ = 25 * (n1 : Int) + 25 * n0 + 0
    omega
  rw [e]
  exact this
theorem bkW_A {n0 n1 : Nat} {co : Nat → Nat → Nat} (h1 : n1 ≤ 12) : (bkW n1 co n0 0 (fun _ => false) : Int) = 25 * n1 + bkA co (bkg n0 n1 co) n0 := by
  have gV := bkg_V (n0 := n0) (co := co) h1
  have a := bkT_A (co := co) h1 gV (k := n0) (i := 0) (U := bkU n0 n1 co 0) (by omega) (bkg_ok h1 gV (by omega) (fun i hi => by omega))
  have b := bkg_T (n0 := n0) (co := co) h1 (k := n0) (i := 0) (by omega)
  have c : ∀ {n : Nat}, bkn (fun _ => false) n = n := fun {n} => by
    induction n with
    | zero => rfl
    | succ n ih => rw [bkn, ih]; rfl
  have z : bkU n0 n1 co 0 = fun _ => false := rfl
  rw [z] at a b
  rw [b, c] at a
  have z2 : bkA co (bkg n0 n1 co) 0 = 0 := rfl
  rw [z2] at a
  omega
/-- sums of grams -/
def gP (G : Nat → Nat → Nat) (g : Nat → Nat) : Nat → Int
  | 0 => 0
  | i + 1 => gP G g i + (if g i = 12 then 0 else (G 0 i : Int) - G 1 (g i))
def gU (G : Nat → Nat → Nat) (g : Nat → Nat) : Nat → Int
  | 0 => 0
  | i + 1 => gU G g i + (if g i = 12 then (G 0 i : Int) else 0)
def gM (G : Nat → Nat → Nat) (g : Nat → Nat) : Nat → Int
  | 0 => 0
  | i + 1 => gM G g i + (if g i = 12 then 0 else (G 1 (g i) : Int))
def gS (f : Nat → Nat) : Nat → Int
  | 0 => 0
  | i + 1 => gS f i + f i
def gB (U : Nat → Bool) (f : Nat → Nat) : Nat → Int
  | 0 => 0
  | b + 1 => gB U f b + (if U b then 0 else (f b : Int))
theorem gP_U {G : Nat → Nat → Nat} {g : Nat → Nat} : ∀ {n : Nat}, gS (G 0) n - gP G g n = gU G g n + gM G g n
  | 0 => rfl
  | n + 1 => by
    have := gP_U (G := G) (g := g) (n := n)
    rw [gS, gP, gU, gM]
    by_cases c : g n = 12
    · rw [if_pos c, if_pos c, if_pos c]; omega
    · rw [if_neg c, if_neg c, if_neg c]; omega
theorem gB_eq {U V : Nat → Bool} {f : Nat → Nat} : ∀ {n : Nat}, (∀ x, x < n → U x = V x) → gB U f n = gB V f n
  | 0, _ => rfl
  | n + 1, h => by rw [gB, gB, gB_eq (n := n) (fun x hx => h x (by omega)), h n (by omega)]
theorem gB_i {U : Nat → Bool} {f : Nat → Nat} {b : Nat} (h : U b = false) : ∀ {n : Nat}, b < n → gB (bki U b) f n + f b = gB U f n
  | 0, hb => by omega
  | n + 1, hb => by
    rw [gB, gB]
    by_cases c : b = n
    · subst c
      rw [gB_eq (U := bki U b) (V := U) (n := b) (fun x hx => by unfold bki; rw [decide_eq_false (by omega), Bool.or_false])]
      have : bki U b b = true := by unfold bki; simp
      rw [this, h]
      simp
    · have := gB_i (f := f) h (n := n) (by omega)
      have e : bki U b n = U n := by unfold bki; rw [decide_eq_false (by omega), Bool.or_false]
      rw [e]
      omega
theorem gB_0 {f : Nat → Nat} : ∀ {n : Nat}, gB (fun _ => false) f n = gS f n
  | 0 => rfl
  | n + 1 => by rw [gB, gS, gB_0 (n := n)]; simp
theorem gB_M {n0 n1 : Nat} {co : Nat → Nat → Nat} {G : Nat → Nat → Nat} (h1 : n1 ≤ 12) : ∀ {i : Nat}, gB (bkU n0 n1 co i) (G 1) n1 + gM G (bkg n0 n1 co) i = gS (G 1) n1
  | 0 => by
    have : bkU n0 n1 co 0 = fun _ => false := rfl
    rw [this, gB_0, gM]
    omega
  | i + 1 => by
    have ih := gB_M (n0 := n0) (co := co) (G := G) h1 (i := i)
    rw [bkU_s, gM]
    rcases bkg_sp (n0 := n0) (co := co) h1 i with ⟨y, -⟩ | ⟨y1, y2, -⟩
    · rw [if_pos y, if_pos y]; omega
    · have c : ¬ bkg n0 n1 co i = 12 := by omega
      rw [if_neg c, if_neg c]
      have := gB_i (f := G 1) y2 y1
      omega
theorem fn_lp {n0 n1 : Nat} {N D G : Nat → Nat → Nat} {g : Nat → Nat} (h0 : n0 ≤ 12) (h1 : n1 ≤ 12) {I : Nat → Nat → Int32} {J : Nat → Nat → Int64} {T : Option Nat} {P : Int32 → (Nat → Nat → Int32) → (Nat → Nat → Int64) → Option Nat → Prop} (e0 : I 182 0 = nI n0) (h : bkM I n0 n1 N D G) (hg : bkV n0 n1 g) (hm : ∀ i, i < n0 → I 192 i = mt_ (g i)) (hP : P (iZ (gP G g n0)) I J T) : wp_X2_leanOfPairs I J T P := by
  unfold wp_X2_leanOfPairs
  intro V hV
  have key : ∀ (q k : Nat), k + q = n0 → V (iZ (gP G g k)) (nI k) I J T := by
    intro q
    induction q with
    | zero =>
      intro k hk
      have hk : k = n0 := by omega
      subst hk
      apply hV
      unfold wb_X2_leanOfPairs_4
      rw [show ((0 : Int32)).toNatClampNeg = 0 from rfl, e0]
      exact ⟨fun z => absurd z (nI_nlt (Nat.le_refl _) (by omega)), fun _ => hP⟩
    | succ q ih =>
      intro k hk
      have nx := ih (k + 1) (by omega)
      rw [gP] at nx
      have ik : ix_inb (nI k) 12 = true := nI_in2 (by omega) (by decide)
      apply hV
      unfold wb_X2_leanOfPairs_4
      rw [show ((0 : Int32)).toNatClampNeg = 0 from rfl, e0, nI_clamp (show k < 2 ^ 31 by omega), hm k (by omega)]
      simp only [nI_1]
      refine ⟨fun _ => ⟨ik, fun z => ?_, fun z => ?_⟩, fun z => absurd (nI_lt (by omega) (by omega)) z⟩
      · have g12 : g k = 12 := by
          by_cases c : g k = 12
          · exact c
          · exact absurd z (mt_m (by rcases hg.1 k (by omega) with x | x <;> omega))
        rw [if_pos g12, Int.add_zero] at nx
        exact nx
      · have g12 : ¬ g k = 12 := fun c => z (by rw [c]; rfl)
        have gk : g k < n1 := (hg.1 k (by omega)).resolve_right g12
        have em : mt_ (g k) = nI (g k) := if_neg g12
        rw [if_neg g12] at nx
        rw [em, nI_clamp (show g k < 2 ^ 31 by omega), (h.1 k (by omega)).2.2.2.2.2, (h.2 (g k) gk).2.2.2.2.2, nI_iZ (G 0 k), nI_iZ (G 1 (g k)), iZ_sub, iZ_add]
        exact ⟨ik, ik, nI_in2 (by omega) (by decide), nx⟩
  exact key n0 0 (by omega)
theorem fn_la {n0 n1 : Nat} {N D G : Nat → Nat → Nat} (h0 : n0 ≤ 12) (h1 : n1 ≤ 12) {I : Nat → Nat → Int32} {J : Nat → Nat → Int64} {T : Option Nat} {P : Int32 → (Nat → Nat → Int32) → (Nat → Nat → Int64) → Option Nat → Prop} (e0 : I 182 0 = nI n0) (e1 : I 182 1 = nI n1) (h : bkM I n0 n1 N D G) (hP : P (iZ (gS (G 0) n0 - gS (G 1) n1)) I J T) : wp_X2_leanOfAll I J T P := by
  unfold wp_X2_leanOfAll
  intro V hV
  have r0 : ix_row 189 0 = 190 := re_189 (i := 0) (by omega)
  have r1 : ix_row 189 1 = 191 := re_189 (i := 1) (by omega)
  apply hV
  unfold wb_X2_leanOfAll_4
  refine ⟨fun _ => ?_, fun z => absurd (by decide) z⟩
  intro W hW
  have key0 : ∀ (q k : Nat), k + q = n0 → W (iZ (gS (G 0) k)) 0 (nI k) I J T := by
    intro q
    induction q with
    | zero =>
      intro k hk
      have hk : k = n0 := by omega
      subst hk
      apply hW
      unfold wb_X2_leanOfAll_11_4
      rw [show ((0 : Int32)).toNatClampNeg = 0 from rfl, e0]
      refine ⟨by decide, fun z => absurd z (nI_nlt (Nat.le_refl _) (by omega)), fun _ => ?_⟩
      apply hV
      unfold wb_X2_leanOfAll_4
      refine ⟨fun _ => ?_, fun z => absurd (by decide) z⟩
      intro X hX
      have key1 : ∀ (q b : Nat), b + q = n1 → X (iZ (gS (G 0) k - gS (G 1) b)) 1 (nI b) I J T := by
        intro q
        induction q with
        | zero =>
          intro b hb
          have hb : b = n1 := by omega
          subst hb
          apply hX
          unfold wb_X2_leanOfAll_11_4
          rw [show ((1 : Int32)).toNatClampNeg = 1 from rfl, e1]
          refine ⟨by decide, fun z => absurd z (nI_nlt (Nat.le_refl _) (by omega)), fun _ => ?_⟩
          apply hV
          unfold wb_X2_leanOfAll_4
          exact ⟨fun z => absurd z (by decide), fun _ => hP⟩
        | succ q ih =>
          intro b hb
          have nx := ih (b + 1) (by omega)
          rw [gS] at nx
          apply hX
          unfold wb_X2_leanOfAll_11_4
          rw [show ((1 : Int32)).toNatClampNeg = 1 from rfl, e1, nI_clamp (show b < 2 ^ 31 by omega), r1, (h.2 b (by omega)).2.2.2.2.2]
          simp only [nI_1]
          refine ⟨by decide, fun _ => ⟨fun z => absurd z (by decide), fun _ => ⟨by decide, nI_in2 (by omega) (by decide), ?_⟩⟩, fun z => absurd (nI_lt (by omega) (by omega)) z⟩
          rw [nI_iZ, iZ_neg, iZ_add]
          rw [show gS (G 0) k - gS (G 1) b + -(G 1 b : Int) = gS (G 0) k - (gS (G 1) b + G 1 b) by omega]
          exact nx
      have := key1 n1 0 (by omega)
      rw [show gS (G 1) 0 = 0 from rfl, Int.sub_zero] at this
      exact this
    | succ q ih =>
      intro k hk
      have nx := ih (k + 1) (by omega)
      rw [gS] at nx
      apply hW
      unfold wb_X2_leanOfAll_11_4
      rw [show ((0 : Int32)).toNatClampNeg = 0 from rfl, e0, nI_clamp (show k < 2 ^ 31 by omega), r0, (h.1 k (by omega)).2.2.2.2.2]
      simp only [nI_1]
      refine ⟨by decide, fun _ => ⟨fun _ => ⟨by decide, nI_in2 (by omega) (by decide), ?_⟩, fun z => absurd trivial z⟩, fun z => absurd (nI_lt (by omega) (by omega)) z⟩
      rw [nI_iZ, iZ_add]
      exact nx
  exact key0 n0 0 (by omega)
theorem fn_lM {n0 n1 s : Nat} {wh : Int32} {N D G : Nat → Nat → Nat} {g : Nat → Nat} {U : Nat → Bool} (h0 : n0 ≤ 12) (h1 : n1 ≤ 12) (hw : wh = 0 ∨ wh = 1) {I : Nat → Nat → Int32} {J : Nat → Nat → Int64} {T : Option Nat} {P : Int32 → (Nat → Nat → Int32) → (Nat → Nat → Int64) → Option Nat → Prop} (e0 : I 267 0 = nI n0) (e1 : I 267 1 = nI n1) (h : bkMM I n0 n1 N D G) (hg : bkV n0 n1 g) (hm : ∀ i, i < n0 → I 272 i = mt_ (g i)) (sn : s < 4096) (es : I 204 103 = nI s) (eu : ∀ x, x < 12 → s.testBit x = U x) (hP : P (iZ (if wh = 0 then gP G g n0 else gU G g n0 - gB U (G 1) n1)) (ix_u2 I 204 0 0) J T) : wl_X12_leans_23 wh 0 0 I J T P := by
  intro V hV
  have two : ∀ (X0 : Int), (∀ q b : Nat, b + q = n1 → True) → X0 = (if wh = 0 then gP G g n0 else gU G g n0) → wl_X12_leans_103_23 wh (iZ X0) 0 I J T V P := by
    intro X0 _ eX
    intro X hX
    have key1 : ∀ (q b : Nat), b + q = n1 → X wh (iZ (if wh = 0 then X0 else X0 - gB U (G 1) b)) (nI b) I J T := by
      intro q
      induction q with
      | zero =>
        intro b hb
        have hb : b = n1 := by omega
        subst hb
        apply hX
        unfold wb_X12_leans_103_23 wp_X12_gives
        rw [show ((1 : Int32)).toNatClampNeg = 1 from rfl, e1]
        have hp : P (iZ (if wh = 0 then X0 else X0 - gB U (G 1) b)) (ix_u2 I 204 0 0) J T := by
          rw [eX]
          by_cases c : wh = 0
          · rw [if_pos c] at hP ⊢
            rw [if_pos c]
            exact hP
          · rw [if_neg c] at hP ⊢
            rw [if_neg c]
            exact hP
        exact ⟨fun z => absurd z (nI_nlt (Nat.le_refl _) (by omega)), fun _ => hp⟩
      | succ q ih =>
        intro b hb
        have nx := ih (b + 1) (by omega)
        have t := bi_t (s := s) (b := b) sn (by omega)
        apply hX
        unfold wb_X12_leans_103_23
        rw [show ((1 : Int32)).toNatClampNeg = 1 from rfl, e1, es, t, show (12 : Int32) = nI 12 from rfl, nI_add, nI_clamp (show 12 + b < 2 ^ 31 by omega), (h.2 b (by omega)).2.2.2.2.2]
        simp only [nI_1]
        refine ⟨fun _ => ?_, fun z => absurd (nI_lt (by omega) (by omega)) z⟩
        have z0 : ∀ y : Int32, y - 0 = y := fun y => by
          rw [iZ_of y, show (0 : Int32) = iZ 0 from rfl, iZ_sub, Int.sub_zero]
        rcases hw with c | c
        · subst c
          rw [if_pos rfl] at nx ⊢
          rw [z0]
          exact ⟨fun z => absurd z (by decide), fun _ => nx⟩
        · subst c
          rw [if_neg (by decide)] at nx ⊢
          rw [gB] at nx
          refine ⟨fun _ => ⟨fun z => ⟨nI_in2 (by omega) (by decide), ?_⟩, fun z => ?_⟩, fun z => absurd rfl z⟩
          · rw [eu b (by omega)] at z
            rw [z, if_neg (by decide)] at nx
            rw [nI_iZ, iZ_sub, show X0 - gB U (G 1) b - (G 1 b : Int) = X0 - (gB U (G 1) b + G 1 b) by omega]
            exact nx
          · have z : U b = true := by rw [eu b (by omega)] at z; simpa using z
            rw [z, if_pos rfl, Int.add_zero] at nx
            rw [z0]
            exact nx
    have k0 := key1 n1 0 (by omega)
    have e : (if wh = 0 then X0 else X0 - gB U (G 1) 0) = X0 := by
      by_cases c : wh = 0
      · rw [if_pos c]
      · rw [if_neg c]; show X0 - 0 = X0; omega
    rw [e] at k0
    exact k0
  have key : ∀ (q k : Nat), k + q = n0 → V wh (iZ (if wh = 0 then gP G g k else gU G g k)) (nI k) I J T := by
    intro q
    induction q with
    | zero =>
      intro k hk
      have hk : k = n0 := by omega
      subst hk
      apply hV
      unfold wb_X12_leans_23
      rw [show ((0 : Int32)).toNatClampNeg = 0 from rfl, e0]
      exact ⟨fun z => absurd z (nI_nlt (Nat.le_refl _) (by omega)), fun _ => two _ (fun _ _ _ => trivial) rfl⟩
    | succ q ih =>
      intro k hk
      have nx := ih (k + 1) (by omega)
      rw [gP, gU] at nx
      have ik : ix_inb (nI k) 12 = true := nI_in2 (by omega) (by decide)
      have ik2 : ix_inb (nI k) 24 = true := nI_in2 (by omega) (by decide)
      apply hV
      unfold wb_X12_leans_23
      rw [show ((0 : Int32)).toNatClampNeg = 0 from rfl, e0, nI_clamp (show k < 2 ^ 31 by omega), hm k (by omega), (h.1 k (by omega)).2.2.2.2.2]
      simp only [nI_1]
      refine ⟨fun _ => ?_, fun z => absurd (nI_lt (by omega) (by omega)) z⟩
      by_cases c12 : g k = 12
      · have em : mt_ (g k) = -1 := if_pos c12
        rw [if_pos c12, if_pos c12, Int.add_zero] at nx
        rw [em]
        rcases hw with c | c
        · subst c
          rw [if_pos rfl] at nx ⊢
          exact ⟨fun _ => ⟨ik, fun _ => ⟨fun z => absurd z (by decide), fun _ => nx⟩, fun z => absurd rfl z⟩, fun z => absurd rfl z⟩
        · subst c
          rw [if_neg (by decide)] at nx ⊢
          refine ⟨fun z => absurd z (by decide), fun _ => ⟨fun _ => ⟨ik, fun _ => ⟨ik2, ?_⟩, fun z => absurd rfl z⟩, fun z => absurd rfl z⟩⟩
          rw [nI_iZ, iZ_add]
          exact nx
      · have gk : g k < n1 := (hg.1 k (by omega)).resolve_right c12
        have em : mt_ (g k) = nI (g k) := if_neg c12
        have nm := mt_m (show g k < 12 by omega)
        rw [em] at nm
        rw [if_neg c12, if_neg c12, Int.add_zero] at nx
        rw [em, show (12 : Int32) = nI 12 from rfl, nI_add, nI_clamp (show 12 + g k < 2 ^ 31 by omega), (h.2 (g k) gk).2.2.2.2.2]
        rcases hw with c | c
        · subst c
          rw [if_pos rfl] at nx ⊢
          refine ⟨fun _ => ⟨ik, fun z => absurd z nm, fun _ => ⟨ik2, ik, nI_in2 (by omega) (by decide), fun z => absurd z (by decide), fun _ => ?_⟩⟩, fun z => absurd rfl z⟩
          rw [nI_iZ, nI_iZ (G 1 (g k)), iZ_sub, iZ_add]
          exact nx
        · subst c
          rw [if_neg (by decide)] at nx ⊢
          exact ⟨fun z => absurd z (by decide), fun _ => ⟨fun _ => ⟨ik, fun z => absurd z nm, fun _ => nx⟩, fun z => absurd rfl z⟩⟩
  have k0 := key n0 0 (by omega)
  have e : (if wh = 0 then gP G g 0 else gU G g 0) = 0 := by
    by_cases c : wh = 0
    · rw [if_pos c]; rfl
    · rw [if_neg c]; rfl
  rw [e] at k0
  exact k0
theorem rp_join {I : Nat → Nat → Int32} {J : Nat → Nat → Int64} {T : Option Nat} {P : Int32 → Int32 → (Nat → Nat → Int32) → (Nat → Nat → Int64) → Option Nat → Prop} (h : RR I J) (hP : ∀ v I2 J2 T2, RR I2 J2 → P v v I2 J2 T2) : wp_X11_join I J T (fun v I1 J1 T1 => wp_X12_join I1 J1 T1 (fun w I2 J2 T2 => P v w I2 J2 T2)) := by
  obtain ⟨n0, n1, h0, h1, a1, a2, b1, b2, bM, bMM⟩ := h.bk
  have gV := bkg_V (n0 := n0) (co := (bko (bnN I) (bnD I) (bnG I))) h1
  have w600 : bkW n1 (bko (bnN I) (bnD I) (bnG I)) n0 0 (fun _ => false) ≤ 600 := by
    have := bkW_bd (n1 := n1) (co := (bko (bnN I) (bnD I) (bnG I))) (k := n0) (i := 0) (U := fun _ => false)
    omega
  have bm : ∀ {I1 : Nat → Nat → Int32}, fr_off [(0, 1, 0, 1), (204, 205, 0, 1), (192, 193, 0, 2147483648), (197, 200, 0, 2147483648), (204, 205, 103, 104), (271, 273, 0, 2147483648)] I I1 → bkM I1 n0 n1 (bnN I) (bnD I) (bnG I) := fun {I1} o => by
    unfold bkM
    rw [fr_rw1 o 184 rfl, fr_rw1 o 185 rfl, fr_rw1 o 187 rfl, fr_rw1 o 188 rfl, fr_rw1 o 190 rfl, fr_rw1 o 191 rfl]
    exact bM
  have bmm : ∀ {I1 : Nat → Nat → Int32}, fr_off [(0, 1, 0, 1), (204, 205, 0, 1), (192, 193, 0, 2147483648), (197, 200, 0, 2147483648), (204, 205, 103, 104), (271, 273, 0, 2147483648)] I I1 → bkMM I1 n0 n1 (bnN I) (bnD I) (bnG I) := fun {I1} o => by
    unfold bkMM
    rw [fr_rw1 o 268 rfl, fr_rw1 o 269 rfl, fr_rw1 o 270 rfl]
    exact bMM
  unfold wp_X11_join
  have o1 : fr_off [(0, 1, 0, 1), (204, 205, 0, 1), (192, 193, 0, 2147483648), (197, 200, 0, 2147483648), (204, 205, 103, 104), (271, 273, 0, 2147483648)] I (ix_u2 I 0 0 0) := fr_put rfl fr_refl
  refine fn_jl h0 h1 (by rw [u2_c (by decide)]; exact a1) (by rw [u2_c (by decide)]; exact b1) (bm o1) h.figs (fun I2 J2 o2 oj2 g2 => ?_)
  have o3 : fr_off [(0, 1, 0, 1), (204, 205, 0, 1), (192, 193, 0, 2147483648), (197, 200, 0, 2147483648), (204, 205, 103, 104), (271, 273, 0, 2147483648)] I I2 := fr_trans o1 (fr_mono (by decide) o2)
  refine fn_jc h0 h1 (by rw [fr_at 182 0 o3 rfl]; exact a1) (by rw [fr_at 182 1 o3 rfl]; exact b1) (bm o3) gV g2 ?_
  rw [← bkW_A h1, ← nI_iZ]
  unfold wp_X12_join
  refine fn_pg h0 h1 (by rw [fr_at 267 0 o3 rfl]; exact a2) (by rw [fr_at 267 1 o3 rfl]; exact b2) (bmm o3) (fun I4 o4 _ => ?_)
  unfold wp_X12_gives
  refine hP _ _ _ _ (rk_book h (fr_put rfl (fr_trans o3 (fr_mono (by decide) o4))) (fr_mono (by decide) oj2) ?_)
  show ix_u2 I4 204 0 0 0 0 = ix_u2 I4 204 0 0 204 0
  rw [u2_c (by decide), u2_s, fr_at 0 0 o4 rfl, fr_at 0 0 o2 rfl]
  exact u2_s
theorem rp_mate (a : Int32) {I : Nat → Nat → Int32} {J : Nat → Nat → Int64} {T : Option Nat} {P : Int32 → Int32 → (Nat → Nat → Int32) → (Nat → Nat → Int64) → Option Nat → Prop} (h : RR I J) (hP : ∀ v I2 J2 T2, RR I2 J2 → P v v I2 J2 T2) : wp_X11_mate a I J T (fun v I1 J1 T1 => wp_X12_mate a I1 J1 T1 (fun w I2 J2 T2 => P v w I2 J2 T2)) := by
  obtain ⟨n0, n1, h0, h1, a1, a2, b1, b2, bM, bMM⟩ := h.bk
  have gV := bkg_V (n0 := n0) (co := (bko (bnN I) (bnD I) (bnG I))) h1
  have w600 : bkW n1 (bko (bnN I) (bnD I) (bnG I)) n0 0 (fun _ => false) ≤ 600 := by
    have := bkW_bd (n1 := n1) (co := (bko (bnN I) (bnD I) (bnG I))) (k := n0) (i := 0) (U := fun _ => false)
    omega
  have n4 : (nI n0).toInt = (n0 : Int) := nI_toInt (by omega)
  have t0 : ((0 : Int32)).toNatClampNeg = 0 := rfl
  by_cases q : 0 ≤ a.toInt ∧ a.toInt < n0
  · obtain ⟨i, hi, rfl⟩ := ii_at q.1 q.2 (by omega)
    have bm : ∀ {I1 : Nat → Nat → Int32}, fr_off [(0, 1, 0, 1), (204, 205, 0, 1), (192, 193, 0, 2147483648), (197, 200, 0, 2147483648), (204, 205, 103, 104), (271, 273, 0, 2147483648)] I I1 → bkM I1 n0 n1 (bnN I) (bnD I) (bnG I) := fun {I1} o => by
      unfold bkM
      rw [fr_rw1 o 184 rfl, fr_rw1 o 185 rfl, fr_rw1 o 187 rfl, fr_rw1 o 188 rfl, fr_rw1 o 190 rfl, fr_rw1 o 191 rfl]
      exact bM
    have bmm : ∀ {I1 : Nat → Nat → Int32}, fr_off [(0, 1, 0, 1), (204, 205, 0, 1), (192, 193, 0, 2147483648), (197, 200, 0, 2147483648), (204, 205, 103, 104), (271, 273, 0, 2147483648)] I I1 → bkMM I1 n0 n1 (bnN I) (bnD I) (bnG I) := fun {I1} o => by
      unfold bkMM
      rw [fr_rw1 o 268 rfl, fr_rw1 o 269 rfl, fr_rw1 o 270 rfl]
      exact bMM
    have ng : ¬ nI i < 0 := nI_nlt (a := i) (b := 0) (by omega) (by omega)
    have i12 : ix_inb (nI i) 12 = true := nI_in2 (by omega) (by decide)
    have li : nI i < nI n0 := nI_lt hi (by omega)
    unfold wp_X11_mate wp_X2_has
    rw [t0, a1]
    refine ⟨fun z => absurd z ng, fun _ => ⟨fun _ => ⟨fun z => absurd z (show ¬ (1 : Int32) = 0 by decide), fun _ => ?_⟩, fun z => absurd li z⟩⟩
    refine fn_jl h0 h1 a1 b1 bM h.figs (fun I2 J2 o2 oj2 g2 => ?_)
    have o3 : fr_off [(0, 1, 0, 1), (204, 205, 0, 1), (192, 193, 0, 2147483648), (197, 200, 0, 2147483648), (204, 205, 103, 104), (271, 273, 0, 2147483648)] I I2 := fr_mono (by decide) o2
    unfold wp_X2_mateOf
    rw [nI_clamp (show i < 2 ^ 31 by omega), g2 i hi]
    refine ⟨i12, ?_⟩
    have md : ∀ c, (bkg n0 n1 (bko (bnN I) (bnD I) (bnG I)) i = 12 ∧ c = 6) ∨ (bkg n0 n1 (bko (bnN I) (bnD I) (bnG I)) i < 12 ∧ c = 0) → wp_X12_mate (nI i) (ix_u2 I2 0 0 c) J2 T (fun w I2 J2 T2 => P (mt_ (bkg n0 n1 (bko (bnN I) (bnD I) (bnG I)) i)) w I2 J2 T2) := fun c hc => by
      have o4 : fr_off [(0, 1, 0, 1), (204, 205, 0, 1), (192, 193, 0, 2147483648), (197, 200, 0, 2147483648), (204, 205, 103, 104), (271, 273, 0, 2147483648)] I (ix_u2 I2 0 0 c) := fr_put rfl o3
      have c0 : ix_u2 I2 0 0 c 0 0 = c := u2_s
      generalize ix_u2 I2 0 0 c = I4 at o4 c0 ⊢
      unfold wp_X12_mate
      rw [t0, fr_at 267 0 o4 rfl, a2]
      refine ⟨fun z => absurd z ng, fun _ => ⟨fun _ => ?_, fun z => absurd li z⟩⟩
      refine fn_prs h0 h1 (by rw [fr_at 267 0 o4 rfl]; exact a2) (by rw [fr_at 267 1 o4 rfl]; exact b2) (bmm o4) (fun I5 s o5 g5 _ _ _ => ?_)
      rw [nI_clamp (show i < 2 ^ 31 by omega), g5 i hi]
      have fi : ∀ x, c = x → RR (ix_u2 I5 204 0 x) J2 := fun x hx => by
        refine rk_book h (fr_put rfl (fr_trans o4 (fr_mono (by decide) o5))) (fr_mono (by decide) oj2) ?_
        show ix_u2 I5 204 0 x 0 0 = ix_u2 I5 204 0 x 204 0
        rw [u2_c (by decide), u2_s, fr_at 0 0 o5 rfl, c0, hx]
      unfold wp_X12_refuse wp_X12_gives
      rcases hc with ⟨y, hc⟩ | ⟨y, hc⟩
      · have e : mt_ (bkg n0 n1 (bko (bnN I) (bnD I) (bnG I)) i) = -1 := if_pos y
        rw [e]
        exact ⟨i12, fun _ => hP _ _ _ _ (fi 6 hc), fun z => absurd rfl z⟩
      · exact ⟨i12, fun z => absurd z (mt_m y), fun _ => ⟨i12, hP _ _ _ _ (fi 0 hc)⟩⟩
    rcases bkg_sp (n0 := n0) (co := (bko (bnN I) (bnD I) (bnG I))) h1 i with ⟨y, -⟩ | ⟨y, -⟩
    · have e : mt_ (bkg n0 n1 (bko (bnN I) (bnD I) (bnG I)) i) = -1 := if_pos y
      have := md 6 (Or.inl ⟨y, rfl⟩)
      rw [e] at this ⊢
      exact fn_ans0 this
    · have e : mt_ (bkg n0 n1 (bko (bnN I) (bnD I) (bnG I)) i) = nI (bkg n0 n1 (bko (bnN I) (bnD I) (bnG I)) i) := if_neg (by omega)
      have := md 0 (Or.inr ⟨by omega, rfl⟩)
      rw [e] at this ⊢
      exact fn_ans1 (by omega) this
  · skip
    simp only [wp_X11_mate, wp_X12_mate, wp_X11_answerOrNoneSuch, wp_X11_refuse, wp_X2_has, wp_X2_mateOf, wp_X12_gives, wp_X12_refuse, lgc_lt, lgc_le, lgc_eq, cmp_s, cmp_t, u2_e]
    try simp only [Int32.lt_iff_toInt_lt, Int32.le_iff_toInt_le]
    simp [a1, a2, n4]
    repeat' (first | with_reducible refine And.intro ?_ ?_ | with_reducible intro _)
    all_goals try first | rfl | (exfalso; omega) | exact inb_of (by omega) (by omega) | exact hP _ _ _ _ (RR_st h 1)

theorem rp_leans (a : Int32) {I : Nat → Nat → Int32} {J : Nat → Nat → Int64} {T : Option Nat} {P : Int32 → Int32 → (Nat → Nat → Int32) → (Nat → Nat → Int64) → Option Nat → Prop} (h : RR I J) (hP : ∀ v I2 J2 T2, RR I2 J2 → P v v I2 J2 T2) : wp_X11_leans a I J T (fun v I1 J1 T1 => wp_X12_leans a I1 J1 T1 (fun w I2 J2 T2 => P v w I2 J2 T2)) := by
  obtain ⟨n0, n1, h0, h1, a1, a2, b1, b2, bM, bMM⟩ := h.bk
  have gV := bkg_V (n0 := n0) (co := (bko (bnN I) (bnD I) (bnG I))) h1
  have w600 : bkW n1 (bko (bnN I) (bnD I) (bnG I)) n0 0 (fun _ => false) ≤ 600 := by
    have := bkW_bd (n1 := n1) (co := (bko (bnN I) (bnD I) (bnG I))) (k := n0) (i := 0) (U := fun _ => false)
    omega
  have p12 := p2_le h1
  by_cases q : 0 ≤ a.toInt ∧ a.toInt ≤ 1
  · have hw : a = 0 ∨ a = 1 := by
      rcases (show a.toInt = 0 ∨ a.toInt = 1 by omega) with z | z
      · exact Or.inl (Int32.toInt_inj.mp z)
      · exact Or.inr (Int32.toInt_inj.mp z)
    have x0 : ¬ a < 0 := by rcases hw with rfl | rfl <;> decide
    have x1 : a ≤ 1 := by rcases hw with rfl | rfl <;> decide
    have bm : ∀ {I1 : Nat → Nat → Int32}, fr_off [(0, 1, 0, 1), (204, 205, 0, 1), (192, 193, 0, 2147483648), (197, 200, 0, 2147483648), (204, 205, 103, 104), (271, 273, 0, 2147483648)] I I1 → bkM I1 n0 n1 (bnN I) (bnD I) (bnG I) := fun {I1} o => by
      unfold bkM
      rw [fr_rw1 o 184 rfl, fr_rw1 o 185 rfl, fr_rw1 o 187 rfl, fr_rw1 o 188 rfl, fr_rw1 o 190 rfl, fr_rw1 o 191 rfl]
      exact bM
    have bmm : ∀ {I1 : Nat → Nat → Int32}, fr_off [(0, 1, 0, 1), (204, 205, 0, 1), (192, 193, 0, 2147483648), (197, 200, 0, 2147483648), (204, 205, 103, 104), (271, 273, 0, 2147483648)] I I1 → bkMM I1 n0 n1 (bnN I) (bnD I) (bnG I) := fun {I1} o => by
      unfold bkMM
      rw [fr_rw1 o 268 rfl, fr_rw1 o 269 rfl, fr_rw1 o 270 rfl]
      exact bMM
    unfold wp_X11_leans
    refine fn_noutC (by show 0 ≤ a.toInt; omega) (by show a.toInt ≤ 1; omega) ⟨fun _ => ?_, fun z => absurd rfl z⟩
    have o1 : fr_off [(0, 1, 0, 1), (204, 205, 0, 1), (192, 193, 0, 2147483648), (197, 200, 0, 2147483648), (204, 205, 103, 104), (271, 273, 0, 2147483648)] I (ix_u2 I 0 0 0) := fr_put rfl fr_refl
    refine fn_jl h0 h1 (by rw [u2_c (by decide)]; exact a1) (by rw [u2_c (by decide)]; exact b1) (bm o1) h.figs (fun I2 J2 o2 oj2 g2 => ?_)
    have o3 : fr_off [(0, 1, 0, 1), (204, 205, 0, 1), (192, 193, 0, 2147483648), (197, 200, 0, 2147483648), (204, 205, 103, 104), (271, 273, 0, 2147483648)] I I2 := fr_trans o1 (fr_mono (by decide) o2)
    have md : wp_X12_leans a I2 J2 T (fun w I2 J2 T2 => P (iZ (if a = 0 then gP (bnG I) (bkg n0 n1 (bko (bnN I) (bnD I) (bnG I))) n0 else gU (bnG I) (bkg n0 n1 (bko (bnN I) (bnD I) (bnG I))) n0 - gB (bkU n0 n1 (bko (bnN I) (bnD I) (bnG I)) n0) (bnG I 1) n1)) w I2 J2 T2) := by
      unfold wp_X12_leans
      refine ⟨fun z => absurd z x0, fun _ => ⟨fun _ => ?_, fun z => absurd x1 z⟩⟩
      refine fn_prs h0 h1 (by rw [fr_at 267 0 o3 rfl]; exact a2) (by rw [fr_at 267 1 o3 rfl]; exact b2) (bmm o3) (fun I5 s o5 g5 sn es eu => ?_)
      have o6 : fr_off [(0, 1, 0, 1), (204, 205, 0, 1), (192, 193, 0, 2147483648), (197, 200, 0, 2147483648), (204, 205, 103, 104), (271, 273, 0, 2147483648)] I I5 := fr_trans o3 (fr_mono (by decide) o5)
      refine fn_lM (U := bkU n0 n1 (bko (bnN I) (bnD I) (bnG I)) n0) h0 h1 hw (by rw [fr_at 267 0 o6 rfl]; exact a2) (by rw [fr_at 267 1 o6 rfl]; exact b2) (bmm o6) gV g5 (by omega) es eu ?_
      refine hP _ _ _ _ (rk_book h (fr_put rfl o6) (fr_mono (by decide) oj2) ?_)
      show ix_u2 I5 204 0 0 0 0 = ix_u2 I5 204 0 0 204 0
      rw [u2_c (by decide), u2_s, fr_at 0 0 o5 rfl, fr_at 0 0 o2 rfl]
      exact u2_s
    have c1 : I2 182 0 = nI n0 := by rw [fr_at 182 0 o3 rfl]; exact a1
    have c2 : I2 182 1 = nI n1 := by rw [fr_at 182 1 o3 rfl]; exact b1
    refine ⟨fun z => ?_, fun z => ?_⟩
    · rw [if_pos z] at md
      exact fn_lp h0 h1 c1 (bm o3) gV g2 md
    · rw [if_neg z] at md
      refine fn_la h0 h1 c1 c2 (bm o3) (fn_lp h0 h1 c1 (bm o3) gV g2 ?_)
      have e : iZ (gS (bnG I 0) n0 - gS (bnG I 1) n1) - iZ (gP (bnG I) (bkg n0 n1 (bko (bnN I) (bnD I) (bnG I))) n0) = iZ (gU (bnG I) (bkg n0 n1 (bko (bnN I) (bnD I) (bnG I))) n0 - gB (bkU n0 n1 (bko (bnN I) (bnD I) (bnG I)) n0) (bnG I 1) n1) := by
        rw [iZ_sub]
        refine congrArg iZ ?_
        have y1 := gP_U (G := bnG I) (g := bkg n0 n1 (bko (bnN I) (bnD I) (bnG I))) (n := n0)
        have y2 := gB_M (n0 := n0) (co := (bko (bnN I) (bnD I) (bnG I))) (G := bnG I) h1 (i := n0)
        omega
      show wp_X12_leans a I2 J2 T (fun w I2 J2 T2 => P (iZ (gS (bnG I 0) n0 - gS (bnG I 1) n1) - iZ (gP (bnG I) (bkg n0 n1 (bko (bnN I) (bnD I) (bnG I))) n0)) w I2 J2 T2)
      rw [e]
      exact md
  · skip
    simp only [wp_X11_leans, wp_X12_leans, wp_X11_outside, wp_X11_refuse, wp_X2_leanOfAll, wp_X2_leanOfPairs, wp_X12_refuse, lgc_lt, lgc_le, lgc_eq, cmp_s, cmp_t, u2_e]
    try simp only [Int32.lt_iff_toInt_lt, Int32.le_iff_toInt_le]
    simp
    repeat' (first | with_reducible refine And.intro ?_ ?_ | with_reducible intro _)
    all_goals try first | rfl | (exfalso; omega) | exact inb_of (by omega) (by omega) | exact hP _ _ _ _ (RR_st h 1)

