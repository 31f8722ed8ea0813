/-! books: the reference's table and mates -/
def bkMM (I : Nat → Nat → Int32) (n0 n1 : Nat) (N D G : Nat → Nat → Nat) : Prop := (∀ a, a < n0 → N 0 a ≤ 9999 ∧ D 0 a ≤ 9999 ∧ G 0 a ≤ 1000000 ∧ I 268 a = nI (N 0 a) ∧ I 269 a = nI (D 0 a) ∧ I 270 a = nI (G 0 a)) ∧ ∀ b, b < n1 → N 1 b ≤ 9999 ∧ D 1 b ≤ 9999 ∧ G 1 b ≤ 1000000 ∧ I 268 (12 + b) = nI (N 1 b) ∧ I 269 (12 + b) = nI (D 1 b) ∧ I 270 (12 + b) = nI (G 1 b)
theorem fn_csM {n0 n1 a b : Nat} {N D G : Nat → Nat → Nat} (h0 : n0 ≤ 12) (h1 : n1 ≤ 12) (ha : a < n0) (hb : b < n1) {I : Nat → Nat → Int32} {J : Nat → Nat → Int64} {T : Option Nat} {P : Int32 → (Nat → Nat → Int32) → (Nat → Nat → Int64) → Option Nat → Prop} (h : bkMM I n0 n1 N D G) (hP : P (nI (bko N D G a b)) I J T) : wp_X12_cost (nI a) (nI b) I J T P := by
  obtain ⟨x1, x2, x3, x4, x5, x6⟩ := h.1 a ha
  obtain ⟨y1, y2, y3, y4, y5, y6⟩ := h.2 b hb
  have ia : ix_inb (nI a) 24 = true := nI_in2 (by omega) (by decide)
  have ib : ix_inb (nI (12 + b)) 24 = true := nI_in2 (by omega) (by decide)
  have e10 : (10 : Int32) = nI 10 := rfl
  have e20 : (20 : Int32) = nI 20 := rfl
  have e100 : (100 : Int32) = nI 100 := rfl
  have dd : bkD (D 0 a) (D 1 b) ≤ 9999 := by unfold bkD; omega
  have gg : bkD (G 0 a) (G 1 b) ≤ 1000000 := by unfold bkD; omega
  have g2 : bkD (G 0 a) (G 1 b) / 100 ≤ 10000 := by omega
  unfold wp_X12_cost
  rw [show (12 : Int32) = nI 12 from rfl, nI_add, nI_clamp (show a < 2 ^ 31 by omega), nI_clamp (show 12 + b < 2 ^ 31 by omega), x4, x5, y4, y5, nI_eq (by omega) (by omega)]
  unfold bko at hP
  refine ⟨ia, ib, fun c => ?_, fun c => ?_⟩
  · rw [if_pos c] at hP
    refine ⟨ia, ib, ab_nJ (by omega) (by omega) ?_⟩
    rw [e10]
    refine mn_nI (by omega) (by unfold bkD at dd; omega) ⟨ia, ib, ?_⟩
    show wp_J9_abs_0f7a4 (I 270 a - I 270 (12 + b)) I J T _
    rw [x6, y6]
    refine ab_nJ (by omega) (by omega) ?_
    rw [e100, nI_div (by unfold bkD at gg; omega) (by omega) (by omega), e20]
    refine mn_nI (by omega) (by unfold bkD at g2; omega) ?_
    show P (0 + nI (min 10 (bkD (D 0 a) (D 1 b))) + nI (min 20 (bkD (G 0 a) (G 1 b) / 100))) I J T
    rw [show (0 : Int32) = nI 0 from rfl, nI_add, nI_add]
    exact hP
  · rw [if_neg c] at hP
    refine ⟨ia, ib, ab_nJ (by omega) (by omega) ?_⟩
    rw [e10]
    refine mn_nI (by omega) (by unfold bkD at dd; omega) ⟨ia, ib, ?_⟩
    show wp_J9_abs_0f7a4 (I 270 a - I 270 (12 + b)) I J T _
    rw [x6, y6]
    refine ab_nJ (by omega) (by omega) ?_
    rw [e100, nI_div (by unfold bkD at gg; omega) (by omega) (by omega), e20]
    refine mn_nI (by omega) (by unfold bkD at g2; omega) ?_
    show P (nI 20 + nI (min 10 (bkD (D 0 a) (D 1 b))) + nI (min 20 (bkD (G 0 a) (G 1 b) / 100))) I J T
    rw [nI_add, nI_add]
    exact hP
theorem bkn_le {U : Nat → Bool} : ∀ {n : Nat}, bkn U n ≤ n
  | 0 => Nat.le_refl _
  | n + 1 => by
    rw [bkn]
    have := bkn_le (U := U) (n := n)
    split <;> omega
theorem bkW_bd {n1 : Nat} {co : Nat → Nat → Nat} : ∀ {k i : Nat} {U : Nat → Bool}, bkW n1 co k i U ≤ 25 * k + 25 * n1
  | 0, i, U => by
    rw [bkW]
    have := bkn_le (U := U) (n := n1)
    omega
  | k + 1, i, U => by
    rw [bkW]
    have h1 := bkm_0 (co := co) (V := bkW n1 co k (i + 1)) (U := U) (i := i) (n := n1)
    have h2 := bkW_bd (n1 := n1) (co := co) (k := k) (i := i + 1) (U := U)
    omega
theorem bki_t {s b : Nat} : bki (s.testBit) b = (s ||| 2 ^ b).testBit := funext fun x => bi_b.symm
theorem p2_le {n : Nat} (h : n ≤ 12) : 2 ^ n ≤ 4096 := Nat.pow_le_pow_right (show 0 < 2 by omega) h
/-- what stands in the table for row i -/
def bkR (I : Nat → Nat → Int32) (n0 n1 : Nat) (co : Nat → Nat → Nat) (i : Nat) : Prop := ∀ s, s < 2 ^ n1 → I 271 (4096 * i + s) = nI (bkW n1 co (n0 - i) i s.testBit)
theorem fn_pg {n0 n1 : Nat} {N D G : Nat → Nat → Nat} (h0 : n0 ≤ 12) (h1 : n1 ≤ 12) {I : Nat → Nat → Int32} {J : Nat → Nat → Int64} {T : Option Nat} {P : Int32 → (Nat → Nat → Int32) → (Nat → Nat → Int64) → Option Nat → Prop} (e0 : I 267 0 = nI n0) (e1 : I 267 1 = nI n1) (h : bkMM I n0 n1 N D G) (hP : ∀ I2, fr_off [(271, 272, 0, 2147483648)] I I2 → (∀ i, i ≤ n0 → bkR I2 n0 n1 (bko N D G) i) → P (nI (bkW n1 (bko N D G) n0 0 (fun _ => false))) I2 J T) : wp_X12_pairing I J T P := by
  have pl := p2_le h1
  have pp : 0 < 2 ^ n1 := Nat.pow_pos (by omega)
  have bm : ∀ {I1 : Nat → Nat → Int32}, fr_off [(271, 272, 0, 2147483648)] I I1 → bkMM I1 n0 n1 N D G := fun {I1} o => by
    unfold bkMM
    rw [fr_rw1 o 268 rfl, fr_rw1 o 269 rfl, fr_rw1 o 270 rfl]
    exact h
  have b7 := bt_7 ⟨n1, by omega⟩
  dsimp only at b7
  unfold wp_X12_pairing
  rw [show ((0 : Int32)).toNatClampNeg = 0 from rfl, show ((1 : Int32)).toNatClampNeg = 1 from rfl, e0, e1, b7]
  intro V16 hV16
  have key16 : ∀ (j : Nat) (I1 : Nat → Nat → Int32), j ≤ n0 + 1 → fr_off [(271, 272, 0, 2147483648)] I I1 → (∀ i, j ≤ i → i ≤ n0 → bkR I1 n0 n1 (bko N D G) i) → V16 (nI (2 ^ n1)) (iZ ((j : Int) - 1)) I1 J T := by
    intro j
    induction j with
    | zero =>
      intro I1 hj o g
      apply hV16
      unfold wb_X12_pairing_16
      have g0 := g 0 (by omega) (by omega) 0 pp
      rw [show 4096 * 0 + 0 = 0 from rfl, Nat.sub_zero] at g0
      have z0 : (0 : Nat).testBit = fun _ => false := funext fun x => Nat.zero_testBit x
      rw [z0] at g0
      have hp := hP I1 o (fun i hi => g i (by omega) hi)
      rw [← g0] at hp
      exact ⟨fun _ => hp, fun z => absurd (by decide) z⟩
    | succ i ihj =>
      intro I1 hj o g
      have ei : iZ (((i + 1 : Nat) : Int) - 1) = nI i := by rw [nI_iZ]; exact congrArg iZ (by omega)
      have em : nI i + -1 = iZ ((i : Int) - 1) := by rw [nI_iZ, iZ_m1, iZ_add]; exact congrArg iZ (by omega)
      rw [ei]
      apply hV16
      unfold wb_X12_pairing_16
      refine ⟨fun z => absurd z (nI_nlt (a := i) (b := 0) (by omega) (by omega)), fun _ => ?_⟩
      intro V22 hV22
      have key22 : ∀ (q s : Nat) (I2 : Nat → Nat → Int32), s + q = 2 ^ n1 → fr_off [(271, 272, 0, 2147483648)] I I2 → (∀ k, i + 1 ≤ k → k ≤ n0 → bkR I2 n0 n1 (bko N D G) k) → (∀ x, x < s → I2 271 (4096 * i + x) = nI (bkW n1 (bko N D G) (n0 - i) i x.testBit)) → V22 (nI (2 ^ n1)) (nI i) (nI s) I2 J T := by
        intro q
        induction q with
        | zero =>
          intro s I2 hs o2 g2 g3
          have hs : s = 2 ^ n1 := by omega
          subst hs
          apply hV22
          unfold wb_X12_pairing_22_16
          rw [em]
          refine ⟨fun z => absurd z (nI_nlt (Nat.le_refl _) (by omega)), fun _ => ihj I2 (by omega) o2 (fun k k1 k2 => ?_)⟩
          by_cases e : k = i
          · subst e; exact g3
          · exact g2 k (by omega) k2
        | succ q ih =>
          intro s I2 hs o2 g2 g3
          have s4 : s < 4096 := by omega
          have sn : s < 2 ^ n1 := by omega
          have put : ∀ (I3 : Nat → Nat → Int32) (v : Nat), I3 = I2 → v = bkW n1 (bko N D G) (n0 - i) i s.testBit → ix_inb (4096 * nI i + nI s) 53248 = true ∧ V22 (nI (2 ^ n1)) (nI i) (nI s + 1) (ix_u2 I3 271 (4096 * nI i + nI s).toNatClampNeg (nI v)) J T := fun I3 v e3 ev => by
            subst e3
            rw [show (4096 : Int32) = nI 4096 from rfl, nI_mul, nI_add, nI_clamp (show 4096 * i + s < 2 ^ 31 by omega), nI_1]
            refine ⟨nI_in2 (by omega) (by decide), ih (s + 1) _ (by omega) (fr_putn rfl (by omega) o2) (fun k k1 k2 x hx => ?_) (fun x hx => ?_)⟩
            · rw [u2_j (by omega)]; exact g2 k k1 k2 x hx
            · by_cases e : x = s
              · subst e; rw [u2_s, ev]
              · rw [u2_j (by omega)]; exact g3 x (by omega)
          have l0 : I2 267 0 = nI n0 := by rw [fr_at 267 0 o2 rfl]; exact e0
          have l1 : I2 267 1 = nI n1 := by rw [fr_at 267 1 o2 rfl]; exact e1
          apply hV22
          unfold wb_X12_pairing_22_16
          rw [show ((0 : Int32)).toNatClampNeg = 0 from rfl, l0, nI_eq (by omega) (by omega), show (4096 : Int32) = nI 4096 from rfl, nI_1, nI_mul, nI_add]
          refine ⟨fun _ => ⟨fun c => ?_, fun c => ⟨nI_in2 (by omega) (by decide), ?_⟩⟩, fun z => absurd (nI_lt (by omega) (by omega)) z⟩
          · intro V43 hV43
            have key43 : ∀ (q b : Nat), b + q = n1 → V43 (nI (2 ^ n1)) (nI i) (nI s) (nI (25 * bkn s.testBit b)) (nI b) I2 J T := by
              intro q
              induction q with
              | zero =>
                intro b hb
                have hb : b = n1 := by omega
                subst hb
                apply hV43
                unfold wb_X12_pairing_43_16_22
                rw [show ((1 : Int32)).toNatClampNeg = 1 from rfl, l1]
                refine ⟨fun z => absurd z (nI_nlt (Nat.le_refl _) (by omega)), fun _ => put I2 _ rfl ?_⟩
                rw [c, Nat.sub_self]
                rfl
              | succ q ihq =>
                intro b hb
                have nx := ihq (b + 1) (by omega)
                have t := bi_t (s := s) (b := b) s4 (by omega)
                apply hV43
                unfold wb_X12_pairing_43_16_22
                rw [show ((1 : Int32)).toNatClampNeg = 1 from rfl, l1, t]
                simp only [nI_1]
                rw [bkn] at nx
                refine ⟨fun _ => ⟨fun z => ?_, fun z => ?_⟩, fun z => absurd (nI_lt (by omega) (by omega)) z⟩
                · rw [z, if_neg (by decide)] at nx
                  rw [show (25 : Int32) = nI 25 from rfl, nI_add]
                  exact nx
                · have z : s.testBit b = true := by simpa using z
                  rw [z, if_pos rfl] at nx
                  rw [show (0 : Int32) = nI 0 from rfl, nI_add]
                  exact nx
            exact key43 n1 0 (by omega)
          · have iN : i + 1 ≤ n0 := by omega
            have e5 : n0 - i = (n0 - (i + 1)) + 1 := by omega
            intro V105 hV105
            have key105 : ∀ (q b : Nat), b + q = n1 → V105 (nI (2 ^ n1)) (nI i) (nI s) (nI (bkm (bko N D G) (bkW n1 (bko N D G) (n0 - (i + 1)) (i + 1)) s.testBit i b)) (nI b) I2 J T := by
              intro q
              induction q with
              | zero =>
                intro b hb
                have hb : b = n1 := by omega
                subst hb
                apply hV105
                unfold wb_X12_pairing_105_16_22
                rw [show ((1 : Int32)).toNatClampNeg = 1 from rfl, l1]
                refine ⟨fun z => absurd z (nI_nlt (Nat.le_refl _) (by omega)), fun _ => put I2 _ rfl ?_⟩
                rw [e5]
                rfl
              | succ q ihq =>
                intro b hb
                have nx := ihq (b + 1) (by omega)
                have t := bi_t (s := s) (b := b) s4 (by omega)
                have ob := bi_o (s := s) (b := b) s4 (by omega)
                have sl := bi_l (b := b) sn (by omega)
                apply hV105
                unfold wb_X12_pairing_105_16_22
                rw [show ((1 : Int32)).toNatClampNeg = 1 from rfl, l1, t, ob]
                simp only [nI_1]
                rw [bkm] at nx
                refine ⟨fun _ => ⟨fun z => ?_, fun z => ?_⟩, fun z => absurd (nI_lt (by omega) (by omega)) z⟩
                · rw [z, if_neg (by decide)] at nx
                  refine fn_csM h0 h1 (by omega) (by omega) (bm o2) ?_
                  rw [show (4096 : Int32) = nI 4096 from rfl, nI_mul, nI_add, nI_clamp (show 4096 * (i + 1) + (s ||| 2 ^ b) < 2 ^ 31 by omega), g2 (i + 1) (Nat.le_refl _) iN _ sl, nI_add]
                  have c50 := bko_le (N := N) (D := D) (G := G) (a := i) (b := b)
                  have w1 := bkW_bd (n1 := n1) (co := bko N D G) (k := n0 - (i + 1)) (i := i + 1) (U := (s ||| 2 ^ b).testBit)
                  have w2 := bkW_bd (n1 := n1) (co := bko N D G) (k := n0 - (i + 1)) (i := i + 1) (U := s.testBit)
                  have w3 := bkm_0 (co := bko N D G) (V := bkW n1 (bko N D G) (n0 - (i + 1)) (i + 1)) (U := s.testBit) (i := i) (n := b)
                  refine ⟨nI_in2 (by omega) (by decide), mn_nI (by omega) (by omega) ?_⟩
                  rw [bki_t] at nx
                  exact nx
                · have z : s.testBit b = true := by simpa using z
                  rw [z, if_pos rfl] at nx
                  exact nx
            have k0 := key105 n1 0 (by omega)
            rw [nI_clamp (show 4096 * (i + 1) + s < 2 ^ 31 by omega), g2 (i + 1) (Nat.le_refl _) iN s sn, show (25 : Int32) = nI 25 from rfl, nI_add]
            exact k0
      exact key22 (2 ^ n1) 0 I1 (by omega) o (fun k k1 k2 => g k (by omega) k2) (fun x hx => by omega)
  have := key16 (n0 + 1) I (Nat.le_refl _) fr_refl (fun i h1 h2 => by omega)
  rw [show ((n0 + 1 : Nat) : Int) - 1 = (n0 : Int) by omega, ← nI_iZ] at this
  exact this
theorem mt_m {x : Nat} (h : x < 12) : ¬ mt_ x = -1 := fun e => by
  unfold mt_ at e
  rw [if_neg (by omega)] at e
  exact nI_nm1 (by omega) e
theorem fn_prs {n0 n1 : Nat} {N D G : Nat → Nat → Nat} (h0 : n0 ≤ 12) (h1 : n1 ≤ 12) {I : Nat → Nat → Int32} {J : Nat → Nat → Int64} {T : Option Nat} {P : (Nat → Nat → Int32) → (Nat → Nat → Int64) → Option Nat → Prop} (e0 : I 267 0 = nI n0) (e1 : I 267 1 = nI n1) (h : bkMM I n0 n1 N D G) (hP : ∀ I2 s, fr_off [(204, 205, 103, 104), (271, 273, 0, 2147483648)] I I2 → (∀ i, i < n0 → I2 272 i = mt_ (bkg n0 n1 (bko N D G) i)) → s < 2 ^ n1 → I2 204 103 = nI s → (∀ x, x < 12 → s.testBit x = bkU n0 n1 (bko N D G) n0 x) → P I2 J T) : wp_X12_pairs I J T P := by
  have pl := p2_le h1
  have pp : 0 < 2 ^ n1 := Nat.pow_pos (by omega)
  unfold wp_X12_pairs
  refine fn_pg h0 h1 e0 e1 h (fun I9 o9 g9 => ?_)
  have bm : ∀ {I1 : Nat → Nat → Int32}, fr_off [(204, 205, 103, 104), (271, 273, 0, 2147483648)] I I1 → bkMM I1 n0 n1 N D G := fun {I1} o => by
    unfold bkMM
    rw [fr_rw1 o 268 rfl, fr_rw1 o 269 rfl, fr_rw1 o 270 rfl]
    exact h
  intro V12 hV12
  have key12 : ∀ (q i s : Nat) (I1 : Nat → Nat → Int32), i + q = n0 → fr_off [(204, 205, 103, 104), (271, 273, 0, 2147483648)] I I1 → I1 271 = I9 271 → s < 2 ^ n1 → I1 204 103 = nI s → s.testBit = bkU n0 n1 (bko N D G) i → (∀ x, x < i → I1 272 x = mt_ (bkg n0 n1 (bko N D G) x)) → V12 (nI i) I1 J T := by
    intro q
    induction q with
    | zero =>
      intro i s I1 hi o el sn es eu g
      have hi : i = n0 := by omega
      subst hi
      apply hV12
      unfold wb_X12_pairs_12
      rw [show ((0 : Int32)).toNatClampNeg = 0 from rfl, fr_at 267 0 o rfl, e0]
      exact ⟨fun z => absurd z (nI_nlt (Nat.le_refl _) (by omega)), fun _ => hP I1 s o g sn es (fun x _ => by rw [eu])⟩
    | succ q ih =>
      intro i s I1 hi o el sn es eu g
      have i12 : ix_inb (nI i) 12 = true := nI_in2 (by omega) (by decide)
      have gl := g9 i (by omega) s sn
      have W1 := bkW_bd (n1 := n1) (co := bko N D G) (k := n0 - i) (i := i) (U := s.testBit)
      apply hV12
      unfold wb_X12_pairs_12
      rw [show ((0 : Int32)).toNatClampNeg = 0 from rfl, fr_at 267 0 o rfl, e0, nI_clamp (show i < 2 ^ 31 by omega)]
      refine ⟨fun _ => ⟨i12, ?_⟩, fun z => absurd (nI_lt (by omega) (by omega)) z⟩
      intro V31 hV31
      -- the row is done
      have dn : ∀ (I2 : Nat → Nat → Int32), fr_off [(204, 205, 103, 104), (271, 273, 0, 2147483648)] I I2 → I2 271 = I9 271 → I2 204 103 = nI s → I2 272 i = mt_ (bkg n0 n1 (bko N D G) i) → (∀ x, x < i → I2 272 x = mt_ (bkg n0 n1 (bko N D G) x)) → ((I2 272 i = (-1 : Int32) → V12 (nI i + (1 : Int32)) I2 J T) ∧ (¬ (I2 272 i = (-1 : Int32)) → ix_inb (nI i) 12 = true ∧ V12 (nI i + (1 : Int32)) (ix_u2 I2 204 103 ((I2 204 103) ||| (((1 : Int32)) <<< ((I2 272 i) &&& 31)))) J T)) := fun I2 o2 el2 es2 em g2 => by
        rw [em, es2, nI_1]
        have gs : ∀ x, x < i + 1 → I2 272 x = mt_ (bkg n0 n1 (bko N D G) x) := fun x hx => by
          by_cases e : x = i
          · subst e; exact em
          · exact g2 x (by omega)
        rcases bkg_sp (n0 := n0) (co := bko N D G) h1 i with ⟨y, -⟩ | ⟨y, -⟩
        · refine ⟨fun _ => ih (i + 1) s I2 (by omega) o2 el2 sn es2 (by rw [bkU_s, if_pos y]; exact eu) gs, fun z => absurd (by rw [y]; rfl) z⟩
        · have y12 : ¬ bkg n0 n1 (bko N D G) i = 12 := by omega
          have ob := bi_o (s := s) (b := bkg n0 n1 (bko N D G) i) (by omega) (by omega)
          have me : mt_ (bkg n0 n1 (bko N D G) i) = nI (bkg n0 n1 (bko N D G) i) := if_neg y12
          refine ⟨fun z => absurd z (mt_m (by omega)), fun _ => ⟨i12, ?_⟩⟩
          rw [me, ob]
          refine ih (i + 1) _ _ (by omega) (fr_put rfl o2) (by rw [u2_r (by decide)]; exact el2) (bi_l sn y) u2_s ?_ (fun x hx => by rw [u2_c (by decide)]; exact gs x hx)
          rw [bkU_s, if_neg y12, ← eu, bki_t]
      have key31 : ∀ (q b : Nat) (I2 : Nat → Nat → Int32), b + q = n1 → fr_off [(204, 205, 103, 104), (271, 273, 0, 2147483648)] I I2 → I2 271 = I9 271 → I2 204 103 = nI s → I2 272 i = -1 → (∀ x, x < i → I2 272 x = mt_ (bkg n0 n1 (bko N D G) x)) → bkp n1 (bko N D G) (bkW n1 (bko N D G) (n0 - i - 1) (i + 1)) (bkU n0 n1 (bko N D G) i) i (bkW n1 (bko N D G) (n0 - i) i (bkU n0 n1 (bko N D G) i)) q b = bkg n0 n1 (bko N D G) i → V31 (nI i) (nI b) I2 J T := by
        intro q
        induction q with
        | zero =>
          intro b I2 hb o2 el2 es2 em g2 e
          have hb : b = n1 := by omega
          subst hb
          have e : 12 = bkg n0 b (bko N D G) i := e
          apply hV31
          unfold wb_X12_pairs_31_12
          rw [show ((1 : Int32)).toNatClampNeg = 1 from rfl, fr_at 267 1 o2 rfl, e1, nI_clamp (show i < 2 ^ 31 by omega)]
          exact ⟨fun z => absurd z (nI_nlt (Nat.le_refl _) (by omega)), fun _ => ⟨i12, dn I2 o2 el2 es2 (by rw [em, ← e]; rfl) g2⟩⟩
        | succ q ihq =>
          intro b I2 hb o2 el2 es2 em g2 e
          have t := bi_t (s := s) (b := b) (by omega) (by omega)
          have ob := bi_o (s := s) (b := b) (by omega) (by omega)
          have sl := bi_l (b := b) sn (by omega)
          rw [bkp, ← eu, bki_t] at e
          apply hV31
          unfold wb_X12_pairs_31_12
          rw [show ((1 : Int32)).toNatClampNeg = 1 from rfl, fr_at 267 1 o2 rfl, e1, nI_clamp (show i < 2 ^ 31 by omega), em, es2, t]
          refine ⟨fun _ => ⟨i12, fun _ => ⟨fun z => ?_, fun z => ?_⟩, fun z => absurd rfl z⟩, fun z => absurd (nI_lt (by omega) (by omega)) z⟩
          · refine fn_csM h0 h1 (by omega) (by omega) (bm o2) ?_
            rw [es2, ob, el2, show (4096 : Int32) = nI 4096 from rfl, nI_1, nI_mul, nI_mul, nI_add, nI_add, nI_clamp (show 4096 * (i + 1) + (s ||| 2 ^ b) < 2 ^ 31 by omega), nI_clamp (show 4096 * i + s < 2 ^ 31 by omega), g9 (i + 1) (by omega) _ sl, gl, nI_add]
            have c50 := bko_le (N := N) (D := D) (G := G) (a := i) (b := b)
            have w1 := bkW_bd (n1 := n1) (co := bko N D G) (k := n0 - (i + 1)) (i := i + 1) (U := (s ||| 2 ^ b).testBit)
            rw [nI_eq (by omega) (by omega), show n0 - (i + 1) = n0 - i - 1 by omega]
            refine ⟨nI_in2 (by omega) (by decide), nI_in2 (by omega) (by decide), fun c => ⟨i12, ?_⟩, fun c => ?_⟩
            · rw [if_pos ⟨z, c⟩] at e
              rw [nI_1]
              apply hV31
              unfold wb_X12_pairs_31_12
              have o3 : fr_off [(204, 205, 103, 104), (271, 273, 0, 2147483648)] I (ix_u2 I2 272 i (nI b)) := fr_putn rfl (by omega) o2
              have em3 : ix_u2 I2 272 i (nI b) 272 i = mt_ (bkg n0 n1 (bko N D G) i) := by
                rw [u2_s, ← e]
                unfold mt_
                rw [if_neg (by omega)]
              have nm : ¬ ix_u2 I2 272 i (nI b) 272 i = -1 := by rw [em3, ← e]; exact mt_m (by omega)
              have d3 := dn (ix_u2 I2 272 i (nI b)) o3 (by rw [u2_r (by decide)]; exact el2) (by rw [u2_c (by decide)]; exact es2) em3 (fun x hx => by rw [u2_j (by omega)]; exact g2 x hx)
              rw [nI_clamp (show i < 2 ^ 31 by omega)]
              exact ⟨fun _ => ⟨i12, fun y => absurd y nm, fun _ => ⟨i12, d3⟩⟩, fun _ => ⟨i12, d3⟩⟩
            · rw [if_neg (fun y => c y.2)] at e
              rw [nI_1]
              rw [eu] at e
              exact ihq (b + 1) I2 (by omega) o2 el2 es2 em g2 e
          · rw [if_neg (fun y => z y.1)] at e
            rw [nI_1]
            rw [eu] at e
            exact ihq (b + 1) I2 (by omega) o2 el2 es2 em g2 e
      exact key31 n1 0 (ix_u2 I1 272 i (-1)) (by omega) (fr_putn rfl (by omega) o) (by rw [u2_r (by decide)]; exact el) (by rw [u2_c (by decide)]; exact es) u2_s (fun x hx => by rw [u2_j (by omega)]; exact g x hx) rfl
  refine key12 n0 0 0 _ (by omega) (fr_put rfl (fr_mono (by decide) o9)) (by rw [u2_r (by decide)]) pp u2_s ?_ (fun x hx => by omega)
  exact funext fun x => Nat.zero_testBit x
