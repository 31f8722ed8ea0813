theorem rk_acct {I I2 : Nat → Nat → Int32} {J : Nat → Nat → Int64} {J2 : Nat → Nat → Int64} (h : RR I J) (o : fr_off [(0, 1, 0, 1), (204, 205, 0, 1), (95, 96, 0, 2147483648), (97, 98, 2, 10), (104, 106, 0, 2147483648), (204, 205, 58, 64), (243, 246, 0, 2147483648), (124, 125, 0, 1), (204, 205, 80, 81)] I I2) (oj : fr_off [(67, 68, 0, 2147483648), (76, 77, 0, 2147483648), (85, 86, 0, 2147483648), (94, 95, 0, 2147483648), (96, 97, 0, 2147483648), (97, 98, 3, 4), (97, 98, 10, 12), (98, 99, 0, 2147483648), (100, 104, 0, 2147483648), (204, 205, 60, 63), (241, 243, 0, 2147483648), (134, 141, 0, 2147483648), (256, 257, 0, 2147483648), (126, 133, 0, 2147483648), (255, 256, 0, 2147483648)] J J2) (p0 : RL_stat I2) (p1 : RL_acct I2 J2) : RR I2 J2 := ⟨p0, fr_frac oj rfl h.frac, fr_tray o oj rfl h.tray, fr_land o rfl h.land, fr_gold o rfl h.gold, fr_road o rfl h.road, fr_carr o rfl h.carr, fr_rate o rfl h.rate, fr_tape o rfl h.tape, fr_falt o rfl h.falt, fr_resv o rfl h.resv, fr_flow o rfl h.flow, fr_draw o rfl h.draw, fr_tell o rfl h.tell, p1, fr_rule o rfl h.rule, fr_bags o rfl h.bags, fr_hand o rfl h.hand, fr_book o rfl h.book, fr_figs oj rfl h.figs, fr_case o rfl h.case, fr_wght o rfl h.wght, fr_trty o oj rfl h.trty⟩
/-! the account, both sides -/
def mz_ : Nat → Nat → Int64 := fun _ _ => 0
theorem fn_bec2 {a b size w p day : Int32} {I : Nat → Nat → Int32} {J : Nat → Nat → Int64} {T : Option Nat} {P : (Nat → Nat → Int32) → (Nat → Nat → Int64) → Option Nat → Prop} (hw : 1 ≤ w.toInt) (hp : 1 ≤ p.toInt) (hP : ∀ I2 J2, fr_off [(95, 96, 0, 2147483648)] I I2 → fr_off [(96, 97, 0, 2147483648)] J J2 → ml_ I2 J2 a b size w.toInt64 p.toInt64 day 0 (-1) → P I2 J2 T) : wp_X6_become a b size w p day I J T P := by
  unfold wp_X6_become
  have np : ¬ p ≤ 0 := fun z => by
    have z := Int32.le_iff_toInt_le.mp z
    have z : p.toInt ≤ 0 := z
    omega
  have nz : ix_nz p = true := by
    unfold ix_nz
    have : ¬ p = 0 := fun z => by rw [z] at hp; exact absurd hp (by decide)
    simp [this]
  refine ⟨fun z => absurd z np, fun _ => ⟨nz, ?_⟩⟩
  unfold wp_X6_goOver
  rw [show ((0 : Int32)).toNatClampNeg = 0 from rfl, show ((1 : Int32)).toNatClampNeg = 1 from rfl, show ((2 : Int32)).toNatClampNeg = 2 from rfl, show ((3 : Int32)).toNatClampNeg = 3 from rfl, show ((4 : Int32)).toNatClampNeg = 4 from rfl, show ((5 : Int32)).toNatClampNeg = 5 from rfl, show ((6 : Int32)).toNatClampNeg = 6 from rfl]
  refine hP _ _ (fr_put rfl (fr_put rfl (fr_put rfl (fr_put rfl fr_refl)))) (fr_put rfl (fr_put rfl (fr_put rfl (fr_put rfl (fr_put rfl (fr_put rfl (fr_put rfl fr_refl))))))) ⟨by simp [u2_e], by simp [u2_e], by simp [u2_e], by simp [u2_e], ?_⟩
  refine l7_ ?_ ?_ ?_ ?_ ?_ ?_ ?_ <;> simp [u2_e, vm_, dv_64 hw hp]
theorem fn_beg {I : Nat → Nat → Int32} {J : Nat → Nat → Int64} {T : Option Nat} {P : (Nat → Nat → Int32) → (Nat → Nat → Int64) → Option Nat → Prop} (hP : ∀ J2, fr_off [(134, 141, 0, 2147483648)] J J2 → fcC J2 mz_ → P I J2 T) : wp_X0_begin I J T P := by
  unfold wp_X0_begin
  intro V hV
  have key : ∀ (m a : Nat) (J1 : Nat → Nat → Int64), a + m = 7 → fr_off [(134, 141, 0, 2147483648)] J J1 → (∀ x b, x < a → b < 7 → J1 (134 + x) b = 0) → V (nI a) I J1 T := by
    intro m
    induction m with
    | zero =>
      intro a J1 ha o q
      have ha : a = 7 := by omega
      subst ha
      apply hV
      unfold wb_X0_begin_2
      exact ⟨fun z => absurd z (by decide), fun _ => hP J1 o (fun x b hx hb => q x b hx hb)⟩
    | succ m ih =>
      intro a J1 ha o q
      have a7 : a < 7 := by omega
      apply hV
      unfold wb_X0_begin_2
      refine ⟨fun _ => ?_, fun z => absurd (nI_lt (a := a) (b := 7) a7 (by omega)) z⟩
      intro W hW
      have key2 : ∀ (m2 b : Nat) (J2 : Nat → Nat → Int64), b + m2 = 7 → fr_off [(134, 141, 0, 2147483648)] J J2 → (∀ x y, x < a → y < 7 → J2 (134 + x) y = 0) → (∀ y, y < b → J2 (134 + a) y = 0) → W (nI a) (nI b) I J2 T := by
        intro m2
        induction m2 with
        | zero =>
          intro b J2 hb o2 q2 q3
          have hb : b = 7 := by omega
          subst hb
          apply hW
          unfold wb_X0_begin_10_2
          simp only [nI_1]
          refine ⟨fun z => absurd z (by decide), fun _ => ih (a + 1) J2 (by omega) o2 (fun x y hx hy => ?_)⟩
          by_cases c : x = a
          · subst c; exact q3 y hy
          · exact q2 x y (by omega) hy
        | succ m2 ih2 =>
          intro b J2 hb o2 q2 q3
          have b7 : b < 7 := by omega
          apply hW
          unfold wb_X0_begin_10_2
          rw [re_133 a7, nI_clamp (show b < 2 ^ 31 by omega), nI_1, nI_1]
          refine ⟨fun _ => ⟨nI_in2 a7 (by decide), nI_in2 b7 (by decide), ih2 (b + 1) _ (by omega) (fr_put (fi_134 a7 b7) o2) (fun x y hx hy => by rw [u2_c (by omega)]; exact q2 x y hx hy) (fun y hy => ?_)⟩, fun z => absurd (nI_lt (a := b) (b := 7) b7 (by omega)) z⟩
          by_cases c : y = b
          · subst c; exact u2_s
          · rw [u2_j c]; exact q3 y (by omega)
      exact key2 7 0 J1 (by omega) o q (fun y hy => by omega)
  exact key 7 0 J (by omega) fr_refl (fun x b hx => by omega)
theorem fi_126 {m v : Nat} (hm : m < 7) (hv : v < 7) : fr_in [(126, 133, 0, 2147483648)] (126 + m) v = true := by
  unfold fr_in
  rw [List.any_eq_true]
  refine ⟨(126, 133, 0, 2147483648), by simp, ?_⟩
  rw [fr_1_iff]
  show 126 ≤ 126 + m ∧ 126 + m < 133 ∧ 0 ≤ v ∧ v < 2147483648
  omega
def sg7 (D : Nat → Nat → Int64) (n : Nat) : Int64 := sl_ (fun k => D (k / 7) (k % 7)) n
theorem fn_stl {D : Nat → Nat → Int64} {I : Nat → Nat → Int32} {J : Nat → Nat → Int64} {T : Option Nat} {P : Int64 → (Nat → Nat → Int32) → (Nat → Nat → Int64) → Option Nat → Prop} (hD : fcC J D) (hP : ∀ J2, fr_off [(126, 133, 0, 2147483648)] J J2 → (∀ a b, a < 7 → b < 7 → J2 (126 + a) b = D a b) → P (sg7 D 49) (ix_u2 I 124 0 1) J2 T) : wp_X0_settle I J T P := by
  unfold wp_X0_settle
  intro V hV
  have key : ∀ (m a : Nat) (J1 : Nat → Nat → Int64), a + m = 7 → fr_off [(126, 133, 0, 2147483648)] J J1 → (∀ x b, x < a → b < 7 → J1 (126 + x) b = D x b) → V (sg7 D (7 * a)) (nI a) I J1 T := by
    intro m
    induction m with
    | zero =>
      intro a J1 ha o q
      have ha : a = 7 := by omega
      subst ha
      apply hV
      unfold wb_X0_settle_4
      exact ⟨fun z => absurd z (by decide), fun _ => hP J1 o (fun x b hx hb => q x b hx hb)⟩
    | succ m ih =>
      intro a J1 ha o q
      have a7 : a < 7 := by omega
      have ia := nI_in2 a7 (show 7 < 2147483648 by decide)
      apply hV
      unfold wb_X0_settle_4
      refine ⟨fun _ => ?_, fun z => absurd (nI_lt (a := a) (b := 7) a7 (by omega)) z⟩
      intro W hW
      have key2 : ∀ (m2 b : Nat) (J2 : Nat → Nat → Int64), b + m2 = 7 → fr_off [(126, 133, 0, 2147483648)] J J2 → (∀ x y, x < a → y < 7 → J2 (126 + x) y = D x y) → (∀ y, y < b → J2 (126 + a) y = D a y) → W (sg7 D (7 * a + b)) (nI a) (nI b) I J2 T := by
        intro m2
        induction m2 with
        | zero =>
          intro b J2 hb o2 q2 q3
          have hb : b = 7 := by omega
          subst hb
          apply hW
          unfold wb_X0_settle_13_4
          simp only [nI_1]
          have := ih (a + 1) J2 (by omega) o2 (fun x y hx hy => by
            by_cases c : x = a
            · subst c; exact q3 y hy
            · exact q2 x y (by omega) hy)
          exact ⟨fun z => absurd z (by decide), fun _ => this⟩
        | succ m2 ih2 =>
          intro b J2 hb o2 q2 q3
          have b7 : b < 7 := by omega
          have ib := nI_in2 b7 (show 7 < 2147483648 by decide)
          have f1 : J2 (134 + a) b = D a b := by rw [fr_row o2 (a := 134) (b := 141) rfl (show 134 ≤ 134 + a by omega) (by omega)]; exact hD a b a7 b7
          apply hW
          unfold wb_X0_settle_13_4
          rw [re_133 a7, re_125 a7, nI_clamp (show b < 2 ^ 31 by omega), nI_1, nI_1, u2_c (show 134 + a ≠ 126 + a by omega), f1]
          have nxt := ih2 (b + 1) (ix_u2 J2 (126 + a) b (D a b)) (by omega) (fr_put (fi_126 a7 b7) o2) (fun x y hx hy => by rw [u2_c (by omega)]; exact q2 x y hx hy) (fun y hy => by
            by_cases c : y = b
            · subst c; exact u2_s
            · rw [u2_j c]; exact q3 y (by omega))
          have es : sg7 D (7 * a + (b + 1)) = sg7 D (7 * a + b) + D a b := by
            show sl_ _ (7 * a + b + 1) = _
            rw [sl_, show (7 * a + b) / 7 = a by omega, show (7 * a + b) % 7 = b by omega]
            rfl
          rw [es] at nxt
          exact ⟨fun _ => ⟨ia, ia, ib, ib, ia, ib, nxt⟩, fun z => absurd (nI_lt (a := b) (b := 7) b7 (by omega)) z⟩
      exact key2 7 0 J1 (by omega) o q (fun y hy => by omega)
  exact key 7 0 J (by omega) fr_refl (fun x b hx => by omega)
theorem md_KX {I I3 : Nat → Nat → Int32} {J J3 : Nat → Nat → Int64} {L fr to : Nat} {w p : Int64} (h : RR I J) (hl : L ≤ 7 ∧ fr < L ∧ to < L ∧ fr ≠ to) (hp : ix_nzl p = true) (n2 : I 204 6 = nI L) (o3 : fr_off [(0, 1, 0, 1), (204, 205, 0, 1), (95, 96, 0, 2147483648), (97, 98, 2, 10), (104, 106, 0, 2147483648), (204, 205, 58, 64), (243, 246, 0, 2147483648), (124, 125, 0, 1), (204, 205, 80, 81)] I I3) (oj3 : fr_off [(67, 68, 0, 2147483648), (76, 77, 0, 2147483648), (85, 86, 0, 2147483648), (94, 95, 0, 2147483648), (96, 97, 0, 2147483648), (97, 98, 3, 4), (97, 98, 10, 12), (98, 99, 0, 2147483648), (100, 104, 0, 2147483648), (204, 205, 60, 63), (241, 243, 0, 2147483648), (134, 141, 0, 2147483648), (256, 257, 0, 2147483648), (126, 133, 0, 2147483648), (255, 256, 0, 2147483648)] J J3) : wmK (bI I 51 44) L fr to w p (rdI I) (FI_ I w) I3 J3 := by
  refine ⟨hl, h.tw o3 oj3 rfl rfl, fr_bI o3 51 44 rfl, hp, by rw [fr_at 204 6 o3 rfl]; exact n2, fun a b ha hb => ?_⟩
  obtain ⟨r1, r2, r3, r4⟩ := h.rds w ha hb
  rw [fr_rw1 o3 211 rfl, fr_rw1 o3 212 rfl]
  exact ⟨r1, r3, r4⟩
/-- the yearly weight of a flow -/
def kgF (I : Nat → Nat → Int32) (tl : Int32) (d f : Nat) : Nat := if tl = 0 then (I 111 f).toNatClampNeg else (52 * sd_ (I (113 + f)) (I 121) d / nI d).toNatClampNeg
theorem kg_C {I0 : Nat → Nat → Int32} {J0 : Nat → Nat → Int64} {n d f : Nat} {tl : Int32} (h : RR I0 J0) (n1 : I0 106 0 = nI n) (hn : n ≤ 8) (d1 : I0 106 7 = nI d) (hd : d ≤ 52) (td : tl = 0 ∨ 1 ≤ d) (hf : f < n) : kgF I0 tl d f ≤ 520000 ∧ (∀ {I : Nat → Nat → Int32} {J : Nat → Nat → Int64} {T : Option Nat} {P : Int32 → (Nat → Nat → Int32) → (Nat → Nat → Int64) → Option Nat → Prop}, fr_off [(0, 1, 0, 1), (204, 205, 0, 1), (95, 96, 0, 2147483648), (97, 98, 2, 10), (104, 106, 0, 2147483648), (204, 205, 58, 64), (243, 246, 0, 2147483648)] I0 I → P (nI (kgF I0 tl d f)) I J T → (tl = 0 → wp_X4_trueWeight (nI f) I J T P) ∧ (¬ tl = 0 → wp_X4_toldWeight (nI f) I J T P)) ∧ (∀ {I : Nat → Nat → Int32} {J : Nat → Nat → Int64} {T : Option Nat} {P : Int32 → (Nat → Nat → Int32) → (Nat → Nat → Int64) → Option Nat → Prop}, fr_off [(0, 1, 0, 1), (204, 205, 0, 1), (95, 96, 0, 2147483648), (97, 98, 2, 10), (104, 106, 0, 2147483648), (204, 205, 58, 64), (243, 246, 0, 2147483648), (124, 125, 0, 1), (204, 205, 80, 81)] I0 I → P (nI (kgF I0 tl d f)) I J T → (tl = 0 → wp_X12_trueOf (nI f) I J T P) ∧ (¬ tl = 0 → wp_X12_toldOf (nI f) I J T P)) := by
  obtain ⟨n', hn', n1', n2, hc⟩ := h.flow
  have : n' = n := (nI_eq (by omega) (by omega)).mp (n1'.symm.trans n1)
  subst this
  obtain ⟨d', hd', d1', d2, dc⟩ := h.draw
  have : d' = d := (nI_eq (by omega) (by omega)).mp (d1'.symm.trans d1)
  subst this
  obtain ⟨-, -, -, -, -, q1, q2⟩ := hc f hf
  have f5 : (nI f).toNatClampNeg = f := nI_clamp (by omega)
  have kq : ∀ i, i < 52 → I0 (113 + f) i = nI (kN_ I0 f i) ∧ kN_ I0 f i ≤ 10000 ∧ I0 251 (52 * f + i) = nI (kN_ I0 f i) := fun i hi => by
    obtain ⟨e, z, hz, ez⟩ := q1 i hi
    rw [bI_lt (show f < 8 by omega)] at e ez
    have ek : kN_ I0 f i = z := by unfold kN_; rw [ez]; exact nI_clamp (by omega)
    rw [ek]
    exact ⟨ez, hz, e.symm.trans ez⟩
  have es : sm_w (I0 (113 + f)) 52 = nI (sN_ (kN_ I0 f) 52) := sN_sm (fun i hi => (kq i hi).1)
  have es2 : sm_w (fun w => I0 251 (52 * f + w)) 52 = nI (sN_ (kN_ I0 f) 52) := sN_sm (fun i hi => (kq i hi).2.2)
  have eb : sN_ (kN_ I0 f) 52 ≤ 10000 * 52 := sN_le (fun i hi => (kq i hi).2.1)
  have q2 : I0 111 f = nI (sN_ (kN_ I0 f) 52) := by
    rw [q2, ← es]
    exact sm_congr (fun i hi => by rw [bI_lt (show f < 8 by omega)])
  by_cases c : tl = 0
  · have ek : kgF I0 tl d' f = sN_ (kN_ I0 f) 52 := by
      unfold kgF
      rw [if_pos c, q2]
      exact nI_clamp (by omega)
    rw [ek]
    refine ⟨by omega, fun {I J T P} o hP => ⟨fun _ => ?_, fun z => absurd c z⟩, fun {I J T P} o hP => ⟨fun _ => ?_, fun z => absurd c z⟩⟩
    · unfold wp_X4_trueWeight
      rw [f5, fr_rw1 o 111 rfl, q2]
      exact ⟨nI_in2 (by omega) (by decide), hP⟩
    · unfold wp_X12_trueOf
      refine lp_trueM (by omega) ?_
      rw [fr_rw1 o 251 rfl, es2]
      exact hP
  · have d0 : 1 ≤ d' := td.resolve_left c
    have qg : ∀ i, i < d' → I0 121 i = I0 252 i ∧ I0 (113 + f) (I0 121 i).toNatClampNeg = I0 251 (52 * f + (I0 121 i).toNatClampNeg) ∧ ∃ z : Nat, z ≤ 10000 ∧ I0 (113 + f) (I0 121 i).toNatClampNeg = nI z := fun i hi => by
      obtain ⟨e1, w, hw, e2⟩ := dc i hi
      have w5 : (nI w).toNatClampNeg = w := nI_clamp (by omega)
      have := kq w hw
      rw [e2, w5]
      exact ⟨e2.symm.trans e1, this.1.trans this.2.2.symm, _, this.2.1, this.1⟩
    have e : sd_ (I0 (113 + f)) (I0 121) d' = sd_ (fun w => I0 251 (52 * f + w)) (I0 252) d' := sd_congr (fun i hi => ⟨(qg i hi).1, (qg i hi).2.1⟩)
    obtain ⟨S, hS, eS⟩ := sd_bd (g := I0 (113 + f)) (d := I0 121) (fun i hi => (qg i hi).2.2)
    have ev : 52 * sd_ (I0 (113 + f)) (I0 121) d' / nI d' = nI (52 * S / d') := by
      rw [eS, show (52 : Int32) = nI 52 from rfl, nI_mul, nI_div (by omega) (by omega) (by omega)]
    have hv : 52 * S / d' ≤ 520000 := Nat.div_le_of_le_mul (by omega)
    have ek : kgF I0 tl d' f = 52 * S / d' := by
      unfold kgF
      rw [if_neg c, ev]
      exact nI_clamp (by omega)
    rw [ek]
    refine ⟨hv, fun {I J T P} o hP => ⟨fun z => absurd z c, fun _ => ?_⟩, fun {I J T P} o hP => ⟨fun z => absurd z c, fun _ => ?_⟩⟩
    · unfold wp_X4_toldWeight wp_X4_toldBy_r121
      rw [fr_at 106 7 o rfl, d1']
      refine lp_told121 (by omega) d0 hd' (fun i hi => by rw [fr_rw1 o 121 rfl]; exact (dc i hi).2) ?_
      rw [fr_row o (a := 113) (b := 121) rfl (show 113 ≤ 113 + f by omega) (by omega), fr_rw1 o 121 rfl, ev]
      exact hP
    · unfold wp_X12_toldOf
      refine lp_toldM (by omega) d0 hd' (by rw [fr_at 204 66 o rfl]; exact d2) (fun i hi => by
        obtain ⟨e1, w, hw, e2⟩ := dc i hi
        rw [fr_rw1 o 252 rfl]
        exact ⟨w, hw, e1.symm.trans e2⟩) ?_
      rw [fr_rw1 o 252 rfl, fr_rw1 o 251 rfl, ← e, ev]
      exact hP
