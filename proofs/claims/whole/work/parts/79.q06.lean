theorem rk_jow {I I2 : Nat → Nat → Int32} {J : Nat → Nat → Int64} {J2 : Nat → Nat → Int64} (h : RR I J) (o : fr_off [] I I2) (oj : fr_off [(241, 243, 0, 2147483648)] J J2)  : RR I2 J2 := ⟨fr_stat o rfl h.stat, fr_frac oj rfl h.frac, fr_tray o oj rfl h.tray, fr_land o rfl h.land, fr_gold o rfl h.gold, fr_road o rfl h.road, fr_carr o rfl h.carr, fr_rate o rfl h.rate, fr_tape o rfl h.tape, fr_falt o rfl h.falt, fr_resv o rfl h.resv, fr_flow o rfl h.flow, fr_draw o rfl h.draw, fr_tell o rfl h.tell, fr_acct o oj rfl h.acct, fr_rule o rfl h.rule, fr_bags o rfl h.bags, fr_hand o rfl h.hand, fr_book o rfl h.book, fr_figs oj rfl h.figs, fr_case o rfl h.case, fr_wght o rfl h.wght, fr_trty o oj rfl h.trty⟩
theorem rk_mail {I I2 : Nat → Nat → Int32} {J : Nat → Nat → Int64} {J2 : Nat → Nat → Int64} (h : RR I J) (o : fr_off [(0, 1, 0, 1), (204, 205, 0, 1), (95, 96, 0, 2147483648)] I I2) (oj : fr_off [(67, 68, 0, 2147483648), (76, 77, 0, 2147483648), (85, 86, 0, 2147483648), (94, 95, 0, 2147483648), (96, 97, 0, 2147483648), (241, 243, 0, 2147483648)] J J2) (p0 : RL_stat I2) : RR I2 J2 := ⟨p0, fr_frac oj rfl h.frac, fr_tray o oj rfl h.tray, fr_land o rfl h.land, fr_gold o rfl h.gold, fr_road o rfl h.road, fr_carr o rfl h.carr, fr_rate o rfl h.rate, fr_tape o rfl h.tape, fr_falt o rfl h.falt, fr_resv o rfl h.resv, fr_flow o rfl h.flow, fr_draw o rfl h.draw, fr_tell o rfl h.tell, fr_acct o oj rfl h.acct, fr_rule o rfl h.rule, fr_bags o rfl h.bags, fr_hand o rfl h.hand, fr_book o rfl h.book, fr_figs oj rfl h.figs, fr_case o rfl h.case, fr_wght o rfl h.wght, fr_trty o oj rfl h.trty⟩
/-! mail: what it is, on both sides -/
def vm_ (size : Int32) (w p : Int64) (year th via : Int32) : Nat → Int64 := fun k => if k = 0 then w else if k = 1 then p else if k = 2 then size.toInt64 else if k = 3 then w / p else if k = 4 then year.toInt64 else if k = 5 then th.toInt64 else via.toInt64
def ml_ (I : Nat → Nat → Int32) (J : Nat → Nat → Int64) (a b size : Int32) (w p : Int64) (day th via : Int32) : Prop := I 95 0 = a ∧ I 95 1 = b ∧ I 95 2 = via ∧ I 95 3 = day ∧ ∀ k, k < 7 → J 96 k = vm_ size w p (day / 365) th via k
def mk_ (n : Nat) (a b s w p d : Int32) : Prop := (0 ≤ a.toInt ∧ a.toInt < n ∧ 0 ≤ b.toInt ∧ b.toInt < n ∧ ¬ a = b) ∧ (0 ≤ s.toInt ∧ s.toInt ≤ 3) ∧ (1 ≤ w.toInt ∧ w.toInt ≤ 1000000000) ∧ (1 ≤ p.toInt ∧ p.toInt ≤ 1000000) ∧ 0 ≤ d.toInt ∧ d.toInt ≤ 9999
theorem l7_ {f g : Nat → Int64} (e0 : f 0 = g 0) (e1 : f 1 = g 1) (e2 : f 2 = g 2) (e3 : f 3 = g 3) (e4 : f 4 = g 4) (e5 : f 5 = g 5) (e6 : f 6 = g 6) : ∀ k, k < 7 → f k = g k
  | 0, _ => e0
  | 1, _ => e1
  | 2, _ => e2
  | 3, _ => e3
  | 4, _ => e4
  | 5, _ => e5
  | 6, _ => e6
  | _ + 7, h => by omega
theorem fn_gov {a b size day th via th2 via2 : Int32} {w p : Int64} {I : Nat → Nat → Int32} {J : Nat → Nat → Int64} {T : Option Nat} {P : (Nat → Nat → Int32) → (Nat → Nat → Int64) → Option Nat → Prop} (h : ml_ I J a b size w p day th via) (hP : ∀ I2 J2, fr_off [(95, 96, 2, 3)] I I2 → fr_off [(96, 97, 0, 2147483648)] J J2 → ml_ I2 J2 a b size w p day th2 via2 → P I2 J2 T) : wp_X6_goOver th2 via2 I J T P := by
  obtain ⟨h1, h2, h3, h4, h5⟩ := h
  unfold wp_X6_goOver
  rw [show ((5 : Int32)).toNatClampNeg = 5 from rfl, show ((6 : Int32)).toNatClampNeg = 6 from rfl]
  have g : ∀ k, k < 5 → ix_u2 (ix_u2 J 96 5 th2.toInt64) 96 6 via2.toInt64 96 k = J 96 k := fun k hk => by rw [u2_j (by omega), u2_j (by omega)]
  refine hP _ _ (fr_put rfl fr_refl) (fr_put rfl (fr_put rfl fr_refl)) ⟨by rw [u2_j (by decide)]; exact h1, by rw [u2_j (by decide)]; exact h2, u2_s, by rw [u2_j (by decide)]; exact h4, ?_⟩
  refine l7_ ?_ ?_ ?_ ?_ ?_ ?_ ?_
  · rw [g 0 (by omega), h5 0 (by omega)]; simp [vm_]
  · rw [g 1 (by omega), h5 1 (by omega)]; simp [vm_]
  · rw [g 2 (by omega), h5 2 (by omega)]; simp [vm_]
  · rw [g 3 (by omega), h5 3 (by omega)]; simp [vm_]
  · rw [g 4 (by omega), h5 4 (by omega)]; simp [vm_]
  · simp [u2_e, vm_]
  · simp [u2_e, vm_]
theorem dv_64 {w p : Int32} (hw : 1 ≤ w.toInt) (hp : 1 ≤ p.toInt) : (w / p).toInt64 = w.toInt64 / p.toInt64 := by
  have w2 := w.toInt_lt
  have p2 := p.toInt_lt
  have b := tdiv_bd (a := w.toInt) (b := p.toInt) (m := 2147483647) (by omega) (by omega) (by omega)
  rw [iZ_of w, iZ_of p, iZ_div (by omega) (by omega), iZ_64 (by omega), iZ_64 (by omega), iZ_64 (by omega), lZ_div (by omega) (by omega)]
theorem fn_bec {n : Nat} {a b size w p day : Int32} {I : Nat → Nat → Int32} {J : Nat → Nat → Int64} {T : Option Nat} {P : (Nat → Nat → Int32) → (Nat → Nat → Int64) → Option Nat → Prop} (h : mk_ n a b size w p day) (hP : ∀ I2 J2, fr_off [(95, 96, 0, 2147483648)] I I2 → fr_off [(96, 97, 0, 2147483648)] J J2 → ml_ I2 J2 a b size w.toInt64 p.toInt64 day 0 (-1) → P I2 J2 T) : wp_X6_become a b size w p day I J T P := by
  obtain ⟨-, -, hw, hp, -⟩ := h
  unfold wp_X6_become
  have np : ¬ p ≤ 0 := fun z => by
    have z := Int32.le_iff_toInt_le.mp z
    have z : p.toInt ≤ 0 := z
    omega
  have nz : ix_nz p = true := by
    unfold ix_nz
    have : ¬ p = 0 := fun z => by rw [z] at hp; exact absurd hp.1 (by decide)
    simp [this]
  refine ⟨fun z => absurd z np, fun _ => ⟨nz, ?_⟩⟩
  unfold wp_X6_goOver
  rw [show ((0 : Int32)).toNatClampNeg = 0 from rfl, show ((1 : Int32)).toNatClampNeg = 1 from rfl, show ((2 : Int32)).toNatClampNeg = 2 from rfl, show ((3 : Int32)).toNatClampNeg = 3 from rfl, show ((4 : Int32)).toNatClampNeg = 4 from rfl, show ((5 : Int32)).toNatClampNeg = 5 from rfl, show ((6 : Int32)).toNatClampNeg = 6 from rfl]
  refine hP _ _ (fr_put rfl (fr_put rfl (fr_put rfl (fr_put rfl fr_refl)))) (fr_put rfl (fr_put rfl (fr_put rfl (fr_put rfl (fr_put rfl (fr_put rfl (fr_put rfl fr_refl))))))) ⟨by simp [u2_e], by simp [u2_e], by simp [u2_e], by simp [u2_e], ?_⟩
  refine l7_ ?_ ?_ ?_ ?_ ?_ ?_ ?_ <;> simp [u2_e, vm_, dv_64 hw.1 hp.1]
theorem fn_chM {a b size day th via a0 : Int32} {w p : Int64} {I : Nat → Nat → Int32} {J : Nat → Nat → Int64} {T : Option Nat} {P : Int64 → (Nat → Nat → Int32) → (Nat → Nat → Int64) → Option Nat → Prop} (h : tw_ I J) (m : ml_ I J a b size w p day th via) (hP : ∀ J2, fr_off [(67, 68, 0, 2147483648), (76, 77, 0, 2147483648), (85, 86, 0, 2147483648), (94, 95, 0, 2147483648)] J J2 → P (ow_ (bI I 51 44) (vm_ size w p (day / 365) th via) a0 a b (if a0 = 0 then b else via) day) I J2 T) : wp_X8_charge a0 I J T P := by
  obtain ⟨m1, m2, m3, m4, m5⟩ := m
  subst m1 m2 m3 m4
  exact fn_ch (rC_of h _) m5 hP
theorem fn_cfM {a b size day th via a0 : Int32} {w p : Int64} {I : Nat → Nat → Int32} {J : Nat → Nat → Int64} {T : Option Nat} {P : Int32 → (Nat → Nat → Int32) → (Nat → Nat → Int64) → Option Nat → Prop} (h : tw_ I J) (m : ml_ I J a b size w p day th via) (hP : ∀ J2, fr_off [(67, 68, 0, 2147483648), (76, 77, 0, 2147483648), (85, 86, 0, 2147483648), (94, 95, 0, 2147483648)] J J2 → P (fv_ (cr_ (bI I 51 44) (vm_ size w p (day / 365) th via) a0 a b (if a0 = 0 then b else via) day)) I J2 T) : wp_X8_clauseFor a0 I J T P := by
  obtain ⟨m1, m2, m3, m4, m5⟩ := m
  subst m1 m2 m3 m4
  exact fn_cf (rC_of h _) m5 hP
theorem fn_ask {size year th via : Int32} {w p : Int64} {I : Nat → Nat → Int32} {J : Nat → Nat → Int64} {T : Option Nat} {P : (Nat → Nat → Int32) → (Nat → Nat → Int64) → Option Nat → Prop} (hp : ix_nzl p = true) (hP : ∀ J2, fr_off [(241, 242, 0, 2147483648)] J J2 → (∀ k, k < 7 → J2 241 k = vm_ size w p year th via k) → P I J2 T) : wp_X12_asks size w p year th via I J T P := by
  unfold wp_X12_asks
  rw [show ((0 : Int32)).toNatClampNeg = 0 from rfl, show ((1 : Int32)).toNatClampNeg = 1 from rfl, show ((2 : Int32)).toNatClampNeg = 2 from rfl, show ((3 : Int32)).toNatClampNeg = 3 from rfl, show ((4 : Int32)).toNatClampNeg = 4 from rfl, show ((5 : Int32)).toNatClampNeg = 5 from rfl, show ((6 : Int32)).toNatClampNeg = 6 from rfl]
  refine ⟨hp, hP _ (fr_put rfl (fr_put rfl (fr_put rfl (fr_put rfl (fr_put rfl (fr_put rfl (fr_put rfl fr_refl))))))) ?_⟩
  refine l7_ ?_ ?_ ?_ ?_ ?_ ?_ ?_ <;> simp [u2_e, vm_]
theorem tw_j {I : Nat → Nat → Int32} {J J2 : Nat → Nat → Int64} (h : tw_ I J) (o : J2 233 = J 233) : tw_ I J2 := by
  refine ⟨?_, h.2⟩
  unfold RL_trty
  rw [o]
  exact h.1
theorem fn_ow {a b size day th via x1 c : Int32} {w p : Int64} {I : Nat → Nat → Int32} {J : Nat → Nat → Int64} {T : Option Nat} {P : Int64 → (Nat → Nat → Int32) → (Nat → Nat → Int64) → Option Nat → Prop} (h : tw_ I J) (hp : ix_nzl p = true) (hx : (via = -1 ∧ x1 = 0 ∧ c = b) ∨ (¬ via = -1 ∧ x1 = 1 ∧ c = via)) (hP : ∀ J2, fr_off [(241, 243, 0, 2147483648)] J J2 → P (ow_ (bI I 51 44) (vm_ size w p (day / 365) th via) x1 a b c day) I J2 T) : wp_X12_owed a b size w p day th via I J T P := by
  unfold wp_X12_owed
  refine fn_ask hp (fun J1 o1 v1 => ?_)
  have h1 : tw_ I J1 := tw_j h (fr_rw1 o1 233 rfl)
  refine fn_co h1 hx v1 (fun J2 o2 => ?_)
  have oo : fr_off [(241, 243, 0, 2147483648)] J J2 := fr_trans (fr_mono (by decide) o1) (fr_mono (by decide) o2)
  have h2 : tw_ I J2 := tw_j h1 (fr_rw1 o2 233 rfl)
  have v2 : ∀ k, k < 7 → J2 241 k = vm_ size w p (day / 365) th via k := by rw [fr_rw1 o2 241 rfl]; exact v1
  unfold ow_ at hP
  cases hc : cr_ (bI I 51 44) (vm_ size w p (day / 365) th via) x1 a b c day with
  | none =>
    rw [hc] at hP
    exact ⟨fun _ => hP J2 oo, fun z => absurd rfl z⟩
  | some q =>
    rw [hc] at hP
    have hP : ∀ J2, fr_off [(241, 243, 0, 2147483648)] J J2 → P (mx_ 0 (mn_ 1000000000000 (os_ (bI I 51 44) (vm_ size w p (day / 365) th via) (tj_ (bI I 51 44) day).toNatClampNeg q))) I J2 T := hP
    obtain ⟨n, S, O, hn, e1, e2, e3, hS, e4, hO, ht⟩ := h2.1
    have et : tj_ (bI I 51 44) day = (sc_f (I 53) (day / 365) n).1 := by
      have : tj_ (bI I 51 44) day = (sc_f (I 53) (day / 365) (I 51 0).toNatClampNeg).1 := rfl
      rw [this, e1, nI_clamp (show n < 2 ^ 31 by omega)]
    unfold cr_ at hc
    rw [et] at hc hP ⊢
    rcases sc_f_ok (Y := I 53) (y := day / 365) (n := n) with e | ⟨j, hjn, e⟩
    · rw [e, if_pos rfl] at hc
      cases hc
    · rw [e] at hP hc ⊢
      have nj : ¬ nI j = -1 := nI_nm1 (by omega)
      rw [if_neg nj, nI_clamp (show j < 2 ^ 31 by omega)] at hc
      rw [nI_clamp (show j < 2 ^ 31 by omega)] at hP ⊢
      obtain ⟨-, k, hk, k1, k2, hcc⟩ := ht j hjn
      have hq := (fi_lt hc).2
      rw [rXx (i := 8 + 9 * j) (j := 9 * j) (by omega) (by omega), k1, nI_clamp (show k < 2 ^ 31 by omega)] at hq
      obtain ⟨q1, q2, q3, q4, t, u, ee, oa, ob, sa, sb, y1, y2, y3, y4, y5, e5, e6, e7, e8, e9, e10, e11, y6, y7, y8⟩ := hcc q (by omega)
      have c60 : 12 * j + q < 60 := by omega
      have c5 : (nI (12 * j + q)).toNatClampNeg = 12 * j + q := nI_clamp (by omega)
      have ic : ix_inb (nI (12 * j + q)) 60 = true := nI_in2 c60 (by decide)
      have eo : os_ (bI I 51 44) (vm_ size w p (day / 365) th via) j q = sv_ (vm_ size w p (day / 365) th via) (tc_sig (I 232) (J2 233) sa (sb - sa)) := by
        unfold os_
        rw [rXx (i := 13 + 9 * j) (j := 9 * j + 5) (by omega) (by omega), rXx (i := 14 + 9 * j) (j := 9 * j + 6) (by omega) (by omega), rXx (i := 15 + 9 * j) (j := 9 * j + 7) (by omega) (by omega), tn_of e6 (by omega), tn_of e7 (by omega), y7]
      refine ⟨fun z => absurd z (nI_nm1 (by omega)), fun _ => ⟨ic, ic, ?_⟩⟩
      show wp_X12_work (I 222 (nI (12 * j + q)).toNatClampNeg) (I 223 (nI (12 * j + q)).toNatClampNeg) I J2 T _
      rw [c5]
      refine fn_wk (V := vm_ size w p (day / 365) th via) (S := S) (a := sa) (b := sb) e10 e11 (by omega) y6 v2 (fun J3 o3 => ?_)
      rw [← eo]
      exact fn_mn (fn_mx (hP J3 (fr_trans oo (fr_mono (by decide) o3))))
