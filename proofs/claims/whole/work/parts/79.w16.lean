theorem rk_ways {I I2 : Nat → Nat → Int32} {J : Nat → Nat → Int64} {J2 : Nat → Nat → Int64} (h : RR I J) (o : fr_off [(0, 1, 0, 1), (204, 205, 0, 1), (95, 96, 0, 2147483648), (97, 98, 2, 10), (104, 106, 0, 2147483648), (204, 205, 58, 64), (243, 246, 0, 2147483648)] I I2) (oj : fr_off [(67, 68, 0, 2147483648), (76, 77, 0, 2147483648), (85, 86, 0, 2147483648), (94, 95, 0, 2147483648), (96, 97, 0, 2147483648), (97, 98, 3, 4), (97, 98, 10, 12), (98, 99, 0, 2147483648), (100, 104, 0, 2147483648), (204, 205, 60, 63), (241, 243, 0, 2147483648), (134, 141, 0, 2147483648), (256, 257, 0, 2147483648)] J J2) (p0 : RL_stat I2) : RR I2 J2 := ⟨p0, fr_frac oj rfl h.frac, fr_tray o oj rfl h.tray, fr_land o rfl h.land, fr_gold o rfl h.gold, fr_road o rfl h.road, fr_carr o rfl h.carr, fr_rate o rfl h.rate, fr_tape o rfl h.tape, fr_falt o rfl h.falt, fr_resv o rfl h.resv, fr_flow o rfl h.flow, fr_draw o rfl h.draw, fr_tell o rfl h.tell, fr_acct o oj rfl h.acct, fr_rule o rfl h.rule, fr_bags o rfl h.bags, fr_hand o rfl h.hand, fr_book o rfl h.book, fr_figs oj rfl h.figs, fr_case o rfl h.case, fr_wght o rfl h.wght, fr_trty o oj rfl h.trty⟩
/-! ways: price and way -/
def rdI (I : Nat → Nat → Int32) (a b : Nat) : Nat := tn_ (I (13 + a)) b
def FI_ (I : Nat → Nat → Int32) (w : Int64) (a b : Nat) : Int64 := w * (I (21 + a) b).toInt64 / 1000
theorem RR.rds {I : Nat → Nat → Int32} {J : Nat → Nat → Int64} (h : RR I J) (w : Int64) {a b : Nat} (ha : a < 7) (hb : b < 7) : rdI I a b ≤ 60 ∧ I (13 + a) b = nI (rdI I a b) ∧ I 211 (7 * a + b) = nI (rdI I a b) ∧ (0 < rdI I a b → FI_ I w a b = w * (I 212 (7 * a + b)).toInt64 / 1000) := by
  obtain ⟨d, f, h1, h2, h3, h4, h5, h6, h7, h8⟩ := h.road a b ha hb
  rw [bI_lt ha] at h3 h6
  have e : rdI I a b = d := tn_of h3 (by omega)
  rw [e]
  refine ⟨h1, h3, h5, fun z => ?_⟩
  unfold FI_
  rw [h6, (h8 z).1]
theorem md_K {I I3 : Nat → Nat → Int32} {J J3 : Nat → Nat → Int64} {L fr to : Nat} {w p : Int64} (h : RR I J) (hl : L ≤ 7 ∧ fr < L ∧ to < L ∧ fr ≠ to) (hp : ix_nzl p = true) (n2 : I 204 6 = nI L) (o3 : fr_off [(0, 1, 0, 1), (204, 205, 0, 1), (95, 96, 0, 2147483648), (97, 98, 2, 10), (104, 106, 0, 2147483648), (204, 205, 58, 64), (243, 246, 0, 2147483648)] I I3) (oj3 : fr_off [(67, 68, 0, 2147483648), (76, 77, 0, 2147483648), (85, 86, 0, 2147483648), (94, 95, 0, 2147483648), (96, 97, 0, 2147483648), (97, 98, 3, 4), (97, 98, 10, 12), (98, 99, 0, 2147483648), (100, 104, 0, 2147483648), (204, 205, 60, 63), (241, 243, 0, 2147483648), (134, 141, 0, 2147483648), (256, 257, 0, 2147483648)] J J3) : wmK (bI I 51 44) L fr to w p (rdI I) (FI_ I w) I3 J3 := by
  refine ⟨hl, h.tw o3 oj3 rfl rfl, fr_bI o3 51 44 rfl, hp, by rw [fr_at 204 6 o3 rfl]; exact n2, fun a b ha hb => ?_⟩
  obtain ⟨r1, r2, r3, r4⟩ := h.rds w ha hb
  rw [fr_rw1 o3 211 rfl, fr_rw1 o3 212 rfl]
  exact ⟨r1, r3, r4⟩
theorem md_fd {L fr to : Nat} {s d : Int32} {w p : Int64} {R : Option (Nat × (Nat → Nat))} {I0 : Nat → Nat → Int32} {J0 : Nat → Nat → Int64} (h : RR I0 J0) (hl : L ≤ 7 ∧ fr < L ∧ to < L ∧ fr ≠ to) (hp : ix_nzl p = true) (n2 : I0 204 6 = nI L) {I : Nat → Nat → Int32} {J : Nat → Nat → Int64} {T : Option Nat} {P : Int32 → (Nat → Nat → Int32) → (Nat → Nat → Int64) → Option Nat → Prop} (o3 : fr_off [(0, 1, 0, 1), (204, 205, 0, 1), (95, 96, 0, 2147483648), (97, 98, 2, 10), (104, 106, 0, 2147483648), (204, 205, 58, 64), (243, 246, 0, 2147483648)] I0 I) (oj3 : fr_off [(67, 68, 0, 2147483648), (76, 77, 0, 2147483648), (85, 86, 0, 2147483648), (94, 95, 0, 2147483648), (96, 97, 0, 2147483648), (97, 98, 3, 4), (97, 98, 10, 12), (98, 99, 0, 2147483648), (100, 104, 0, 2147483648), (204, 205, 60, 63), (241, 243, 0, 2147483648), (134, 141, 0, 2147483648), (256, 257, 0, 2147483648)] J0 J) (b : wzB L fr to (rdI I0) (FI_ I0 w) (duX (bI I0 51 44) s w p d fr to) (thX (bI I0 51 44) s w p d fr to) (fun _ _ => True) R) (hP : ∀ I4 J4 R4, fr_off [(204, 205, 58, 60), (243, 245, 0, 2147483648)] I I4 → fr_off [(204, 205, 60, 61), (241, 243, 0, 2147483648)] J J4 → ((R = none ∧ R4 = none) ∨ ∃ n w v, R = some (n, w) ∧ R4 = some (n, v) ∧ wzV L fr to (rdI I0) n w ∧ ∀ k, k < n → w k = v k) → wzQ L fr to (rdI I0) (FI_ I0 w) (duX (bI I0 51 44) s w p d fr to) (thX (bI I0 51 44) s w p d fr to) I4 J4 R4 → P (s01_ R4.isSome) I4 J4 T) : wp_X12_finds (nI fr) (nI to) s w p d I J T P := by
  refine fn_fd (md_K h hl hp n2 o3 oj3) (fun I4 J4 R4 o4 oj4 b4 r4 => ?_)
  exact hP I4 J4 R4 o4 oj4 (wzB_one hl.1 b b4) r4
theorem md_fb {L fr to : Nat} {s d t0 u0 : Int32} {w p : Int64} {I0 : Nat → Nat → Int32} {J0 : Nat → Nat → Int64} (h : RR I0 J0) (hl : L ≤ 7 ∧ fr < L ∧ to < L ∧ fr ≠ to) (n1 : I0 8 0 = nI L) {I : Nat → Nat → Int32} {J : Nat → Nat → Int64} {T : Option Nat} {P : Int32 → (Nat → Nat → Int32) → (Nat → Nat → Int64) → Option Nat → Prop} (o3 : fr_off [(0, 1, 0, 1), (204, 205, 0, 1), (95, 96, 0, 2147483648), (97, 98, 2, 10), (104, 106, 0, 2147483648), (204, 205, 58, 64), (243, 246, 0, 2147483648)] I0 I) (oj3 : fr_off [(67, 68, 0, 2147483648), (76, 77, 0, 2147483648), (85, 86, 0, 2147483648), (94, 95, 0, 2147483648), (96, 97, 0, 2147483648), (97, 98, 3, 4), (97, 98, 10, 12), (98, 99, 0, 2147483648), (100, 104, 0, 2147483648), (204, 205, 60, 63), (241, 243, 0, 2147483648), (134, 141, 0, 2147483648), (256, 257, 0, 2147483648)] J0 J) (m0 : ml_ I J (nI fr) (nI to) s w p d t0 u0) (hP : ∀ I2 J2 R, fr_off [(95, 96, 2, 3), (97, 98, 2, 10), (104, 106, 0, 2147483648)] I I2 → fr_off [(67, 68, 0, 2147483648), (76, 77, 0, 2147483648), (85, 86, 0, 2147483648), (94, 95, 0, 2147483648), (96, 97, 0, 2147483648), (97, 98, 3, 4), (97, 98, 10, 11), (98, 99, 0, 2147483648), (100, 104, 0, 2147483648)] J J2 → (∃ t u, ml_ I2 J2 (nI fr) (nI to) s w p d t u) → wzB L fr to (rdI I0) (FI_ I0 w) (duX (bI I0 51 44) s w p d fr to) (thX (bI I0 51 44) s w p d fr to) (fun _ _ => True) R → wzR (rdI I0) (FI_ I0 w) (duX (bI I0 51 44) s w p d fr to) (thX (bI I0 51 44) s w p d fr to) I2 J2 R → wzK L fr to (rdI I0) (FI_ I0 w) (duX (bI I0 51 44) s w p d fr to) (thX (bI I0 51 44) s w p d fr to) w I2 J2 → P (s01_ R.isSome) I2 J2 T) : wp_X10_findBest I J T P := by
  refine fn_fb hl.1 hl.2.1 hl.2.2.1 hl.2.2.2 (h.tw o3 oj3 rfl rfl) (fr_bI o3 51 44 rfl) (by rw [fr_at 8 0 o3 rfl]; exact n1) (fun a b ha hb => ?_) m0 hP
  obtain ⟨r1, r2, -, -⟩ := h.rds w ha hb
  rw [fr_row o3 (a := 13) (b := 20) rfl (show 13 ≤ 13 + a by omega) (by omega), fr_row o3 (a := 21) (b := 28) rfl (show 21 ≤ 21 + a by omega) (by omega)]
  exact ⟨r1, r2, rfl⟩
theorem mk_l {n : Nat} {a b s g p d : Int32} (hn : n ≤ 7) (q : mk_ n a b s g p d) : ∃ i j : Nat, a = nI i ∧ b = nI j ∧ n ≤ 7 ∧ i < n ∧ j < n ∧ i ≠ j := by
  obtain ⟨⟨q1, q2, q3, q4, q5⟩, -⟩ := q
  obtain ⟨i, hi, rfl⟩ := ii_at q1 q2 (by omega)
  obtain ⟨j, hj, rfl⟩ := ii_at q3 q4 (by omega)
  exact ⟨i, j, rfl, rfl, hn, hi, hj, fun e => q5 (by rw [e])⟩
theorem rp_price (a : Int32) (b : Int32) (s : Int32) (g : Int32) (p : Int32) (d : Int32) {I : Nat → Nat → Int32} {J : Nat → Nat → Int64} {T : Option Nat} {P : Int64 → Int64 → (Nat → Nat → Int32) → (Nat → Nat → Int64) → Option Nat → Prop} (h : RR I J) (hP : ∀ v I2 J2 T2, RR I2 J2 → P v v I2 J2 T2) : wp_X11_price a b s g p d I J T (fun v I1 J1 T1 => wp_X12_price a b s g p d I1 J1 T1 (fun w I2 J2 T2 => P v w I2 J2 T2)) := by
  obtain ⟨n, hn, n1, n2⟩ := h.land
  by_cases q : mk_ n a b s g p d
  · skip
    obtain ⟨i, j, rfl, rfl, hl⟩ := mk_l hn q
    have np := nzl_64 q.2.2.2.1.1
    unfold wp_X11_price
    refine fn_mailC hn n1 q ⟨fun z => absurd z (show ¬ (1 : Int32) = 0 by decide), fun _ => fn_bec q (fun I1 J1 o1 oj1 m1 => ?_)⟩
    refine md_fb h hl n1 (fr_mono (by decide) o1) (fr_mono (by decide) oj1) m1 (fun I2 J2 R o2 oj2 _ b2 r2 _ => ?_)
    have o3 : fr_off [(0, 1, 0, 1), (204, 205, 0, 1), (95, 96, 0, 2147483648), (97, 98, 2, 10), (104, 106, 0, 2147483648), (204, 205, 58, 64), (243, 246, 0, 2147483648)] I I2 := fr_trans (fr_mono (by decide) o1) (fr_mono (by decide) o2)
    have oj3 : fr_off [(67, 68, 0, 2147483648), (76, 77, 0, 2147483648), (85, 86, 0, 2147483648), (94, 95, 0, 2147483648), (96, 97, 0, 2147483648), (97, 98, 3, 4), (97, 98, 10, 12), (98, 99, 0, 2147483648), (100, 104, 0, 2147483648), (204, 205, 60, 63), (241, 243, 0, 2147483648), (134, 141, 0, 2147483648), (256, 257, 0, 2147483648)] J J2 := fr_trans (fr_mono (by decide) oj1) (fr_mono (by decide) oj2)
    have fin : ∀ (c : Int32) (v : Int64), (c = 6 ∧ R = none ∧ v = -1) ∨ (c = 0 ∧ ∃ r, R = some r ∧ v = wzP (FI_ I g.toInt64) (duX (bI I 51 44) s g.toInt64 p.toInt64 d i j) (thX (bI I 51 44) s g.toInt64 p.toInt64 d i j) r.1 r.2) → wp_X12_price (nI i) (nI j) s g p d (ix_u2 I2 0 0 c) J2 T (fun w I2 J2 T2 => P v w I2 J2 T2) := fun c v hc => by
      have o4 : fr_off [(0, 1, 0, 1), (204, 205, 0, 1), (95, 96, 0, 2147483648), (97, 98, 2, 10), (104, 106, 0, 2147483648), (204, 205, 58, 64), (243, 246, 0, 2147483648)] I (ix_u2 I2 0 0 c) := fr_put rfl o3
      unfold wp_X12_price
      refine fn_mailM hn (by rw [fr_at 204 6 o4 rfl]; exact n2) q ⟨fun z => absurd z (show ¬ (1 : Int32) = 0 by decide), fun _ => ?_⟩
      refine md_fd h hl np n2 o4 oj3 b2 (fun I5 J5 R5 o5 oj5 e5 r5 => ?_)
      have o6 : ∀ x, fr_off [(0, 1, 0, 1), (204, 205, 0, 1), (95, 96, 0, 2147483648), (97, 98, 2, 10), (104, 106, 0, 2147483648), (204, 205, 58, 64), (243, 246, 0, 2147483648)] I (ix_u2 I5 204 0 x) := fun x => fr_put rfl (fr_trans o4 (fr_mono (by decide) o5))
      have oj6 : fr_off [(67, 68, 0, 2147483648), (76, 77, 0, 2147483648), (85, 86, 0, 2147483648), (94, 95, 0, 2147483648), (96, 97, 0, 2147483648), (97, 98, 3, 4), (97, 98, 10, 12), (98, 99, 0, 2147483648), (100, 104, 0, 2147483648), (204, 205, 60, 63), (241, 243, 0, 2147483648), (134, 141, 0, 2147483648), (256, 257, 0, 2147483648)] J J5 := fr_trans oj3 (fr_mono (by decide) oj5)
      have c0 : I5 0 0 = c := by rw [fr_at 0 0 o5 rfl]; exact u2_s
      rcases e5 with ⟨e1, e2⟩ | ⟨m, u, u2, e1, e2, ev, e3⟩
      · subst e2
        rcases hc with ⟨hc, -, hv⟩ | ⟨-, r, hr, -⟩
        · subst hc hv
          refine ⟨fun _ => hP _ _ _ _ (rk_ways h (o6 6) oj6 ?_), fun z => absurd rfl z⟩
          show ix_u2 I5 204 0 6 0 0 = ix_u2 I5 204 0 6 204 0
          rw [u2_c (by decide), u2_s, c0]
        · rw [e1] at hr; cases hr
      · subst e2
        rcases hc with ⟨-, hr, -⟩ | ⟨hc, r, hr, hv⟩
        · rw [e1] at hr; cases hr
        · rw [e1] at hr
          cases hr
          refine ⟨fun z => absurd z (show ¬ (1 : Int32) = 0 by decide), fun _ => ?_⟩
          unfold wp_X12_givesLong
          rw [r5.2.2.1]
          have e4 : v = wzP (FI_ I g.toInt64) (duX (bI I 51 44) s g.toInt64 p.toInt64 d i j) (thX (bI I 51 44) s g.toInt64 p.toInt64 d i j) m u2 := by rw [hv]; exact wzP_congr e3
          rw [← e4]
          refine hP _ _ _ _ (rk_ways h (o6 0) oj6 ?_)
          show ix_u2 I5 204 0 0 0 0 = ix_u2 I5 204 0 0 204 0
          rw [u2_c (by decide), u2_s, c0, hc]
    match R, r2, fin with
    | none, r2, fin => exact ⟨fun _ => fin 6 (-1) (Or.inl ⟨rfl, rfl, rfl⟩), fun z => absurd rfl z⟩
    | some r, r2, fin =>
      refine ⟨fun z => absurd z (show ¬ (1 : Int32) = 0 by decide), fun _ => ?_⟩
      unfold wp_X10_bestPrice
      rw [r2.2.2.1]
      exact fin 0 _ (Or.inr ⟨rfl, r, rfl, rfl⟩)
  · skip
    unfold wp_X11_price
    refine fn_mailC0 hn n1 q ⟨fun _ => ?_, fun z => absurd rfl z⟩
    unfold wp_X12_price wp_X11_refuse
    exact fn_mailM0 hn (by rw [u2_c (by decide)]; exact n2) q ⟨fun _ => hP _ _ _ _ (RR_st h 1), fun z => absurd rfl z⟩

theorem rp_way (a : Int32) (b : Int32) (s : Int32) (g : Int32) (p : Int32) (d : Int32) (t : Int32) {I : Nat → Nat → Int32} {J : Nat → Nat → Int64} {T : Option Nat} {P : Int32 → Int32 → (Nat → Nat → Int32) → (Nat → Nat → Int64) → Option Nat → Prop} (h : RR I J) (hP : ∀ v I2 J2 T2, RR I2 J2 → P v v I2 J2 T2) : wp_X11_way a b s g p d t I J T (fun v I1 J1 T1 => wp_X12_way a b s g p d t I1 J1 T1 (fun w I2 J2 T2 => P v w I2 J2 T2)) := by
  obtain ⟨n, hn, n1, n2⟩ := h.land
  by_cases q : mk_ n a b s g p d
  · skip
    have t1 : t < 0 ↔ t.toInt < 0 := Int32.lt_iff_toInt_lt
    have t3 : t ≤ 6 ↔ t.toInt ≤ 6 := Int32.le_iff_toInt_le
    by_cases r : 0 ≤ t.toInt ∧ t.toInt ≤ 6
    · obtain ⟨k, hk, rfl⟩ := ii_at (n := 7) r.1 (by omega) (by omega)
      obtain ⟨i, j, rfl, rfl, hl⟩ := mk_l hn q
      have np := nzl_64 q.2.2.2.1.1
      unfold wp_X11_way
      refine fn_mailC hn n1 q ⟨fun z => absurd z (show ¬ (1 : Int32) = 0 by decide), fun _ => fn_noutC (by show 0 ≤ (nI k).toInt; omega) (by show (nI k).toInt ≤ 6; omega) ⟨fun _ => fn_bec q (fun I1 J1 o1 oj1 m1 => ?_), fun z => absurd rfl z⟩⟩
      refine md_fb h hl n1 (fr_mono (by decide) o1) (fr_mono (by decide) oj1) m1 (fun I2 J2 R o2 oj2 _ b2 r2 _ => ?_)
      have o3 : fr_off [(0, 1, 0, 1), (204, 205, 0, 1), (95, 96, 0, 2147483648), (97, 98, 2, 10), (104, 106, 0, 2147483648), (204, 205, 58, 64), (243, 246, 0, 2147483648)] I I2 := fr_trans (fr_mono (by decide) o1) (fr_mono (by decide) o2)
      have oj3 : fr_off [(67, 68, 0, 2147483648), (76, 77, 0, 2147483648), (85, 86, 0, 2147483648), (94, 95, 0, 2147483648), (96, 97, 0, 2147483648), (97, 98, 3, 4), (97, 98, 10, 12), (98, 99, 0, 2147483648), (100, 104, 0, 2147483648), (204, 205, 60, 63), (241, 243, 0, 2147483648), (134, 141, 0, 2147483648), (256, 257, 0, 2147483648)] J J2 := fr_trans (fr_mono (by decide) oj1) (fr_mono (by decide) oj2)
      have k0 : nI k = 0 ↔ k = 0 := nI_eq (a := k) (b := 0) (by omega) (by omega)
      have k1 : nI k = 1 ↔ k = 1 := nI_eq (a := k) (b := 1) (by omega) (by omega)
      have km : (nI k - 2).toInt = (k : Int) - 2 := by rw [nI_iZ, show (2 : Int32) = iZ 2 from rfl, iZ_sub, iZ_toInt (by omega) (by omega)]
      have fin : ∀ (c v : Int32), ((c = 6 ∧ v = -1) ∧ (R = none ∨ ∃ x, R = some x ∧ x.1 + 2 ≤ k)) ∨ (c = 0 ∧ ∃ x, R = some x ∧ ((k = 0 ∧ v = nI x.1) ∨ (k = 1 ∧ v = nI (wzD (rdI I) x.1 x.2)) ∨ (2 ≤ k ∧ k - 2 < x.1 ∧ v = nI (x.2 (k - 2))))) → wp_X12_way (nI i) (nI j) s g p d (nI k) (ix_u2 I2 0 0 c) J2 T (fun w I2 J2 T2 => P v w I2 J2 T2) := fun c v hc => by
        have o4 : fr_off [(0, 1, 0, 1), (204, 205, 0, 1), (95, 96, 0, 2147483648), (97, 98, 2, 10), (104, 106, 0, 2147483648), (204, 205, 58, 64), (243, 246, 0, 2147483648)] I (ix_u2 I2 0 0 c) := fr_put rfl o3
        unfold wp_X12_way
        refine fn_mailM hn (by rw [fr_at 204 6 o4 rfl]; exact n2) q ⟨fun z => absurd z (show ¬ (1 : Int32) = 0 by decide), fun _ => ?_⟩
        rw [t1, t3, k0, k1]
        refine ⟨fun z => absurd z (by omega), fun _ => ⟨fun _ => ?_, fun z => absurd r.2 z⟩⟩
        refine md_fd h hl np n2 o4 oj3 b2 (fun I5 J5 R5 o5 oj5 e5 r5 => ?_)
        have o6 : ∀ x, fr_off [(0, 1, 0, 1), (204, 205, 0, 1), (95, 96, 0, 2147483648), (97, 98, 2, 10), (104, 106, 0, 2147483648), (204, 205, 58, 64), (243, 246, 0, 2147483648)] I (ix_u2 I5 204 0 x) := fun x => fr_put rfl (fr_trans o4 (fr_mono (by decide) o5))
        have oj6 : fr_off [(67, 68, 0, 2147483648), (76, 77, 0, 2147483648), (85, 86, 0, 2147483648), (94, 95, 0, 2147483648), (96, 97, 0, 2147483648), (97, 98, 3, 4), (97, 98, 10, 12), (98, 99, 0, 2147483648), (100, 104, 0, 2147483648), (204, 205, 60, 63), (241, 243, 0, 2147483648), (134, 141, 0, 2147483648), (256, 257, 0, 2147483648)] J J5 := fr_trans oj3 (fr_mono (by decide) oj5)
        have c0 : I5 0 0 = c := by rw [fr_at 0 0 o5 rfl]; exact u2_s
        have fi : ∀ x, c = x → P v v (ix_u2 I5 204 0 x) J5 T := fun x hx => by
          refine hP _ _ _ _ (rk_ways h (o6 x) oj6 ?_)
          show ix_u2 I5 204 0 x 0 0 = ix_u2 I5 204 0 x 204 0
          rw [u2_c (by decide), u2_s, c0, hx]
        unfold wp_X12_refuse wp_X12_gives
        rcases e5 with ⟨e1, e2⟩ | ⟨m, u, u2, e1, e2, ev, e3⟩
        · subst e2
          rcases hc with ⟨⟨hc, hv⟩, -⟩ | ⟨-, x, hx, -⟩
          · refine ⟨fun _ => ?_, fun z => absurd rfl z⟩
            have := fi 6 hc
            rw [hv] at this ⊢
            exact this
          · rw [e1] at hx; cases hx
        · subst e2
          have m2 := ev.1
          have m5 := ev.2.1
          have lt : nI k - 2 < nI m ↔ (k : Int) - 2 < m := by rw [Int32.lt_iff_toInt_lt, km, nI_toInt (by omega)]
          refine ⟨fun z => absurd z (show ¬ (1 : Int32) = 0 by decide), fun _ => ?_⟩
          rw [r5.1]
          show (nI k - 2 < nI m → _) ∧ (¬ nI k - 2 < nI m → _)
          rw [lt]
          rcases hc with ⟨⟨hc, hv⟩, hx⟩ | ⟨hc, x, hx, hv⟩
          · have := fi 6 hc
            rw [hv] at this ⊢
            rcases hx with hx | ⟨x, hx, hk2⟩
            · rw [e1] at hx; cases hx
            · rw [e1] at hx
              cases hx
              exact ⟨fun z => by omega, fun _ => this⟩
          · rw [e1] at hx
            cases hx
            have := fi 0 hc
            rcases hv with ⟨h0, hv⟩ | ⟨h0, hv⟩ | ⟨h0, h2, hv⟩
            · rw [hv] at this ⊢
              exact ⟨fun _ => ⟨fun _ => this, fun z => absurd h0 z⟩, fun z => absurd (show (k : Int) - 2 < m by omega) z⟩
            · have e4 : wzD (rdI I) m u2 = wzD (rdI I) m u := (wzD_congr e3).symm
              rw [hv] at this ⊢
              rw [r5.2.1]
              show ((k : Int) - 2 < m → (k = 0 → _) ∧ (¬ k = 0 → (k = 1 → P _ (nI (wzD (rdI I) m u2)) _ _ _) ∧ _)) ∧ _
              rw [e4]
              exact ⟨fun _ => ⟨fun z => by omega, fun _ => ⟨fun _ => this, fun z => absurd h0 z⟩⟩, fun z => absurd (show (k : Int) - 2 < m by omega) z⟩
            · have h2 : k - 2 < m := h2
              have e4 : I5 244 (k - 2) = nI (u (k - 2)) := by rw [r5.2.2.2.2 (k - 2) h2, e3 (k - 2) h2]
              have kk : nI k - 2 = nI (k - 2) := by rw [show (2 : Int32) = nI 2 from rfl, nI_sub (by omega) (by omega)]
              rw [hv] at this ⊢
              rw [kk, nI_clamp (show k - 2 < 2 ^ 31 by omega), e4]
              exact ⟨fun _ => ⟨fun z => by omega, fun _ => ⟨fun z => by omega, fun _ => ⟨nI_in2 (by omega) (by decide), this⟩⟩⟩, fun z => absurd (show (k : Int) - 2 < m by omega) z⟩
      match R, b2, r2, fin with
      | none, b2, r2, fin => exact ⟨fun _ => fin 6 (-1) (Or.inl ⟨⟨rfl, rfl⟩, Or.inl rfl⟩), fun z => absurd rfl z⟩
      | some x, b2, r2, fin =>
        obtain ⟨y1, y2, y3, y4, y5, y6, y7⟩ := r2
        have yd := wzD_le (fun a b ha hb => (h.rds 0 ha hb).1) y5 y6
        refine ⟨fun z => absurd z (show ¬ (1 : Int32) = 0 by decide), fun _ => ?_⟩
        unfold wp_X10_bestLength wp_X10_bestDays wp_X10_bestLand
        rw [k0, k1, y1, y2]
        refine ⟨fun z => fn_ans1 (by omega) (fin 0 _ (Or.inr ⟨rfl, x, rfl, Or.inl ⟨z, rfl⟩⟩)), fun z0 => ⟨fun z => fn_ans1 (by omega) (fin 0 _ (Or.inr ⟨rfl, x, rfl, Or.inr (Or.inl ⟨z, rfl⟩)⟩)), fun z1 => ?_⟩⟩
        have kk : nI k - 2 = nI (k - 2) := by rw [show (2 : Int32) = nI 2 from rfl, nI_sub (by omega) (by omega)]
        rw [kk, nI_clamp (show k - 2 < 2 ^ 31 by omega), nI_ltI (by omega) (by omega)]
        refine ⟨fun z => absurd z (nI_nlt (a := k - 2) (b := 0) (by omega) (by omega)), fun _ => ⟨fun z => ⟨nI_in2 (by omega) (by decide), ?_⟩, fun z => fn_ans0 (fin 6 (-1) (Or.inl ⟨⟨rfl, rfl⟩, Or.inr ⟨x, rfl, by omega⟩⟩))⟩⟩
        rw [y7 _ z]
        exact fn_ans1 (by have := y6 _ z; omega) (fin 0 _ (Or.inr ⟨rfl, x, rfl, Or.inr (Or.inr ⟨by omega, z, rfl⟩)⟩))
    · skip
      unfold wp_X11_way
      refine fn_mailC hn n1 q ⟨fun z => absurd z (show ¬ (1 : Int32) = 0 by decide), fun _ => fn_outC (by show t.toInt < 0 ∨ 6 < t.toInt; omega) ⟨fun z => absurd z (show ¬ (1 : Int32) = 0 by decide), fun _ => ?_⟩⟩
      unfold wp_X12_way wp_X11_refuse
      refine fn_mailM hn (by rw [u2_c (by decide)]; exact n2) q ⟨fun z => absurd z (show ¬ (1 : Int32) = 0 by decide), fun _ => ?_⟩
      rw [t1, t3]
      exact ⟨fun _ => hP _ _ _ _ (RR_st h 1), fun z => ⟨fun y => absurd ⟨by omega, y⟩ r, fun _ => hP _ _ _ _ (RR_st h 1)⟩⟩
  · skip
    unfold wp_X11_way
    refine fn_mailC0 hn n1 q ⟨fun _ => ?_, fun z => absurd rfl z⟩
    unfold wp_X12_way wp_X11_refuse
    exact fn_mailM0 hn (by rw [u2_c (by decide)]; exact n2) q ⟨fun _ => hP _ _ _ _ (RR_st h 1), fun z => absurd rfl z⟩

