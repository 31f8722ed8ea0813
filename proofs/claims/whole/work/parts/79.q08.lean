theorem fn_mailC0 {n : Nat} {a b s w p d : Int32} (hn : n ≤ 7) {I : Nat → Nat → Int32} {J : Nat → Nat → Int64} {T : Option Nat} {P : Int32 → (Nat → Nat → Int32) → (Nat → Nat → Int64) → Option Nat → Prop} (n1 : I 8 0 = nI n) (h : ¬ mk_ n a b s w p d) (hP : P 0 I J T) : wp_X11_isMail a b s w p d I J T P := by
  have n3 : (nI n - 1).toInt = (n : Int) - 1 := nI_pm1 (by omega)
  have n4 : (nI n).toInt = (n : Int) := nI_toInt (by omega)
  have ab : a = b ↔ a.toInt = b.toInt := Int32.toInt_inj.symm
  unfold mk_ at h
  rw [ab] at h
  simp only [wp_X11_isMail, wp_X11_isDay, wp_X11_isPair, wp_X11_outside, wp_X11_isLand, wp_X5_count, lgc_lt, lgc_le, lgc_eq, cmp_s, cmp_t, u2_e]
  try simp only [Int32.lt_iff_toInt_lt, Int32.le_iff_toInt_le]
  simp [n1, n3, n4, ab]
  repeat' (first | with_reducible refine And.intro ?_ ?_ | with_reducible intro _)
  all_goals try first | rfl | (exfalso; omega) | exact inb_of (by omega) (by omega) | with_reducible exact nI_in2 (by omega) (by omega) | with_reducible exact hP | contradiction

theorem fn_mailM0 {n : Nat} {a b s w p d : Int32} (hn : n ≤ 7) {I : Nat → Nat → Int32} {J : Nat → Nat → Int64} {T : Option Nat} {P : Int32 → (Nat → Nat → Int32) → (Nat → Nat → Int64) → Option Nat → Prop} (n1 : I 204 6 = nI n) (h : ¬ mk_ n a b s w p d) (hP : P 0 I J T) : wp_X12_isMail a b s w p d I J T P := by
  have n3 : (nI n - 1).toInt = (n : Int) - 1 := nI_pm1 (by omega)
  have n4 : (nI n).toInt = (n : Int) := nI_toInt (by omega)
  have ab : a = b ↔ a.toInt = b.toInt := Int32.toInt_inj.symm
  unfold mk_ at h
  rw [ab] at h
  simp only [wp_X12_isMail, wp_X12_areTwo, wp_X12_isDay, wp_X12_isLand, lgc_lt, lgc_le, lgc_eq, cmp_s, cmp_t, u2_e]
  try simp only [Int32.lt_iff_toInt_lt, Int32.le_iff_toInt_le]
  simp [n1, n3, n4, ab]
  repeat' (first | with_reducible refine And.intro ?_ ?_ | with_reducible intro _)
  all_goals try first | rfl | (exfalso; omega) | exact inb_of (by omega) (by omega) | with_reducible exact nI_in2 (by omega) (by omega) | with_reducible exact hP | contradiction

theorem fn_outC {a : Int32} {lo hi : Int64} {I : Nat → Nat → Int32} {J : Nat → Nat → Int64} {T : Option Nat} {P : Int32 → (Nat → Nat → Int32) → (Nat → Nat → Int64) → Option Nat → Prop} (h : a.toInt < lo.toInt ∨ hi.toInt < a.toInt) (hP : P 1 I J T) : wp_X11_outside a.toInt64 lo hi I J T P := by
  simp only [wp_X11_outside, lgc_lt, lgc_le, lgc_eq, cmp_s, cmp_t, u2_e]
  try simp only [Int64.lt_iff_toInt_lt, Int64.le_iff_toInt_le, Int32.toInt_toInt64]
  simp
  repeat' (first | with_reducible refine And.intro ?_ ?_ | with_reducible intro _)
  all_goals try first | rfl | (exfalso; omega) | exact inb_of (by omega) (by omega) | with_reducible exact nI_in2 (by omega) (by omega) | with_reducible exact hP | contradiction

theorem fn_ans0 {I : Nat → Nat → Int32} {J : Nat → Nat → Int64} {T : Option Nat} {P : Int32 → (Nat → Nat → Int32) → (Nat → Nat → Int64) → Option Nat → Prop} (hP : P (-1) (ix_u2 I 0 0 6) J T) : wp_X11_answerOrNoneSuch (-1) I J T P := by
  unfold wp_X11_answerOrNoneSuch
  exact ⟨fun _ => ⟨fun _ => hP, fun z => absurd (by decide) z⟩, fun z => absurd (by decide) z⟩
theorem fn_ans1 {k : Nat} (hk : k < 2147483648) {I : Nat → Nat → Int32} {J : Nat → Nat → Int64} {T : Option Nat} {P : Int32 → (Nat → Nat → Int32) → (Nat → Nat → Int64) → Option Nat → Prop} (hP : P (nI k) (ix_u2 I 0 0 0) J T) : wp_X11_answerOrNoneSuch (nI k) I J T P := by
  unfold wp_X11_answerOrNoneSuch
  have n : ¬ nI k < 0 := nI_nlt (a := k) (b := 0) (by omega) (by omega)
  exact ⟨fun z => absurd z n, fun _ => ⟨fun z => absurd z n, fun _ => hP⟩⟩
theorem cr_jq {I : Nat → Nat → Int32} {J : Nat → Nat → Int64} {V : Nat → Int64} {x1 a b c d : Int32} {x : Nat} (h : tw_ I J) (hc : cr_ (bI I 51 44) V x1 a b c d = some x) : ∃ j, j < 4 ∧ tj_ (bI I 51 44) d = nI j ∧ x < 12 := by
  obtain ⟨n, g, hn, hg, y1, y2, y3, y4⟩ := rC_of h V
  have et : tj_ (bI I 51 44) d = (sc_f (I 53) (d / 365) n).1 := by
    have : tj_ (bI I 51 44) d = (sc_f (I 53) (d / 365) (I 51 0).toNatClampNeg).1 := rfl
    rw [this, y1, nI_clamp (show n < 2 ^ 31 by omega)]
  unfold cr_ at hc
  rw [et] at hc ⊢
  rcases sc_f_ok (Y := I 53) (y := d / 365) (n := n) with e | ⟨j, hjn, e⟩
  · rw [e, if_pos rfl] at hc
    cases hc
  · rw [e] at hc ⊢
    rw [if_neg (nI_nm1 (by omega)), nI_clamp (show j < 2 ^ 31 by omega)] at hc
    obtain ⟨k, hk, k1, hr⟩ := y4 j hjn
    have hx := (fi_lt hc).2
    rw [k1, nI_clamp (show k < 2 ^ 31 by omega)] at hx
    exact ⟨j, by omega, rfl, by omega⟩
theorem cr_j {I : Nat → Nat → Int32} {J : Nat → Nat → Int64} {V : Nat → Int64} {x1 a b c d : Int32} {x : Nat} (h : tw_ I J) (hc : cr_ (bI I 51 44) V x1 a b c d = some x) : ∃ j, j < 4 ∧ tj_ (bI I 51 44) d = nI j := by
  obtain ⟨j, h1, h2, -⟩ := cr_jq h hc
  exact ⟨j, h1, h2⟩
theorem cr_12 {I : Nat → Nat → Int32} {J : Nat → Nat → Int64} {V : Nat → Int64} {x1 a b c d : Int32} {x : Nat} (h : tw_ I J) (hc : cr_ (bI I 51 44) V x1 a b c d = some x) : x < 12 := by
  obtain ⟨j, h1, h2, h3⟩ := cr_jq h hc
  exact h3
theorem nzl_64 {p : Int32} (h : 1 ≤ p.toInt) : ix_nzl p.toInt64 = true := by
  have : ¬ p.toInt64 = 0 := fun z => by
    have := congrArg Int64.toInt z
    rw [Int32.toInt_toInt64] at this
    have : p.toInt = 0 := this
    omega
  unfold ix_nzl
  simp [this]
theorem RR.tw {I I2 : Nat → Nat → Int32} {J J2 : Nat → Nat → Int64} (h : RR I J) {D E : List fr_R} (o : fr_off D I I2) (oj : fr_off E J J2) (d1 : ((!fr_in D 51 0) && ((!fr_in D 204 24) && (fr_rw D 53 54 && (fr_rw D 215 216 && (fr_rw D 59 95 && (fr_rw D 216 217 && (fr_rw D 217 218 && (fr_rw D 218 219 && (fr_rw D 219 220 && (fr_rw D 220 221 && (fr_rw D 221 222 && (fr_rw D 222 223 && (fr_rw D 223 224 && (fr_rw D 225 226 && (fr_rw D 226 227 && (fr_rw D 227 228 && (fr_rw D 228 229 && (fr_rw D 229 230 && (fr_rw D 230 231 && (fr_rw D 231 232 && (fr_rw D 232 233 && ((!fr_in D 204 44) && ((!fr_in D 204 45) && (fr_rw E 233 234)))))))))))))))))))))))) = true) (d2 : ((!fr_in D 51 3) && ((!fr_in D 204 53) && (fr_rw D 54 55 && (fr_rw D 55 56 && (fr_rw D 56 57 && (fr_rw D 57 58 && (fr_rw D 58 59 && (fr_rw D 237 238 && (fr_rw D 238 239 && (fr_rw D 239 240 && (fr_rw D 240 241))))))))))) = true) : tw_ I2 J2 := ⟨fr_trty o oj d1 h.trty, fr_resv o d2 h.resv⟩
theorem rp_due (a : Int32) (b : Int32) (s : Int32) (g : Int32) (p : Int32) (d : Int32) (t : Int32) {I : Nat → Nat → Int32} {J : Nat → Nat → Int64} {T : Option Nat} {P : Int64 → Int64 → (Nat → Nat → Int32) → (Nat → Nat → Int64) → Option Nat → Prop} (h : RR I J) (hP : ∀ v I2 J2 T2, RR I2 J2 → P v v I2 J2 T2) : wp_X11_due a b s g p d t I J T (fun v I1 J1 T1 => wp_X12_due a b s g p d t I1 J1 T1 (fun w I2 J2 T2 => P v w I2 J2 T2)) := by
  obtain ⟨n, hn, n1, n2⟩ := h.land
  by_cases q : mk_ n a b s g p d
  · skip
    have t1 : t < 0 ↔ t.toInt < 0 := Int32.lt_iff_toInt_lt
    have t3 : t ≤ 3 ↔ t.toInt ≤ 3 := Int32.le_iff_toInt_le
    have np := nzl_64 q.2.2.2.1.1
    by_cases r : 0 ≤ t.toInt ∧ t.toInt ≤ 3
    · skip
      unfold wp_X11_due
      refine fn_mailC hn n1 q ⟨fun z => absurd z (by decide), fun _ => fn_noutC (by show 0 ≤ t.toInt; omega) (by show t.toInt ≤ 3; omega) ⟨fun _ => fn_bec q (fun I1 J1 o1 oj1 m1 => fn_gov m1 (fun I2 J2 o2 oj2 m2 => ?_)), fun z => absurd rfl z⟩⟩
      have o3 : fr_off [(0, 1, 0, 1), (204, 205, 0, 1), (95, 96, 0, 2147483648)] I (ix_u2 I2 0 0 0) := fr_put rfl (fr_trans (fr_mono (by decide) o1) (fr_mono (by decide) o2))
      have oj3 : fr_off [(67, 68, 0, 2147483648), (76, 77, 0, 2147483648), (85, 86, 0, 2147483648), (94, 95, 0, 2147483648), (96, 97, 0, 2147483648)] J J2 := fr_trans (fr_mono (by decide) oj1) (fr_mono (by decide) oj2)
      refine fn_chM (h.tw o3 oj3 rfl rfl) (show ml_ (ix_u2 I2 0 0 0) J2 a b s g.toInt64 p.toInt64 d t (-1) from m2) (fun J3 oj4 => ?_)
      have oj5 : fr_off [(67, 68, 0, 2147483648), (76, 77, 0, 2147483648), (85, 86, 0, 2147483648), (94, 95, 0, 2147483648), (96, 97, 0, 2147483648)] J J3 := fr_trans oj3 (fr_mono (by decide) oj4)
      rw [if_pos rfl]
      have c0 : ix_u2 I2 0 0 0 0 0 = 0 := u2_s
      generalize ix_u2 I2 0 0 0 = I3 at o3 c0 ⊢
      unfold wp_X12_due
      refine fn_mailM hn (by rw [fr_at 204 6 o3 rfl]; exact n2) q ⟨fun z => absurd z (by decide), fun _ => ?_⟩
      rw [t1, t3]
      refine ⟨fun z => absurd z (by omega), fun _ => ⟨fun _ => fn_ow (h.tw o3 oj5 rfl rfl) np (Or.inl ⟨rfl, rfl, rfl⟩) (fun J4 oj6 => ?_), fun z => absurd r.2 z⟩⟩
      unfold wp_X12_givesLong
      refine hP _ _ _ _ (rk_mail h (fr_put rfl o3) (fr_trans (fr_mono (by decide) oj5) (fr_mono (by decide) oj6)) ?_)
      show ix_u2 I3 204 0 0 0 0 = ix_u2 I3 204 0 0 204 0
      rw [u2_c (by decide), u2_s, c0]
    · skip
      unfold wp_X11_due
      refine fn_mailC hn n1 q ⟨fun z => absurd z (by decide), fun _ => fn_outC (by show t.toInt < 0 ∨ 3 < t.toInt; omega) ⟨fun z => absurd z (by decide), fun _ => ?_⟩⟩
      unfold wp_X12_due wp_X11_refuse
      refine fn_mailM hn (by rw [u2_c (by decide)]; exact n2) q ⟨fun z => absurd z (by decide), fun _ => ?_⟩
      rw [t1, t3]
      exact ⟨fun _ => hP _ _ _ _ (RR_st h 1), fun z => ⟨fun y => absurd ⟨by omega, y⟩ r, fun _ => hP _ _ _ _ (RR_st h 1)⟩⟩
  · skip
    unfold wp_X11_due
    refine fn_mailC0 hn n1 q ⟨fun _ => ?_, fun z => absurd rfl z⟩
    unfold wp_X12_due wp_X11_refuse
    exact fn_mailM0 hn (by rw [u2_c (by decide)]; exact n2) q ⟨fun _ => hP _ _ _ _ (RR_st h 1), fun z => absurd rfl z⟩

theorem rp_dueBy (a : Int32) (b : Int32) (s : Int32) (g : Int32) (p : Int32) (d : Int32) (t : Int32) {I : Nat → Nat → Int32} {J : Nat → Nat → Int64} {T : Option Nat} {P : Int32 → Int32 → (Nat → Nat → Int32) → (Nat → Nat → Int64) → Option Nat → Prop} (h : RR I J) (hP : ∀ v I2 J2 T2, RR I2 J2 → P v v I2 J2 T2) : wp_X11_dueBy a b s g p d t I J T (fun v I1 J1 T1 => wp_X12_dueBy a b s g p d t I1 J1 T1 (fun w I2 J2 T2 => P v w I2 J2 T2)) := by
  obtain ⟨n, hn, n1, n2⟩ := h.land
  by_cases q : mk_ n a b s g p d
  · skip
    have t1 : t < 0 ↔ t.toInt < 0 := Int32.lt_iff_toInt_lt
    have t3 : t ≤ 3 ↔ t.toInt ≤ 3 := Int32.le_iff_toInt_le
    have np := nzl_64 q.2.2.2.1.1
    by_cases r : 0 ≤ t.toInt ∧ t.toInt ≤ 3
    · skip
      unfold wp_X11_dueBy
      refine fn_mailC hn n1 q ⟨fun z => absurd z (by decide), fun _ => fn_noutC (by show 0 ≤ t.toInt; omega) (by show t.toInt ≤ 3; omega) ⟨fun _ => fn_bec q (fun I1 J1 o1 oj1 m1 => fn_gov m1 (fun I2 J2 o2 oj2 m2 => ?_)), fun z => absurd rfl z⟩⟩
      have o3 : fr_off [(0, 1, 0, 1), (204, 205, 0, 1), (95, 96, 0, 2147483648)] I I2 := fr_trans (fr_mono (by decide) o1) (fr_mono (by decide) o2)
      have oj3 : fr_off [(67, 68, 0, 2147483648), (76, 77, 0, 2147483648), (85, 86, 0, 2147483648), (94, 95, 0, 2147483648), (96, 97, 0, 2147483648)] J J2 := fr_trans (fr_mono (by decide) oj1) (fr_mono (by decide) oj2)
      have htw := h.tw o3 oj3 rfl rfl
      refine fn_cfM htw m2 (fun J3 oj4 => ?_)
      have oj5 : fr_off [(67, 68, 0, 2147483648), (76, 77, 0, 2147483648), (85, 86, 0, 2147483648), (94, 95, 0, 2147483648), (96, 97, 0, 2147483648)] J J3 := fr_trans oj3 (fr_mono (by decide) oj4)
      rw [if_pos rfl]
      have hmo : ∀ I5 : Nat → Nat → Int32, fr_off [(0, 1, 0, 1), (204, 205, 0, 1), (95, 96, 0, 2147483648)] I I5 → bI I5 51 44 = bI I2 51 44 → ∀ R : Int32 → (Nat → Nat → Int32) → (Nat → Nat → Int64) → Option Nat → Prop, (∀ J6, fr_off [(67, 68, 0, 2147483648), (76, 77, 0, 2147483648), (85, 86, 0, 2147483648), (94, 95, 0, 2147483648), (96, 97, 0, 2147483648), (241, 243, 0, 2147483648)] J J6 → (cr_ (bI I2 51 44) (vm_ s g.toInt64 p.toInt64 (d / 365) t (-1)) 0 a b b d = none → R (-1) (ix_u2 I5 204 0 6) J6 T) ∧ (∀ x, x < 12 → cr_ (bI I2 51 44) (vm_ s g.toInt64 p.toInt64 (d / 365) t (-1)) 0 a b b d = some x → R (nI x) (ix_u2 I5 204 0 0) J6 T)) → wp_X12_dueBy a b s g p d t I5 J3 T R := by
        intro I5 o5 e5 R hR
        unfold wp_X12_dueBy
        refine fn_mailM hn (by rw [fr_at 204 6 o5 rfl]; exact n2) q ⟨fun z => absurd z (by decide), fun _ => ?_⟩
        rw [t1, t3]
        refine ⟨fun z => absurd z (by omega), fun _ => ⟨fun _ => fn_ask np (fun J4 oj6 v6 => ?_), fun z => absurd r.2 z⟩⟩
        have tw4 : tw_ I5 J4 := tw_j (h.tw o5 oj5 rfl rfl) (fr_rw1 oj6 233 rfl)
        refine fn_co tw4 (Or.inl ⟨rfl, rfl, rfl⟩) v6 (fun J7 oj7 => ?_)
        rw [e5]
        have hR := hR J7 (fr_trans (fr_mono (by decide) oj5) (fr_trans (fr_mono (by decide) oj6) (fr_mono (by decide) oj7)))
        unfold wp_X12_refuse wp_X12_gives
        cases hc : cr_ (bI I2 51 44) (vm_ s g.toInt64 p.toInt64 (d / 365) t (-1)) 0 a b b d with
        | none => exact ⟨fun _ => hR.1 hc, fun z => absurd rfl z⟩
        | some x =>
          obtain ⟨j, hj, ej⟩ := cr_j htw hc
          rw [ej, nI_clamp (show j < 2 ^ 31 by omega)]
          have hx : x < 12 := cr_12 htw hc
          have hR := hR.2 x hx hc
          refine ⟨fun z => absurd z (nI_nm1 (by omega)), fun _ => ?_⟩
          have ed : nI (12 * j + x) - nI (12 * j + x) / 12 * 12 = nI x := by
            rw [show (12 : Int32) = nI 12 from rfl, nI_div (by omega) (by omega) (by omega), nI_mul, nI_sub (by omega) (by omega)]
            exact congrArg nI (by omega)
          show R (nI (12 * j + x) - nI (12 * j + x) / 12 * 12) _ _ _
          rw [ed]
          exact hR
      cases hc : cr_ (bI I2 51 44) (vm_ s g.toInt64 p.toInt64 (d / 365) t (-1)) 0 a b b d with
      | none =>
        show wp_X11_answerOrNoneSuch (-1) I2 J3 T _
        have o6 : fr_off [(0, 1, 0, 1), (204, 205, 0, 1), (95, 96, 0, 2147483648)] I (ix_u2 I2 0 0 6) := fr_put rfl o3
        have e6 : bI (ix_u2 I2 0 0 6) 51 44 = bI I2 51 44 := fr_bI (D := [(0, 1, 0, 1)]) (fr_put rfl fr_refl) 51 44 rfl
        refine fn_ans0 (hmo _ o6 e6 _ (fun J6 oj6 => ⟨fun _ => ?_, fun x _ e => by rw [hc] at e; cases e⟩))
        refine hP _ _ _ _ (rk_mail h (fr_put rfl o6) oj6 ?_)
        show ix_u2 (ix_u2 I2 0 0 6) 204 0 6 0 0 = ix_u2 (ix_u2 I2 0 0 6) 204 0 6 204 0
        rw [u2_c (by decide), u2_s, u2_s]
      | some x =>
        show wp_X11_answerOrNoneSuch (nI x) I2 J3 T _
        have o6 : fr_off [(0, 1, 0, 1), (204, 205, 0, 1), (95, 96, 0, 2147483648)] I (ix_u2 I2 0 0 0) := fr_put rfl o3
        have e6 : bI (ix_u2 I2 0 0 0) 51 44 = bI I2 51 44 := fr_bI (D := [(0, 1, 0, 1)]) (fr_put rfl fr_refl) 51 44 rfl
        have hx : x < 12 := cr_12 htw hc
        refine fn_ans1 (by omega) (hmo _ o6 e6 _ (fun J6 oj6 => ⟨fun e => (by rw [hc] at e; cases e), fun y _ e => ?_⟩))
        rw [hc] at e
        cases e
        refine hP _ _ _ _ (rk_mail h (fr_put rfl o6) oj6 ?_)
        show ix_u2 (ix_u2 I2 0 0 0) 204 0 0 0 0 = ix_u2 (ix_u2 I2 0 0 0) 204 0 0 204 0
        rw [u2_c (by decide), u2_s, u2_s]
    · skip
      unfold wp_X11_dueBy
      refine fn_mailC hn n1 q ⟨fun z => absurd z (by decide), fun _ => fn_outC (by show t.toInt < 0 ∨ 3 < t.toInt; omega) ⟨fun z => absurd z (by decide), fun _ => ?_⟩⟩
      unfold wp_X12_dueBy wp_X11_refuse
      refine fn_mailM hn (by rw [u2_c (by decide)]; exact n2) q ⟨fun z => absurd z (by decide), fun _ => ?_⟩
      rw [t1, t3]
      exact ⟨fun _ => hP _ _ _ _ (RR_st h 1), fun z => ⟨fun y => absurd ⟨by omega, y⟩ r, fun _ => hP _ _ _ _ (RR_st h 1)⟩⟩
  · skip
    unfold wp_X11_dueBy
    refine fn_mailC0 hn n1 q ⟨fun _ => ?_, fun z => absurd rfl z⟩
    unfold wp_X12_dueBy wp_X11_refuse
    exact fn_mailM0 hn (by rw [u2_c (by decide)]; exact n2) q ⟨fun _ => hP _ _ _ _ (RR_st h 1), fun z => absurd rfl z⟩

theorem fn_pairC {n : Nat} {a b : Int32} (hn : n ≤ 7) {I : Nat → Nat → Int32} {J : Nat → Nat → Int64} {T : Option Nat} {P : Int32 → (Nat → Nat → Int32) → (Nat → Nat → Int64) → Option Nat → Prop} (n1 : I 8 0 = nI n) (h1 : 0 ≤ a.toInt ∧ a.toInt < n) (h2 : 0 ≤ b.toInt ∧ b.toInt < n) (h3 : ¬ a.toInt = b.toInt) (hP : P 1 I J T) : wp_X11_isPair a b I J T P := by
  have n3 : (nI n - 1).toInt = (n : Int) - 1 := nI_pm1 (by omega)
  have n4 : (nI n).toInt = (n : Int) := nI_toInt (by omega)
  have ab : a = b ↔ a.toInt = b.toInt := Int32.toInt_inj.symm
  simp only [wp_X11_isPair, wp_X11_isLand, wp_X11_outside, wp_X5_count, lgc_lt, lgc_le, lgc_eq, cmp_s, cmp_t, u2_e]
  try simp only [Int32.lt_iff_toInt_lt, Int32.le_iff_toInt_le]
  simp [n1, n3, n4, ab]
  repeat' (first | with_reducible refine And.intro ?_ ?_ | with_reducible intro _)
  all_goals try first | rfl | (exfalso; omega) | exact inb_of (by omega) (by omega) | with_reducible exact nI_in2 (by omega) (by omega) | with_reducible exact hP | contradiction

theorem fn_landM {n : Nat} {a : Int32} (hn : n ≤ 7) {I : Nat → Nat → Int32} {J : Nat → Nat → Int64} {T : Option Nat} {P : Int32 → (Nat → Nat → Int32) → (Nat → Nat → Int64) → Option Nat → Prop} (n1 : I 204 6 = nI n) (h1 : 0 ≤ a.toInt ∧ a.toInt < n) (hP : P 1 I J T) : wp_X12_isLand a I J T P := by
  have n4 : (nI n).toInt = (n : Int) := nI_toInt (by omega)
  simp only [wp_X12_isLand, lgc_lt, lgc_le, lgc_eq, cmp_s, cmp_t, u2_e]
  try simp only [Int32.lt_iff_toInt_lt, Int32.le_iff_toInt_le]
  simp [n1, n4]
  repeat' (first | with_reducible refine And.intro ?_ ?_ | with_reducible intro _)
  all_goals try first | rfl | (exfalso; omega) | exact inb_of (by omega) (by omega) | with_reducible exact nI_in2 (by omega) (by omega) | with_reducible exact hP | contradiction

theorem rp_third (a : Int32) (b : Int32) (c : Int32) (s : Int32) (g : Int32) (p : Int32) (d : Int32) (t : Int32) {I : Nat → Nat → Int32} {J : Nat → Nat → Int64} {T : Option Nat} {P : Int64 → Int64 → (Nat → Nat → Int32) → (Nat → Nat → Int64) → Option Nat → Prop} (h : RR I J) (hP : ∀ v I2 J2 T2, RR I2 J2 → P v v I2 J2 T2) : wp_X11_third a b c s g p d t I J T (fun v I1 J1 T1 => wp_X12_third a b c s g p d t I1 J1 T1 (fun w I2 J2 T2 => P v w I2 J2 T2)) := by
  obtain ⟨n, hn, n1, n2⟩ := h.land
  by_cases q : mk_ n a b s g p d ∧ (0 ≤ c.toInt ∧ c.toInt < n ∧ ¬ c.toInt = a.toInt ∧ ¬ c.toInt = b.toInt) ∧ 1 ≤ t.toInt ∧ t.toInt ≤ 3
  · obtain ⟨q, ⟨r1, r2, r3, r4⟩, r5, r6⟩ := q
    have t1 : t < 1 ↔ t.toInt < 1 := Int32.lt_iff_toInt_lt
    have t3 : t ≤ 3 ↔ t.toInt ≤ 3 := Int32.le_iff_toInt_le
    have ca : c = a ↔ c.toInt = a.toInt := Int32.toInt_inj.symm
    have cb : c = b ↔ c.toInt = b.toInt := Int32.toInt_inj.symm
    have nm : ¬ c = -1 := fun z => by
      rw [z] at r1
      exact absurd r1 (by decide)
    have np := nzl_64 q.2.2.2.1.1
    unfold wp_X11_third
    refine fn_mailC hn n1 q ⟨fun z => absurd z (by decide), fun _ => fn_noutC (by show 1 ≤ t.toInt; omega) (by show t.toInt ≤ 3; omega) ⟨fun _ => fn_pairC hn n1 ⟨q.1.1, q.1.2.1⟩ ⟨r1, r2⟩ (by omega) ⟨fun z => absurd z (by decide), fun _ => fn_pairC hn n1 ⟨r1, r2⟩ ⟨q.1.2.2.1, q.1.2.2.2.1⟩ r4 ⟨fun z => absurd z (by decide), fun _ => fn_bec q (fun I1 J1 o1 oj1 m1 => fn_gov m1 (fun I2 J2 o2 oj2 m2 => ?_))⟩⟩, fun z => absurd rfl z⟩⟩
    have o3 : fr_off [(0, 1, 0, 1), (204, 205, 0, 1), (95, 96, 0, 2147483648)] I (ix_u2 I2 0 0 0) := fr_put rfl (fr_trans (fr_mono (by decide) o1) (fr_mono (by decide) o2))
    have oj3 : fr_off [(67, 68, 0, 2147483648), (76, 77, 0, 2147483648), (85, 86, 0, 2147483648), (94, 95, 0, 2147483648), (96, 97, 0, 2147483648)] J J2 := fr_trans (fr_mono (by decide) oj1) (fr_mono (by decide) oj2)
    refine fn_chM (h.tw o3 oj3 rfl rfl) (show ml_ (ix_u2 I2 0 0 0) J2 a b s g.toInt64 p.toInt64 d t c from m2) (fun J3 oj4 => ?_)
    have oj5 : fr_off [(67, 68, 0, 2147483648), (76, 77, 0, 2147483648), (85, 86, 0, 2147483648), (94, 95, 0, 2147483648), (96, 97, 0, 2147483648)] J J3 := fr_trans oj3 (fr_mono (by decide) oj4)
    rw [if_neg (by decide)]
    have c0 : ix_u2 I2 0 0 0 0 0 = 0 := u2_s
    generalize ix_u2 I2 0 0 0 = I3 at o3 c0 ⊢
    unfold wp_X12_third
    have n5 : I3 204 6 = nI n := by rw [fr_at 204 6 o3 rfl]; exact n2
    refine fn_mailM hn n5 q ⟨fun z => absurd z (by decide), fun _ => fn_landM hn n5 ⟨r1, r2⟩ ⟨fun z => absurd z (by decide), fun _ => ?_⟩⟩
    rw [t1, t3, ca, cb]
    refine ⟨fun z => absurd z r3, fun _ => ⟨fun z => absurd z r4, fun _ => ⟨fun z => absurd z (by omega), fun _ => ⟨fun _ => fn_ow (h.tw o3 oj5 rfl rfl) np (Or.inr ⟨nm, rfl, rfl⟩) (fun J4 oj6 => ?_), fun z => absurd r6 z⟩⟩⟩⟩
    unfold wp_X12_givesLong
    refine hP _ _ _ _ (rk_mail h (fr_put rfl o3) (fr_trans (fr_mono (by decide) oj5) (fr_mono (by decide) oj6)) ?_)
    show ix_u2 I3 204 0 0 0 0 = ix_u2 I3 204 0 0 204 0
    rw [u2_c (by decide), u2_s, c0]
  · skip
    have n3 : (nI n - 1).toInt = (n : Int) - 1 := nI_pm1 (by omega)
    have n4 : (nI n).toInt = (n : Int) := nI_toInt (by omega)
    have ab : a = b ↔ a.toInt = b.toInt := Int32.toInt_inj.symm
    have ac : a = c ↔ a.toInt = c.toInt := Int32.toInt_inj.symm
    have ca : c = a ↔ c.toInt = a.toInt := Int32.toInt_inj.symm
    have cb : c = b ↔ c.toInt = b.toInt := Int32.toInt_inj.symm
    unfold mk_ at q
    rw [ab] at q
    simp only [wp_X11_third, wp_X12_third, wp_X11_isMail, wp_X11_isPair, wp_X11_outside, wp_X11_refuse, wp_X12_givesLong, wp_X12_isLand, wp_X12_isMail, wp_X12_refuse, wp_X11_isDay, wp_X11_isLand, wp_X12_areTwo, wp_X12_isDay, wp_X5_count, lgc_lt, lgc_le, lgc_eq, cmp_s, cmp_t, u2_e]
    try simp only [Int32.lt_iff_toInt_lt, Int32.le_iff_toInt_le]
    simp [n1, n2, n3, n4, ab, ac, ca, cb]
    repeat' (first | with_reducible refine And.intro ?_ ?_ | with_reducible intro _)
    all_goals try first | rfl | (exfalso; omega) | exact inb_of (by omega) (by omega) | exact hP _ _ _ _ (RR_st h 1)

