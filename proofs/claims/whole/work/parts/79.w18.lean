theorem rp_remailed (a : Int32) (b : Int32) (s : Int32) (g : Int32) (p : Int32) (d : Int32) {I : Nat → Nat → Int32} {J : Nat → Nat → Int64} {T : Option Nat} {P : Int64 → Int64 → (Nat → Nat → Int32) → (Nat → Nat → Int64) → Option Nat → Prop} (h : RR I J) (hP : ∀ v I2 J2 T2, RR I2 J2 → P v v I2 J2 T2) : wp_X11_remailed a b s g p d I J T (fun v I1 J1 T1 => wp_X12_remailed a b s g p d I1 J1 T1 (fun w I2 J2 T2 => P v w I2 J2 T2)) := by
  obtain ⟨n, hn, n1, n2⟩ := h.land
  by_cases q : mk_ n a b s g p d
  · skip
    obtain ⟨i, j, rfl, rfl, hl⟩ := mk_l hn q
    have np := nzl_64 q.2.2.2.1.1
    unfold wp_X11_remailed
    refine fn_mailC hn n1 q ⟨fun z => absurd z (show ¬ (1 : Int32) = 0 by decide), fun _ => fn_bec q (fun I1 J1 o1 oj1 m1 => ?_)⟩
    refine fn_rmC h hl n1 (fr_mono (by decide) o1) (fr_mono (by decide) oj1) m1 (fun I2 J2 o3 oj3 q3 => ?_)
    have fin : ∀ (c : Int32) (v : Int64), (c = 6 ∧ rmR I n i j s d g.toInt64 p.toInt64 n = none ∧ v = -1) ∨ (c = 0 ∧ ∃ r, rmR I n i j s d g.toInt64 p.toInt64 n = some r ∧ v = r.2) → wp_X12_remailed (nI i) (nI j) s g p d (ix_u2 I2 0 0 c) J2 T (fun w I2 J2 T2 => P v w I2 J2 T2) := fun c v hc => by
      have o4 : fr_off [(0, 1, 0, 1), (204, 205, 0, 1), (95, 96, 0, 2147483648), (97, 98, 2, 10), (104, 106, 0, 2147483648), (204, 205, 58, 64), (243, 246, 0, 2147483648)] I (ix_u2 I2 0 0 c) := fr_put rfl o3
      unfold wp_X12_remailed
      refine fn_mailM hn (by rw [fr_at 204 6 o4 rfl]; exact n2) q ⟨fun z => absurd z (show ¬ (1 : Int32) = 0 by decide), fun _ => ?_⟩
      refine fn_rmM h hl np n1 n2 o4 oj3 (fun I5 J5 o5 oj5 e5 q5 _ => ?_)
      have fi : ∀ x, c = x → RR (ix_u2 I5 204 0 x) J5 := fun x hx => by
        refine rk_ways h (fr_put rfl o5) oj5 ?_
        show ix_u2 I5 204 0 x 0 0 = ix_u2 I5 204 0 x 204 0
        rw [u2_c (by decide), u2_s, e5, hx]; exact u2_s
      unfold wp_X12_refuse wp_X12_givesLong
      rcases hc with ⟨hc, hr, hv⟩ | ⟨hc, r, hr, hv⟩
      · rw [hr, hv]
        exact ⟨fun _ => hP _ _ _ _ (fi 6 hc), fun z => absurd rfl z⟩
      · rw [hr, hv, q5 r hr]
        exact ⟨fun z => absurd z (show ¬ (1 : Int32) = 0 by decide), fun _ => hP _ _ _ _ (fi 0 hc)⟩
    unfold wp_X10_remailPrice
    cases e : rmR I n i j s d g.toInt64 p.toInt64 n with
    | none => exact ⟨fun _ => fin 6 (-1) (Or.inl ⟨rfl, e, rfl⟩), fun z => absurd rfl z⟩
    | some r =>
      have rl := rmS_lt e
      refine ⟨fun z => absurd z (nI_nm1 (m := r.1) (by omega)), fun _ => ?_⟩
      have := fin 0 r.2 (Or.inr ⟨rfl, r, e, rfl⟩)
      rw [← q3 r e] at this
      exact this
  · skip
    unfold wp_X11_remailed
    refine fn_mailC0 hn n1 q ⟨fun _ => ?_, fun z => absurd rfl z⟩
    unfold wp_X12_remailed wp_X11_refuse
    exact fn_mailM0 hn (by rw [u2_c (by decide)]; exact n2) q ⟨fun _ => hP _ _ _ _ (RR_st h 1), fun z => absurd rfl z⟩

theorem rp_remailer (a : Int32) (b : Int32) (s : Int32) (g : Int32) (p : Int32) (d : Int32) {I : Nat → Nat → Int32} {J : Nat → Nat → Int64} {T : Option Nat} {P : Int32 → Int32 → (Nat → Nat → Int32) → (Nat → Nat → Int64) → Option Nat → Prop} (h : RR I J) (hP : ∀ v I2 J2 T2, RR I2 J2 → P v v I2 J2 T2) : wp_X11_remailer a b s g p d I J T (fun v I1 J1 T1 => wp_X12_remailer a b s g p d I1 J1 T1 (fun w I2 J2 T2 => P v w I2 J2 T2)) := by
  obtain ⟨n, hn, n1, n2⟩ := h.land
  by_cases q : mk_ n a b s g p d
  · skip
    obtain ⟨i, j, rfl, rfl, hl⟩ := mk_l hn q
    have np := nzl_64 q.2.2.2.1.1
    unfold wp_X11_remailer
    refine fn_mailC hn n1 q ⟨fun z => absurd z (show ¬ (1 : Int32) = 0 by decide), fun _ => fn_bec q (fun I1 J1 o1 oj1 m1 => ?_)⟩
    refine fn_rmC h hl n1 (fr_mono (by decide) o1) (fr_mono (by decide) oj1) m1 (fun I2 J2 o3 oj3 q3 => ?_)
    have fin : ∀ (c : Int32) (v : Int32), (c = 6 ∧ rmR I n i j s d g.toInt64 p.toInt64 n = none ∧ v = -1) ∨ (c = 0 ∧ ∃ r, rmR I n i j s d g.toInt64 p.toInt64 n = some r ∧ v = nI r.1) → wp_X12_remailer (nI i) (nI j) s g p d (ix_u2 I2 0 0 c) J2 T (fun w I2 J2 T2 => P v w I2 J2 T2) := fun c v hc => by
      have o4 : fr_off [(0, 1, 0, 1), (204, 205, 0, 1), (95, 96, 0, 2147483648), (97, 98, 2, 10), (104, 106, 0, 2147483648), (204, 205, 58, 64), (243, 246, 0, 2147483648)] I (ix_u2 I2 0 0 c) := fr_put rfl o3
      unfold wp_X12_remailer
      refine fn_mailM hn (by rw [fr_at 204 6 o4 rfl]; exact n2) q ⟨fun z => absurd z (show ¬ (1 : Int32) = 0 by decide), fun _ => ?_⟩
      refine fn_rmM h hl np n1 n2 o4 oj3 (fun I5 J5 o5 oj5 e5 q5 q6 => ?_)
      have fi : ∀ x, c = x → RR (ix_u2 I5 204 0 x) J5 := fun x hx => by
        refine rk_ways h (fr_put rfl o5) oj5 ?_
        show ix_u2 I5 204 0 x 0 0 = ix_u2 I5 204 0 x 204 0
        rw [u2_c (by decide), u2_s, e5, hx]; exact u2_s
      unfold wp_X12_refuse wp_X12_gives
      rcases hc with ⟨hc, hr, hv⟩ | ⟨hc, r, hr, hv⟩
      · rw [hr, hv]
        exact ⟨fun _ => hP _ _ _ _ (fi 6 hc), fun z => absurd rfl z⟩
      · rw [q6, hr, hv]
        exact ⟨fun z => absurd z (show ¬ (1 : Int32) = 0 by decide), fun _ => hP _ _ _ _ (fi 0 hc)⟩
    cases e : rmR I n i j s d g.toInt64 p.toInt64 n with
    | none => exact fn_ans0 (fin 6 (-1) (Or.inl ⟨rfl, e, rfl⟩))
    | some r =>
      have rl := rmS_lt e
      exact fn_ans1 (by omega) (fin 0 _ (Or.inr ⟨rfl, r, e, rfl⟩))
  · skip
    unfold wp_X11_remailer
    refine fn_mailC0 hn n1 q ⟨fun _ => ?_, fun z => absurd rfl z⟩
    unfold wp_X12_remailer wp_X11_refuse
    exact fn_mailM0 hn (by rw [u2_c (by decide)]; exact n2) q ⟨fun _ => hP _ _ _ _ (RR_st h 1), fun z => absurd rfl z⟩

theorem rp_gain (a : Int32) (b : Int32) (s : Int32) (g : Int32) (p : Int32) (d : Int32) {I : Nat → Nat → Int32} {J : Nat → Nat → Int64} {T : Option Nat} {P : Int64 → Int64 → (Nat → Nat → Int32) → (Nat → Nat → Int64) → Option Nat → Prop} (h : RR I J) (hP : ∀ v I2 J2 T2, RR I2 J2 → P v v I2 J2 T2) : wp_X11_gain a b s g p d I J T (fun v I1 J1 T1 => wp_X12_gain a b s g p d I1 J1 T1 (fun w I2 J2 T2 => P v w I2 J2 T2)) := by
  obtain ⟨n, hn, n1, n2⟩ := h.land
  by_cases q : mk_ n a b s g p d
  · skip
    obtain ⟨i, j, rfl, rfl, hl⟩ := mk_l hn q
    have np := nzl_64 q.2.2.2.1.1
    unfold wp_X11_gain
    refine fn_mailC hn n1 q ⟨fun z => absurd z (show ¬ (1 : Int32) = 0 by decide), fun _ => fn_bec q (fun I1 J1 o1 oj1 m1 => ?_)⟩
    refine md_fb h hl n1 (fr_mono (by decide) o1) (fr_mono (by decide) oj1) m1 (fun I2 J2 R o2 oj2 m2 b2 r2 _ => ?_)
    have o3 : fr_off [(0, 1, 0, 1), (204, 205, 0, 1), (95, 96, 0, 2147483648), (97, 98, 2, 10), (104, 106, 0, 2147483648), (204, 205, 58, 64), (243, 246, 0, 2147483648)] I I2 := fr_trans (fr_mono (by decide) o1) (fr_mono (by decide) o2)
    have oj3 : fr_off [(67, 68, 0, 2147483648), (76, 77, 0, 2147483648), (85, 86, 0, 2147483648), (94, 95, 0, 2147483648), (96, 97, 0, 2147483648), (97, 98, 3, 4), (97, 98, 10, 12), (98, 99, 0, 2147483648), (100, 104, 0, 2147483648), (204, 205, 60, 63), (241, 243, 0, 2147483648), (134, 141, 0, 2147483648), (256, 257, 0, 2147483648)] J J2 := fr_trans (fr_mono (by decide) oj1) (fr_mono (by decide) oj2)
    have fin : ∀ (I3 : Nat → Nat → Int32) (J3 : Nat → Nat → Int64) (c : Int32) (v : Int64), fr_off [(0, 1, 0, 1), (204, 205, 0, 1), (95, 96, 0, 2147483648), (97, 98, 2, 10), (104, 106, 0, 2147483648), (204, 205, 58, 64), (243, 246, 0, 2147483648)] I I3 → fr_off [(67, 68, 0, 2147483648), (76, 77, 0, 2147483648), (85, 86, 0, 2147483648), (94, 95, 0, 2147483648), (96, 97, 0, 2147483648), (97, 98, 3, 4), (97, 98, 10, 12), (98, 99, 0, 2147483648), (100, 104, 0, 2147483648), (204, 205, 60, 63), (241, 243, 0, 2147483648), (134, 141, 0, 2147483648), (256, 257, 0, 2147483648)] J J3 → (c = 6 ∧ (rmR I n i j s d g.toInt64 p.toInt64 n = none ∨ R = none) ∧ v = -1) ∨ (c = 0 ∧ ∃ r x, rmR I n i j s d g.toInt64 p.toInt64 n = some r ∧ R = some x ∧ v = wzP (FI_ I g.toInt64) (duX (bI I 51 44) s g.toInt64 p.toInt64 d i j) (thX (bI I 51 44) s g.toInt64 p.toInt64 d i j) x.1 x.2 - r.2) → wp_X12_gain (nI i) (nI j) s g p d (ix_u2 I3 0 0 c) J3 T (fun w I2 J2 T2 => P v w I2 J2 T2) := fun I3 J3 c v o3 oj3 hc => by
      have o4 : fr_off [(0, 1, 0, 1), (204, 205, 0, 1), (95, 96, 0, 2147483648), (97, 98, 2, 10), (104, 106, 0, 2147483648), (204, 205, 58, 64), (243, 246, 0, 2147483648)] I (ix_u2 I3 0 0 c) := fr_put rfl o3
      unfold wp_X12_gain
      refine fn_mailM hn (by rw [fr_at 204 6 o4 rfl]; exact n2) q ⟨fun z => absurd z (show ¬ (1 : Int32) = 0 by decide), fun _ => ?_⟩
      refine fn_rmM h hl np n1 n2 o4 oj3 (fun I5 J5 o5 oj5 e5 q5 q6 => ?_)
      have e50 : I5 0 0 = c := e5.trans u2_s
      unfold wp_X12_refuse wp_X12_givesLong
      have fi : ∀ (I6 : Nat → Nat → Int32) (J6 : Nat → Nat → Int64) x, fr_off [(0, 1, 0, 1), (204, 205, 0, 1), (95, 96, 0, 2147483648), (97, 98, 2, 10), (104, 106, 0, 2147483648), (204, 205, 58, 64), (243, 246, 0, 2147483648)] I I6 → fr_off [(67, 68, 0, 2147483648), (76, 77, 0, 2147483648), (85, 86, 0, 2147483648), (94, 95, 0, 2147483648), (96, 97, 0, 2147483648), (97, 98, 3, 4), (97, 98, 10, 12), (98, 99, 0, 2147483648), (100, 104, 0, 2147483648), (204, 205, 60, 63), (241, 243, 0, 2147483648), (134, 141, 0, 2147483648), (256, 257, 0, 2147483648)] J J6 → I6 0 0 = c → c = x → RR (ix_u2 I6 204 0 x) J6 := fun I6 J6 x o6 oj6 e6 hx => by
        refine rk_ways h (fr_put rfl o6) oj6 ?_
        show ix_u2 I6 204 0 x 0 0 = ix_u2 I6 204 0 x 204 0
        rw [u2_c (by decide), u2_s, e6, hx]
      have sec : (∃ r, rmR I n i j s d g.toInt64 p.toInt64 n = some r) → wp_X12_finds (nI i) (nI j) s g.toInt64 p.toInt64 d I5 J5 T (fun v9 I9 J9 T9 => ((v9 = 0 → P v ((-1 : Int32)).toInt64 (ix_u2 I9 204 0 6) J9 T9) ∧ (¬ (v9 = 0) → P v (J9 204 60 - J9 204 62) (ix_u2 I9 204 0 0) J9 T9))) := fun ⟨r, hr⟩ => by
        refine md_fd h hl np n2 o5 oj5 b2 (fun I7 J7 R7 o7 oj7 e7 r7 => ?_)
        have o8 : fr_off [(0, 1, 0, 1), (204, 205, 0, 1), (95, 96, 0, 2147483648), (97, 98, 2, 10), (104, 106, 0, 2147483648), (204, 205, 58, 64), (243, 246, 0, 2147483648)] I I7 := fr_trans o5 (fr_mono (by decide) o7)
        have oj8 : fr_off [(67, 68, 0, 2147483648), (76, 77, 0, 2147483648), (85, 86, 0, 2147483648), (94, 95, 0, 2147483648), (96, 97, 0, 2147483648), (97, 98, 3, 4), (97, 98, 10, 12), (98, 99, 0, 2147483648), (100, 104, 0, 2147483648), (204, 205, 60, 63), (241, 243, 0, 2147483648), (134, 141, 0, 2147483648), (256, 257, 0, 2147483648)] J J7 := fr_trans oj5 (fr_mono (by decide) oj7)
        have e70 : I7 0 0 = c := by rw [fr_at 0 0 o7 rfl]; exact e50
        have j62 : J7 204 62 = r.2 := by rw [fr_at 204 62 oj7 rfl]; exact q5 r hr
        rcases e7 with ⟨y1, y2⟩ | ⟨m, u, u2, y1, y2, yv, y3⟩
        · subst y2
          rcases hc with ⟨hc, -, hv⟩ | ⟨hc, r', x, hr', hx, hv⟩
          · rw [hv]
            exact ⟨fun _ => hP _ _ _ _ (fi I7 J7 6 o8 oj8 e70 hc), fun z => absurd rfl z⟩
          · rw [y1] at hx; cases hx
        · subst y2
          refine ⟨fun z => absurd z (show ¬ (1 : Int32) = 0 by decide), fun _ => ?_⟩
          rcases hc with ⟨hc, hn1, hv⟩ | ⟨hc, r', x, hr', hx, hv⟩
          · rcases hn1 with hn1 | hn1
            · rw [hn1] at hr; cases hr
            · rw [y1] at hn1; cases hn1
          · rw [y1] at hx
            cases hx
            rw [hr] at hr'
            cases hr'
            rw [j62, r7.2.2.1]
            have : v = wzP (FI_ I g.toInt64) (duX (bI I 51 44) s g.toInt64 p.toInt64 d i j) (thX (bI I 51 44) s g.toInt64 p.toInt64 d i j) m u2 - r.2 := by rw [hv]; exact congrArg (fun z => z - r.2) (wzP_congr y3)
            rw [← this]
            exact hP _ _ _ _ (fi I7 J7 0 o8 oj8 e70 hc)
      cases e : rmR I n i j s d g.toInt64 p.toInt64 n with
      | none =>
        rcases hc with ⟨hc, -, hv⟩ | ⟨hc, r', x, hr', hx, hv⟩
        · rw [hv]
          exact ⟨fun _ => hP _ _ _ _ (fi I5 J5 6 o5 oj5 e50 hc), fun z => absurd rfl z⟩
        · rw [e] at hr'; cases hr'
      | some r => exact ⟨fun z => absurd z (show ¬ (1 : Int32) = 0 by decide), fun _ => sec ⟨r, e⟩⟩
    match R, b2, r2, fin with
    | none, b2, r2, fin => exact ⟨fun _ => fin I2 J2 6 (-1) o3 oj3 (Or.inl ⟨rfl, Or.inr rfl, rfl⟩), fun z => absurd rfl z⟩
    | some x, b2, r2, fin =>
      refine ⟨fun z => absurd z (show ¬ (1 : Int32) = 0 by decide), fun _ => ?_⟩
      unfold wp_X10_bestPrice
      obtain ⟨t, u, m2⟩ := m2
      rw [r2.2.2.1]
      refine fn_rmC h hl n1 o3 oj3 m2 (fun I6 J6 o6 oj6 q6 => ?_)
      unfold wp_X10_remailPrice
      cases e : rmR I n i j s d g.toInt64 p.toInt64 n with
      | none => exact ⟨fun _ => fin I6 J6 6 (-1) o6 oj6 (Or.inl ⟨rfl, Or.inl e, rfl⟩), fun z => absurd rfl z⟩
      | some r =>
        have rl := rmS_lt e
        refine ⟨fun z => absurd z (nI_nm1 (m := r.1) (by omega)), fun _ => ?_⟩
        have := fin I6 J6 0 (wzP (FI_ I g.toInt64) (duX (bI I 51 44) s g.toInt64 p.toInt64 d i j) (thX (bI I 51 44) s g.toInt64 p.toInt64 d i j) x.1 x.2 - r.2) o6 oj6 (Or.inr ⟨rfl, r, x, e, rfl, rfl⟩)
        rw [← q6 r e] at this
        exact this
  · skip
    unfold wp_X11_gain
    refine fn_mailC0 hn n1 q ⟨fun _ => ?_, fun z => absurd rfl z⟩
    unfold wp_X12_gain wp_X11_refuse
    exact fn_mailM0 hn (by rw [u2_c (by decide)]; exact n2) q ⟨fun _ => hP _ _ _ _ (RR_st h 1), fun z => absurd rfl z⟩

