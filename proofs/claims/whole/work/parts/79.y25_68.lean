/-! treaties: the call, for the treaty at 68 -/
def yDU68 : List fr_R := [(0, 1, 0, 1), (44, 45, 1, 4), (44, 45, 7, 12), (44, 45, 15, 19), (46, 48, 0, 2147483648), (50, 52, 0, 1), (50, 51, 0, 2147483648), (53, 54, 0, 2147483648), (68, 76, 0, 2147483648), (204, 205, 0, 1), (204, 205, 15, 23), (204, 205, 24, 25), (204, 205, 44, 46), (214, 224, 0, 2147483648), (225, 233, 0, 2147483648), (234, 237, 0, 2147483648)]
def yEU68 : List fr_R := [(48, 50, 0, 2147483648), (204, 205, 23, 24), (224, 225, 0, 2147483648), (233, 234, 0, 2147483648)]
theorem rk_trt68 {I I2 : Nat → Nat → Int32} {J J2 : Nat → Nat → Int64} (h : RR I J) (o : fr_off yDU68 I I2) (r : fr_off yEU68 J J2) (p1 : RL_stat I2) (p2 : RL_tape I2) (p3 : RL_falt I2) (p4 : RL_trty I2 J2) : RR I2 J2 := ⟨p1, fr_frac r rfl h.frac, fr_tray o r rfl h.tray, fr_land o rfl h.land, fr_gold o rfl h.gold, fr_road o rfl h.road, fr_carr o rfl h.carr, fr_rate o rfl h.rate, p2, p3, fr_resv o rfl h.resv, fr_flow o rfl h.flow, fr_draw o rfl h.draw, fr_tell o rfl h.tell, fr_acct o r rfl h.acct, fr_rule o rfl h.rule, fr_bags o rfl h.bags, fr_hand o rfl h.hand, fr_book o rfl h.book, fr_figs r rfl h.figs, fr_case o rfl h.case, fr_wght o rfl h.wght, p4⟩
set_option maxHeartbeats 8000000 in
theorem ytr68 {n p y : Nat} {I : Nat → Nat → Int32} {J : Nat → Nat → Int64} {T : Option Nat} {P : Int32 → Int32 → (Nat → Nat → Int32) → (Nat → Nat → Int64) → Option Nat → Prop} (h : RR I J) (hnp : n ≤ p) (hp600 : p ≤ 600) (e441 : I 44 1 = nI p) (hy : y ≤ 27) (et : I 51 0 = nI 1) (hP : ∀ v I2 J2 T2, RR I2 J2 → P v v I2 J2 T2) : wp_X7_understands_r68 (nI n) I J T (fun v13 I13 J13 T13 => ((v13 = 0 → wp_X11_refuse 9 I13 J13 T13 (fun v16 I16 J16 T16 => wp_X12_treaty (nI n) (nI y) I16 J16 T16 (fun w I2 J2 T2 => P v16 w I2 J2 T2))) ∧ (¬ v13 = 0 → wp_X8_add (nI y) (ix_u2 I13 0 0 0) J13 T13 (fun v17 I17 J17 T17 => wp_X12_treaty (nI n) (nI y) I17 J17 T17 (fun w I2 J2 T2 => P v17 w I2 J2 T2))))) := by
  obtain ⟨p', hp6, tp1, tp2, tp3⟩ := h.tape
  have epp : p' = p := (nI_eq (by omega) (by omega)).mp (tp1.symm.trans e441)
  subst epp
  obtain ⟨t, S, O, ht4, tc, tz, esg, hS, eon, hO, H⟩ := h.trty
  have tt : t = 1 := (nI_eq (by omega) (by omega)).mp (tc.symm.trans et)
  subst tt
  have hn : n ≤ 600 := by omega
  have hb : ∀ q, q < n → I 45 q = I 45 q ∧ (I 45 q).toInt8.toInt32 = I 45 q := fun q hq => ⟨rfl, (tp3 q (by omega)).2⟩
  obtain ⟨L, hL, hL1, hL2⟩ := yL_ex (I 45) n
  have hv : ∀ c, yk (I 45) n c = 20 → ∃ m : Nat, m ≤ 9999999 ∧ yv (I 45) n c = lZ m := yv_ok (fun q hq => (hb q hq).2)
  -- the reference, in a memory I1 that differs from I in the class alone
  have model : ∀ (v : Int32) (I1 : Nat → Nat → Int32) (J1 : Nat → Nat → Int64) (T1 : Option Nat), (∀ a, 204 ≤ a → I1 a = I a) → (∀ kk c' I2 J2, ycs (yk (I 45) n) (yv (I 45) n) (yn (I 45) n) 13 0 [] = .inl (kk, c') → fr_off yDT I1 I2 → fr_off yEC J1 J2 → I2 204 15 = 0 → I2 204 20 = yft (I 45) n c' kk → I2 204 21 = nI (yps (I 45) n c') → I2 204 44 = nI S → I2 204 45 = nI O → I2 204 24 = nI 1 → I2 204 0 = 9 → ylow S O 1 I1 J1 I2 J2 → I2 215 = I1 215 → P v (-1) I2 J2 T1) → (∀ q2 c' o2 w2 I2 J2, ycs (yk (I 45) n) (yv (I 45) n) (yn (I 45) n) 13 0 [] = .inr q2 → q2.length ≤ 12 → c' ≤ L → fr_off yDT I1 I2 → fr_off yEC J1 J2 → I2 204 15 = 0 → I2 204 20 = 0 → I2 204 21 = -1 → I2 204 24 = nI (1 + 1) → I2 204 0 = 0 → I2 215 1 = nI y → (∀ j, j ≠ 1 → I2 215 j = I1 215 j) → o2.length ≤ c' → 3 * w2.length ≤ c' → I2 204 44 = nI (S + o2.length) → (∀ i x, o2[i]? = some x → I2 232 (S + i) = x.1 ∧ J2 233 (S + i) = x.2) → yM2 S O I1 w2 I2 → I2 216 1 = nI q2.length → (∀ i x, q2[i]? = some x → yC1 (I 45) n S O 1 o2 w2 x i I2 J2) → ylow S O 1 I1 J1 I2 J2 → P v (nI 1) I2 J2 T1) → wp_X12_treaty (nI n) (nI y) I1 J1 T1 (fun w I2 J2 T2 => P v w I2 J2 T2) := by
    intro v I1 J1 T1 em mb mg
    have m15 : I1 204 15 = nI p' := by rw [em 204 (Nat.le_refl _)]; exact tp2
    have m24 : I1 204 24 = nI 1 := by rw [em 204 (Nat.le_refl _)]; exact tz
    unfold wp_X12_treaty
    rw [m15, m24]
    have n0 : ∀ {k : Nat}, k < 2147483648 → ¬ nI k < 0 := fun {k} hk z => by
      rw [Int32.lt_iff_toInt_lt, nI_toInt (by omega)] at z
      have z : (k : Int) < 0 := z
      omega
    refine ⟨fun z => absurd z (n0 (by omega)), fun _ => ⟨fun _ => ⟨fun z => absurd z (n0 (by omega)), fun _ => ⟨fun _ => ⟨fun z => absurd z (by decide), fun _ => ?_⟩, fun z => absurd ((yi_le (b := 27) (by omega) (by omega)).mpr hy) z⟩⟩, fun z => absurd ((yi_le (by omega) (by omega)).mpr hnp) z⟩⟩
    refine yg_tr (b := I 45) hL hn hL1 hv m24 (by decide) (by rw [em 204 (Nat.le_refl _)]; exact esg) (by omega) (by rw [em 204 (Nat.le_refl _)]; exact eon) (by omega) (fun q hq => ⟨?_, (hb q hq).2⟩) mb mg
    rw [em 213 (by decide)]
    exact ((tp3 q (by omega)).1).symm
  unfold wp_X7_understands_r68 wp_J9_min_7cf53 wp_X9_clear_68
  refine ⟨fun _ => ?_, fun z => absurd ((yi_le (b := 600) (by omega) (by omega)).mpr hn) z⟩
  have o1 : fr_off yDU68 I (ix_u2 (ix_u2 (ix_u2 (ix_u2 (ix_u2 (ix_u2 I 44 2 (nI n)) 44 1 0) 68 0 0) 68 1 0) 44 10 0) 44 11 (-1)) := fr_put rfl (fr_put rfl (fr_put rfl (fr_put rfl (fr_put rfl (fr_put rfl fr_refl)))))
  refine yf_tk (b := I 45) (n := n) (L := L) hn hL hL1 hL2 (fun q hq => ⟨?_, (hb q hq).2⟩) (by simp [u2_e]) (fun I3 J3 o3 r3 e7 tk => ?_)
  · rw [fr_rw1 o1 45 rfl]
  · intro V hV
    have z8 : (ix_u2 (ix_u2 I3 44 8 0) 44 9 (I3 46 0)) 44 8 = nI 0 := by simp [u2_e]; rfl
    have z9 : (ix_u2 (ix_u2 I3 44 8 0) 44 9 (I3 46 0)) 44 9 = yk (I 45) n 0 := by simp [u2_e]; exact (tk 0 (by omega)).1
    have z10 : (ix_u2 (ix_u2 I3 44 8 0) 44 9 (I3 46 0)) 44 10 = 0 := by
      have : I3 44 10 = 0 := by rw [fr_at 44 10 o3 rfl]; simp [u2_e]
      simp [u2_e, this]
    have z11 : (ix_u2 (ix_u2 I3 44 8 0) 44 9 (I3 46 0)) 44 11 = -1 := by
      have : I3 44 11 = -1 := by rw [fr_at 44 11 o3 rfl]; simp [u2_e]
      simp [u2_e, this]
    have z7 : (ix_u2 (ix_u2 I3 44 8 0) 44 9 (I3 46 0)) 44 7 = nI (L + 1) := by simp [u2_e]; exact e7
    have z1 : (ix_u2 (ix_u2 I3 44 8 0) 44 9 (I3 46 0)) 68 1 = nI ([] : List Int32).length := by
      have : I3 68 1 = 0 := by rw [fr_at 68 1 o3 rfl]; simp [u2_e]
      simp [u2_e, this]; rfl
    have z0 : (ix_u2 (ix_u2 I3 44 8 0) 44 9 (I3 46 0)) 68 0 = nI ([] : List YC).length := by
      have : I3 68 0 = 0 := by rw [fr_at 68 0 o3 rfl]; simp [u2_e]
      simp [u2_e, this]; rfl
    have zt : (ix_u2 (ix_u2 I3 44 8 0) 44 9 (I3 46 0)) 44 1 = 0 := by
      have : I3 44 1 = 0 := by rw [fr_at 44 1 o3 rfl]; simp [u2_e]
      simp [u2_e, this]
    have O3 : fr_off yDU68 I (ix_u2 (ix_u2 I3 44 8 0) 44 9 (I3 46 0)) := fr_put rfl (fr_put rfl (fr_trans o1 (fr_mono (by decide) o3)))
    have R3 : fr_off yEU68 J J3 := fr_mono (by decide) r3
    refine yf_un68 (I0 := ix_u2 (ix_u2 I3 44 8 0) 44 9 (I3 46 0)) (J0 := J3) hL hn hL1 hv hV 13 0 [] [] _ J3 rfl (by simp) (by simp) ⟨fr_refl, ytok_u68 (ytok_u68 tk (by decide) (by decide)) (by decide) (by decide), z7, z8, Nat.zero_le _, z9, z10, z1, fun i x hx => (by cases hx), z11⟩ ⟨z0, fun i x hx => (by cases hx)⟩ fr_refl (fun kk c' I4 J4 es q1 q2 q3 q4 => ⟨fun _ => ?_, fun z => absurd rfl z⟩) (fun q2 cd c' I4 J4 es hq2 hcd hB hE r4 => ⟨fun z => absurd z (by decide), fun _ => ?_⟩)
    · -- a fault
      unfold wp_X11_refuse
      have O4 : fr_off yDU68 I I4 := fr_trans O3 (fr_mono (by decide) q1)
      have o5 : fr_off [(0, 1, 0, 1)] I4 (ix_u2 I4 0 0 9) := fr_put rfl fr_refl
      have em : ∀ a, 204 ≤ a → (ix_u2 I4 0 0 9) a = I a := fun a ha => by
        rw [u2_r (by omega)]
        funext j
        have k1 : I4 a j = (ix_u2 (ix_u2 I3 44 8 0) 44 9 (I3 46 0)) a j := q1 a j (by simp [yDG68, fr_in, fr_1]; omega)
        rw [k1, u2_c (by omega), u2_c (by omega)]
        have k2 := o3 a j (by simp [fr_in, fr_1]; omega)
        rw [k2, u2_c (by omega), u2_c (by omega), u2_c (by omega), u2_c (by omega), u2_c (by omega), u2_c (by omega)]
      have t4 : I4 44 1 = 0 := by rw [fr_at 44 1 q1 rfl]; exact zt
      refine model _ _ _ _ em (fun k2 c2 I6 J6 es2 d1 d2 g15 g20 g21 g44 g45 g24 g0 lo g215 => ?_) (fun q2 c2 o2 w2 I6 J6 es2 => by rw [es] at es2; cases es2)
      rw [es] at es2
      have ek := congrArg Prod.fst (Sum.inl.inj es2)
      have ec := congrArg Prod.snd (Sum.inl.inj es2)
      simp only at ek ec
      rw [← ek, ← ec] at g20
      rw [← ec] at g21
      have d1c : ∀ a j, a < 204 → I6 a j = (ix_u2 I4 0 0 9) a j := fun a j ha => d1 a j (by simp [yDT, fr_in, fr_1]; omega)
      have O6 : fr_off yDU68 I I6 := fr_trans O4 (fr_trans (fr_mono (by decide) o5) (fr_mono (by decide) d1))
      have R6 : fr_off yEU68 J J6 := fr_trans R3 (fr_trans (fr_mono (by decide) q2) (fr_mono (by decide) d2))
      have lo2 : ylow S O 1 I J I6 J6 := by
        obtain ⟨l1, l2, l3, l4⟩ := lo
        have j233 : J4 233 = J 233 := by rw [fr_rw1 q2 233 rfl, fr_rw1 r3 233 rfl]
        refine ⟨fun j hj => ?_, fun a j h1 h2 h3 => ?_, fun a j h1 h2 h3 => ?_, fun j hj => ?_⟩
        · have := l1 j hj
          rw [em 232 (by decide), j233] at this
          exact this
        · rw [l2 a j h1 h2 h3, em a (by omega)]
        · rw [l3 a j h1 h2 h3, em a (by omega)]
        · rw [l4 j hj, em 216 (by decide)]
      refine hP _ _ _ _ (rk_trt68 h O6 R6 ?_ ⟨0, by omega, ?_, g15, fun k hk => by omega⟩ ⟨?_, ?_⟩ ⟨1, S, O, by decide, ?_, g24, g44, hS, g45, hO, ytr_old (by decide) H (fun r h1 h2 => ?_) (fun k hk => ?_) (fun k hk => ?_) lo2 (Nat.le_refl _) (Nat.le_refl _)⟩)
      · show I6 0 0 = I6 204 0
        rw [d1c 0 0 (by decide), g0]; simp [u2_e]
      · rw [d1c 44 1 (by decide), u2_c (by decide)]; exact t4
      · show I6 44 10 = I6 204 20
        rw [d1c 44 10 (by decide), u2_c (by decide), g20]; exact q3
      · show I6 44 11 = I6 204 21
        rw [d1c 44 11 (by decide), u2_c (by decide), g21]; exact q4
      · have k1 : I4 51 0 = I 51 0 := by rw [fr_at 51 0 q1 rfl, u2_c (by decide), u2_c (by decide), fr_at 51 0 o3 rfl]; simp [u2_e]
        rw [d1c 51 0 (by decide), u2_c (by decide), k1]; exact tc
      · exact fr_row O6 (show fr_rw yDU68 54 68 = true from rfl) (by omega) (by omega)
      · have k1 : I4 53 = I 53 := by rw [fr_rw1 q1 53 rfl, u2_r (by decide), u2_r (by decide), fr_rw1 o3 53 rfl, u2_r (by decide), u2_r (by decide), u2_r (by decide), u2_r (by decide), u2_r (by decide), u2_r (by decide)]
        rw [d1c 53 k (by decide), u2_c (by decide), k1]
      · rw [g215, em 215 (by decide)]
    · -- a treaty more
      have q1 := hB.1
      have O4 : fr_off yDU68 I I4 := fr_trans O3 (fr_mono (by decide) q1)
      have t51 : I4 51 0 = nI 1 := by rw [fr_at 51 0 q1 rfl, u2_c (by decide), u2_c (by decide), fr_at 51 0 o3 rfl]; simp [u2_e]; exact tc
      have t53 : I4 53 = I 53 := by rw [fr_rw1 q1 53 rfl, u2_r (by decide), u2_r (by decide), fr_rw1 o3 53 rfl, u2_r (by decide), u2_r (by decide), u2_r (by decide), u2_r (by decide), u2_r (by decide), u2_r (by decide)]
      have x51 : (ix_u2 I4 0 0 0) 51 0 = nI 1 := by rw [u2_c (by decide)]; exact t51
      have t4 : I4 44 1 = 0 := by rw [fr_at 44 1 q1 rfl]; exact zt
      have hc' := hB.2.2.2.2.1
      unfold wp_X8_add
      rw [x51, nI_clamp (show 1 < 2 ^ 31 by decide), nI_1, nI_s1]
      refine ⟨by decide, ?_⟩
      have o5 : fr_off [(0, 1, 0, 1), (51, 52, 0, 1), (53, 54, 0, 2147483648)] I4 (ix_u2 (ix_u2 (ix_u2 I4 0 0 0) 53 1 (nI y)) 51 0 (nI (1 + 1))) := fr_put rfl (fr_putn rfl (by decide) (fr_put rfl fr_refl))
      have em : ∀ a, 204 ≤ a → (ix_u2 (ix_u2 (ix_u2 I4 0 0 0) 53 1 (nI y)) 51 0 (nI (1 + 1))) a = I a := fun a ha => by
        rw [u2_r (by omega), u2_r (by omega), u2_r (by omega)]
        funext j
        have k1 : I4 a j = (ix_u2 (ix_u2 I3 44 8 0) 44 9 (I3 46 0)) a j := q1 a j (by simp [yDG68, fr_in, fr_1]; omega)
        rw [k1, u2_c (by omega), u2_c (by omega)]
        have k2 := o3 a j (by simp [fr_in, fr_1]; omega)
        rw [k2, u2_c (by omega), u2_c (by omega), u2_c (by omega), u2_c (by omega), u2_c (by omega), u2_c (by omega)]
      refine model _ _ _ _ em (fun k2 c2 I6 J6 es2 => by rw [es] at es2; cases es2) (fun q3 c2 o2 w2 I6 J6 es2 hq3 hc2 d1 d2 g15 g20 g21 g24 g0 gy g215 ho2 hw2 g44 gs gw g216 gC lo => ?_)
      rw [es] at es2
      have eq : q2 = q3 := Sum.inr.inj es2
      subst eq
      have wx := ycs_w hv _ _ _ _ (fun x hx => by cases hx) es
      have d1c : ∀ a j, a < 204 → I6 a j = (ix_u2 (ix_u2 (ix_u2 I4 0 0 0) 53 1 (nI y)) 51 0 (nI (1 + 1))) a j := fun a j ha => d1 a j (by simp [yDT, fr_in, fr_1]; omega)
      have O6 : fr_off yDU68 I I6 := fr_trans O4 (fr_trans (fr_mono (by decide) o5) (fr_mono (by decide) d1))
      have R6 : fr_off yEU68 J J6 := fr_trans R3 (fr_trans (fr_mono (by decide) r4) (fr_mono (by decide) d2))
      have lo2 : ylow S O 1 I J I6 J6 := by
        obtain ⟨l1, l2, l3, l4⟩ := lo
        have j233 : J4 233 = J 233 := by rw [fr_rw1 r4 233 rfl, fr_rw1 r3 233 rfl]
        refine ⟨fun j hj => ?_, fun a j h1 h2 h3 => ?_, fun a j h1 h2 h3 => ?_, fun j hj => ?_⟩
        · have := l1 j hj
          rw [em 232 (by decide), j233] at this
          exact this
        · rw [l2 a j h1 h2 h3, em a (by omega)]
        · rw [l3 a j h1 h2 h3, em a (by omega)]
        · rw [l4 j hj, em 216 (by decide)]
      have cls : ∀ a j, 68 ≤ a → a ≤ 75 → I6 a j = I4 a j := fun a j h1 h2 => by
        rw [d1c a j (by omega), u2_c (by omega), u2_c (by omega), u2_c (by omega)]
      have old := ytr_old (I5 := I6) (J5 := J6) (S2 := S + o2.length) (O2 := O + w2.length) (by decide) H (fun r h1 h2 => fr_row O6 (show fr_rw yDU68 54 68 = true from rfl) (by omega) (by omega)) (fun k hk => by
        rw [d1c 53 k (by decide), u2_c (by decide), u2_j (by omega), u2_c (by decide), t53]) (fun k hk => by rw [g215 k (by omega), em 215 (by decide)]) lo2 (by omega) (by omega)
      refine hP _ _ _ _ (rk_trt68 h O6 R6 ?_ ⟨0, by omega, ?_, g15, fun k hk => by omega⟩ ⟨?_, ?_⟩ ⟨1 + 1, S + o2.length, O + w2.length, by decide, ?_, g24, g44, by omega, gw.1, by omega, fun k hk => ?_⟩)
      · show I6 0 0 = I6 204 0
        rw [d1c 0 0 (by decide), g0]; simp [u2_e]
      · rw [d1c 44 1 (by decide), u2_c (by decide), u2_c (by decide), u2_c (by decide)]; exact t4
      · show I6 44 10 = I6 204 20
        rw [d1c 44 10 (by decide), u2_c (by decide), u2_c (by decide), u2_c (by decide), g20]; exact hB.2.2.2.2.2.2.1
      · show I6 44 11 = I6 204 21
        rw [d1c 44 11 (by decide), u2_c (by decide), u2_c (by decide), u2_c (by decide), g21]; exact hB.2.2.2.2.2.2.2.2.2
      · rw [d1c 51 0 (by decide)]; simp [u2_e]
      · by_cases ek : k = 1
        · subst ek
          refine ⟨⟨y, hy, ?_, gy⟩, q2.length, hq2, ?_, g216, fun i hi => ?_⟩
          · rw [d1c 53 1 (by decide)]; simp [u2_e]
          · show I6 68 0 = _
            rw [cls 68 0 (by decide) (by decide)]; exact hE.1
          · obtain ⟨x, hxi⟩ : ∃ x, q2[i]? = some x := ⟨q2[i]'(by omega), List.getElem?_eq_getElem (by omega)⟩
            obtain ⟨⟨c1, c2', c3, te, c4, c5, c6, c7, c8⟩, -⟩ := hE.2 i x hxi
            obtain ⟨-, -, z1', z2, z3, a, pp, sA, z4, z5, z6, z7', z8', z9', z10', z11'⟩ := gC i x hxi
            have lo6 : cd.length ≤ 600 := by omega
            refine tcl_new (cd := cd) (o := o2) (w := w2) (t0 := te) (a := a) (p := pp) (s0 := sA) (wx x (List.mem_of_getElem? hxi)) gs gw.2.1 (by omega) (fun j z e => ?_) lo6 ?_ ?_ ?_ ?_ ?_ ?_ c7 c8 z1' z2 z3 z4 z5 z6 z7' z8' z9' z10' z11'
            · show I6 75 j = z
              rw [cls 75 j (by decide) (by decide)]; exact hB.2.2.2.2.2.2.2.2.1 j z e
            · show I6 69 i = _
              rw [cls 69 i (by decide) (by decide)]; exact c1
            · show I6 70 i = _
              rw [cls 70 i (by decide) (by decide)]; exact c2'
            · show I6 71 i = _
              rw [cls 71 i (by decide) (by decide)]; exact c3
            · show I6 72 i = _
              rw [cls 72 i (by decide) (by decide)]; exact c4
            · show I6 73 i = _
              rw [cls 73 i (by decide) (by decide)]; exact c5
            · show I6 74 i = _
              rw [cls 74 i (by decide) (by decide)]; exact c6
        · exact old k (by omega)
