/-! treaties: the reference's call -/
def yDT : List fr_R := [(204, 205, 0, 1), (204, 205, 15, 23), (204, 205, 24, 25), (204, 205, 44, 46), (214, 224, 0, 2147483648), (225, 233, 0, 2147483648), (234, 237, 0, 2147483648)]
set_option maxHeartbeats 4000000 in
theorem yg_tr {b : Nat → Int32} {n L S O t : Nat} {a1 : Int32} (hL : L ≤ n) (hn : n ≤ 600) (hL1 : yk b n L = 21 ∨ yk b n L = 22) (hv : ∀ c, yk b n c = 20 → ∃ m : Nat, m ≤ 9999999 ∧ yv b n c = lZ m) {I : Nat → Nat → Int32} {J : Nat → Nat → Int64} {T : Option Nat} {P : Int32 → (Nat → Nat → Int32) → (Nat → Nat → Int64) → Option Nat → Prop} (e24 : I 204 24 = nI t) (ht : t < 4) (e44 : I 204 44 = nI S) (hS : S ≤ 1800) (e45 : I 204 45 = nI O) (hO : O ≤ 600) (hb : ∀ q, q < n → I 213 q = b q ∧ (b q).toInt8.toInt32 = b q) (hbad : ∀ kk c' I2 J2, ycs (yk b n) (yv b n) (yn b n) 13 0 [] = .inl (kk, c') → fr_off yDT I I2 → fr_off yEC J J2 → I2 204 15 = 0 → I2 204 20 = yft b n c' kk → I2 204 21 = nI (yps b n c') → I2 204 44 = nI S → I2 204 45 = nI O → I2 204 24 = nI t → I2 204 0 = 9 → ylow S O t I J I2 J2 → I2 215 = I 215 → P (-1) I2 J2 T) (hok : ∀ q2 c' o2 w2 I2 J2, ycs (yk b n) (yv b n) (yn b n) 13 0 [] = .inr q2 → q2.length ≤ 12 → c' ≤ L → fr_off yDT I I2 → fr_off yEC J J2 → I2 204 15 = 0 → I2 204 20 = 0 → I2 204 21 = -1 → I2 204 24 = nI (t + 1) → I2 204 0 = 0 → I2 215 t = a1 → (∀ j, j ≠ t → I2 215 j = I 215 j) → o2.length ≤ c' → 3 * w2.length ≤ c' → I2 204 44 = nI (S + o2.length) → (∀ i x, o2[i]? = some x → I2 232 (S + i) = x.1 ∧ J2 233 (S + i) = x.2) → yM2 S O I w2 I2 → I2 216 t = nI q2.length → (∀ i x, q2[i]? = some x → yC1 b n S O t o2 w2 x i I2 J2) → ylow S O t I J I2 J2 → P (nI t) I2 J2 T) : wl_X12_treaty_49 (nI n) a1 0 (ix_u2 I 204 16 (nI n)) J T P := by
  intro V hV
  have dt : (nI t).toNatClampNeg = t := nI_clamp (by omega)
  have it : ix_inb (nI t) 5 = true := nI_in2 (by omega) (by decide)
  have key : ∀ m k I1, k + m = n → fr_off [(204, 205, 16, 17), (214, 215, 0, 2147483648)] I I1 → I1 204 16 = nI n → (∀ j, j < k → I1 214 j = b j) → V (nI n) a1 (nI k) I1 J T := by
    intro m
    induction m with
    | zero =>
      intro k I1 hk o1 e16 hc
      have hk : k = n := by omega
      subst hk
      have f24 : I1 204 24 = nI t := by rw [fr_at 204 24 o1 rfl]; exact e24
      have f44 : I1 204 44 = nI S := by rw [fr_at 204 44 o1 rfl]; exact e44
      have f45 : I1 204 45 = nI O := by rw [fr_at 204 45 o1 rfl]; exact e45
      apply hV
      unfold wb_X12_treaty_49
      rw [f24, f44, f45, dt]
      refine ⟨fun z => absurd ((yi_lt (by omega) (by omega)).mp z) (by omega), fun _ => ⟨it, ?_⟩⟩
      have o3 : fr_off [(204, 205, 15, 16), (204, 205, 19, 20), (204, 205, 21, 23), (216, 217, 0, 2147483648)] I1 (ix_u2 (ix_u2 (ix_u2 (ix_u2 (ix_u2 I1 204 15 0) 204 22 0) 204 21 (-1)) 204 19 0) 216 t 0) := fr_putn rfl (by omega) (fr_put rfl (fr_put rfl (fr_put rfl (fr_put rfl fr_refl))))
      have x3 : ytx b k (ix_u2 (ix_u2 (ix_u2 (ix_u2 (ix_u2 I1 204 15 0) 204 22 0) 204 21 (-1)) 204 19 0) 216 t 0) := by
        refine ⟨hn, ⟨by simp [u2_e, e16], by simp [u2_e]⟩, fun q hq => ⟨?_, (hb q hq).2⟩⟩
        rw [fr_rw1 o3 214 rfl]; exact hc q hq
      refine yg_nx (p := 0) x3 (Nat.zero_le _) (by simp [u2_e]; rfl) (fun I4 J4 o4 r4 m4 => ?_)
      intro U hU
      have g24 : I4 204 24 = nI t := by rw [fr_at 204 24 o4 rfl, fr_at 204 24 o3 rfl]; exact f24
      have g44 : I4 204 44 = nI S := by rw [fr_at 204 44 o4 rfl, fr_at 204 44 o3 rfl]; exact f44
      have g45 : I4 204 45 = nI O := by rw [fr_at 204 45 o4 rfl, fr_at 204 45 o3 rfl]; exact f45
      have g15 : I4 204 15 = 0 := by rw [fr_at 204 15 o4 rfl]; simp [u2_e]
      have row : ∀ a, 217 ≤ a → a ≤ 236 → I4 a = I a := fun a h1 h2 => by
        rw [fr_row o4 (show fr_rw [(204, 205, 17, 20)] 217 237 = true from rfl) h1 (by omega), fr_row o3 (show fr_rw [(204, 205, 15, 16), (204, 205, 19, 20), (204, 205, 21, 23), (216, 217, 0, 2147483648)] 217 237 = true from rfl) h1 (by omega), fr_row o1 (show fr_rw [(204, 205, 16, 17), (214, 215, 0, 2147483648)] 217 237 = true from rfl) h1 (by omega)]
      have r215 : I4 215 = I 215 := by rw [fr_rw1 o4 215 rfl, fr_rw1 o3 215 rfl, fr_rw1 o1 215 rfl]
      have j233 : J4 233 = J 233 := fr_rw1 r4 233 rfl
      have O4 : fr_off yDT I I4 := fr_trans (fr_mono (by decide) o1) (fr_trans (fr_mono (by decide) o3) (fr_mono (by decide) o4))
      have E4 : fr_off yEC J J4 := fr_mono (by decide) r4
      have M4 : yM4 b k S O t I J 0 [] [] [] I4 J4 := by
        refine ⟨⟨ytx_fr o4 x3 rfl rfl, m4, ?_, ?_, ?_, ?_⟩, ⟨?_, ?_, ?_⟩, g24, ?_, ?_, ?_, ?_⟩
        · rw [fr_at 204 22 o4 rfl]; simp [u2_e]
        · exact g44
        · intro i x hx; cases hx
        · intro j _; rw [row 232 (by omega) (by omega), j233]; exact ⟨rfl, rfl⟩
        · exact g45
        · intro i x hx; cases hx
        · intro a j h1 h2 _; rw [row a (by omega) (by omega)]
        · rw [fr_rw1 o4 216 rfl]; simp [u2_e]; rfl
        · intro i x hx; cases hx
        · intro a j h1 h2 _; rw [row a h1 (by omega)]
        · intro j hj; rw [fr_rw1 o4 216 rfl, u2_j hj, u2_c (by decide), u2_c (by decide), u2_c (by decide), u2_c (by decide), fr_rw1 o1 216 rfl]
      refine yg_tl (M := S) hL ⟨hn, hS⟩ hL1 hv hO ht hU 13 0 [] [] [] I4 J4 rfl (by simp) (Nat.zero_le _) (by simp) (by simp) M4 fr_refl fr_refl (fun kk c' I5 J5 es q1 q2 f1 f2 lo => ?_) (fun q2 c' o2 w2 I5 J5 es hq2 hc' q1 q3 s5 w5 m5 => ?_)
      · unfold wp_X12_refuse
        have o6 : fr_off yDT I5 (ix_u2 (ix_u2 (ix_u2 (ix_u2 I5 204 20 (I5 204 22)) 204 44 (nI S)) 204 45 (nI O)) 204 0 9) := fr_put rfl (fr_put rfl (fr_put rfl (fr_put rfl fr_refl)))
        refine hbad kk c' _ J5 es (fr_trans O4 (fr_trans (fr_mono (by decide) q1) o6)) (fr_trans E4 q2) ?_ ?_ ?_ ?_ ?_ ?_ ?_ ?_ ?_
        · have : I5 204 15 = 0 := by rw [fr_at 204 15 q1 rfl]; exact g15
          simp [u2_e, this]
        · simp [u2_e, f1]
        · simp [u2_e, f2]
        · simp [u2_e]
        · simp [u2_e]
        · have : I5 204 24 = nI t := by rw [fr_at 204 24 q1 rfl]; exact g24
          simp [u2_e, this]
        · simp [u2_e]
        · obtain ⟨l1, l2, l3, l4⟩ := lo
          refine ⟨fun j hj => ?_, fun a j h1 h2 h3 => ?_, fun a j h1 h2 h3 => ?_, fun j hj => ?_⟩
          · rw [u2_c (by decide), u2_c (by decide), u2_c (by decide), u2_c (by decide)]; exact l1 j hj
          · rw [u2_c (by omega), u2_c (by omega), u2_c (by omega), u2_c (by omega)]; exact l2 a j h1 h2 h3
          · rw [u2_c (by omega), u2_c (by omega), u2_c (by omega), u2_c (by omega)]; exact l3 a j h1 h2 h3
          · rw [u2_c (by decide), u2_c (by decide), u2_c (by decide), u2_c (by decide)]; exact l4 j hj
        · rw [u2_r (by decide), u2_r (by decide), u2_r (by decide), u2_r (by decide), fr_rw1 q1 215 rfl]; exact r215
      · have h24 := m5.2.2.1
        have h22 := m5.1.2.2.1
        rw [h24, dt, h22, nI_1, nI_s1]
        refine ⟨it, ?_⟩
        unfold wp_X12_gives
        have o6 : fr_off [(204, 205, 0, 1), (204, 205, 20, 21), (204, 205, 24, 25), (215, 216, 0, 2147483648)] I5 (ix_u2 (ix_u2 (ix_u2 (ix_u2 I5 204 20 0) 215 t a1) 204 24 (nI (t + 1))) 204 0 0) := fr_put rfl (fr_put rfl (fr_putn rfl (by omega) (fr_put rfl fr_refl)))
        have row5 : ∀ a, 216 ≤ a → a ≤ 236 → (ix_u2 (ix_u2 (ix_u2 (ix_u2 I5 204 20 0) 215 t a1) 204 24 (nI (t + 1))) 204 0 0) a = I5 a := fun a h1 h2 => fr_row o6 (show fr_rw [(204, 205, 0, 1), (204, 205, 20, 21), (204, 205, 24, 25), (215, 216, 0, 2147483648)] 216 237 = true from rfl) h1 (by omega)
        refine hok q2 c' o2 w2 _ J5 es hq2 hc' (fr_trans O4 (fr_trans (fr_mono (by decide) q1) (fr_mono (by decide) o6))) (fr_trans E4 q3) ?_ ?_ ?_ ?_ ?_ ?_ ?_ (by omega) w5 ?_ ?_ ?_ ?_ ?_ ?_
        · have : I5 204 15 = 0 := by rw [fr_at 204 15 q1 rfl]; exact g15
          simp [u2_e, this]
        · simp [u2_e]
        · have := m5.1.1.2.1.2
          simp [u2_e, this]
        · simp [u2_e]
        · simp [u2_e]
        · simp [u2_e]
        · intro j hj
          rw [u2_c (by decide), u2_c (by decide), u2_j hj, u2_c (by decide), fr_rw1 q1 215 rfl, r215]
        · have := m5.1.2.2.2.1
          simp [u2_e, this]
        · rw [row5 232 (by omega) (by omega)]; exact m5.1.2.2.2.2.1
        · exact yM2_fr m5.2.1 o6 rfl
        · rw [row5 216 (by omega) (by omega)]; exact m5.2.2.2.1
        · intro i x hx
          exact yC1_to (m5.2.2.2.2.1 i x hx) (fun a h1 h2 => by rw [row5 a (by omega) (by omega)]) rfl (fun _ _ hy => hy) (fun _ _ hy => hy) (Nat.le_refl _)
        · refine ⟨fun j hj => ?_, fun a j h1 h2 h3 => ?_, fun a j h1 h2 h3 => ?_, fun j hj => ?_⟩
          · rw [row5 232 (by omega) (by omega)]; exact m5.1.2.2.2.2.2 j hj
          · rw [row5 a (by omega) (by omega)]; exact m5.2.1.2.2 a j h1 h2 h3
          · rw [row5 a (by omega) (by omega)]; exact m5.2.2.2.2.2.1 a j h1 h2 h3
          · rw [row5 216 (by omega) (by omega)]; exact m5.2.2.2.2.2.2 j hj
    | succ m ih =>
      intro k I1 hk o1 e16 hc
      have f213 : I1 213 k = b k := by rw [fr_rw1 o1 213 rfl]; exact (hb k (by omega)).1
      apply hV
      unfold wb_X12_treaty_49
      rw [nI_clamp (show k < 2 ^ 31 by omega), f213, (hb k (by omega)).2, nI_1]
      refine ⟨fun _ => ⟨nI_in2 (by omega) (by decide), nI_in2 (by omega) (by decide), ih (k + 1) _ (by omega) (fr_putn rfl (by omega) o1) (by rw [u2_c (by decide)]; exact e16) (fun j hj => ?_)⟩, fun z => absurd ((yi_lt (by omega) (by omega)).mpr (by omega)) z⟩
      by_cases e : j = k
      · rw [e]; simp [u2_e]
      · rw [u2_j e]; exact hc j (by omega)
  exact key n 0 _ (by omega) (fr_put rfl fr_refl) (by simp [u2_e]) (fun j hj => by omega)
theorem yv_ok {b : Nat → Int32} {n : Nat} (hb : ∀ q, q < n → (b q).toInt8.toInt32 = b q) (c : Nat) (h : yk b n c = 20) : ∃ m : Nat, m ≤ 9999999 ∧ yv b n c = lZ m := by
  refine ⟨_, ?_, rfl⟩
  have h7 : ye b n c - yps b n c ≤ 7 := by
    have h : ykd b n (yps b n c) = 20 := h
    by_cases e : yen b n (yps b n c) - yps b n c ≤ 7
    · exact e
    · exfalso
      unfold ykd at h
      split at h
      · exact absurd h (by decide)
      · split at h
        · exact (yS_w (ywk_le b _ _)).2 h
        · split at h
          · exact absurd h (by decide)
          · split at h
            · next g => rw [h] at g; exact absurd g (by decide)
            · exact absurd h (by decide)
  have h1 := ynm_lt (g := ydg b) (B := 10) (fun j => Nat.mod_lt _ (by decide)) (ye b n c - yps b n c) (yps b n c)
  have h2 : 10 ^ (ye b n c - yps b n c) ≤ 10 ^ 7 := Nat.pow_le_pow_right (by decide) h7
  omega
theorem bI_c {I I2 : Nat → Nat → Int32} {a m r : Nat} (h : I2 (a + r) = I (a + r)) : bI I2 a m r = bI I a m r := by
  funext j
  unfold bI
  rw [h]
/-- the treaties below t, in a later memory -/
theorem ytr_old {I I5 : Nat → Nat → Int32} {J J5 : Nat → Nat → Int64} {t S O S2 O2 : Nat} (ht : t ≤ 4) (H : ∀ k, k < t → (∃ y : Nat, y ≤ 27 ∧ I 53 k = nI y ∧ I 215 k = nI y) ∧ ∃ m : Nat, m ≤ 12 ∧ bI I 59 36 (9 * k) 0 = nI m ∧ I 216 k = nI m ∧ ∀ q, q < m → tr_cl (bI I 59 36 (9 * k + 1)) (bI I 59 36 (9 * k + 2)) (bI I 59 36 (9 * k + 3)) (bI I 59 36 (9 * k + 4)) (bI I 59 36 (9 * k + 5)) (bI I 59 36 (9 * k + 6)) (bI I 59 36 (9 * k + 7)) (I 217) (I 218) (I 219) (I 220) (I 221) (I 222) (I 223) (I 225) (I 226) (I 227) (I 228) (I 229) (I 230) (I 231) (I 232) (J 233) S O q (12 * k + q)) (hr : ∀ r, 59 ≤ r → r < 59 + 9 * t → I5 r = I r) (h53 : ∀ k, k < t → I5 53 k = I 53 k) (h215 : ∀ k, k < t → I5 215 k = I 215 k) (lo : ylow S O t I J I5 J5) (hS : S ≤ S2) (hO : O ≤ O2) : ∀ k, k < t → (∃ y : Nat, y ≤ 27 ∧ I5 53 k = nI y ∧ I5 215 k = nI y) ∧ ∃ m : Nat, m ≤ 12 ∧ bI I5 59 36 (9 * k) 0 = nI m ∧ I5 216 k = nI m ∧ ∀ q, q < m → tr_cl (bI I5 59 36 (9 * k + 1)) (bI I5 59 36 (9 * k + 2)) (bI I5 59 36 (9 * k + 3)) (bI I5 59 36 (9 * k + 4)) (bI I5 59 36 (9 * k + 5)) (bI I5 59 36 (9 * k + 6)) (bI I5 59 36 (9 * k + 7)) (I5 217) (I5 218) (I5 219) (I5 220) (I5 221) (I5 222) (I5 223) (I5 225) (I5 226) (I5 227) (I5 228) (I5 229) (I5 230) (I5 231) (I5 232) (J5 233) S2 O2 q (12 * k + q) := by
  intro k hk
  obtain ⟨⟨y, y1, y2, y3⟩, m, m1, m2, m3, m4⟩ := H k hk
  obtain ⟨l1, l2, l3, l4⟩ := lo
  have eb : ∀ r, r < 9 → bI I5 59 36 (9 * k + r) = bI I 59 36 (9 * k + r) := fun r h => bI_c (hr _ (by omega) (by omega))
  refine ⟨⟨y, y1, by rw [h53 k hk]; exact y2, by rw [h215 k hk]; exact y3⟩, m, m1, ?_, ?_, fun q hq => ?_⟩
  · have := eb 0 (by omega)
    rw [Nat.add_zero] at this
    rw [this]; exact m2
  · rw [l4 k (by omega)]; exact m3
  · rw [eb 1 (by omega), eb 2 (by omega), eb 3 (by omega), eb 4 (by omega), eb 5 (by omega), eb 6 (by omega), eb 7 (by omega)]
    have g : 12 * k + q < 12 * t := by omega
    refine tcl_old (m4 q hq) l1 hS hO (l3 217 _ (by decide) (by decide) g) (l3 218 _ (by decide) (by decide) g) (l3 219 _ (by decide) (by decide) g) (l3 220 _ (by decide) (by decide) g) (l3 221 _ (by decide) (by decide) g) (l3 222 _ (by decide) (by decide) g) (l3 223 _ (by decide) (by decide) g) (fun j hj => ⟨l2 225 _ (by decide) (by decide) hj, l2 226 _ (by decide) (by decide) hj, l2 227 _ (by decide) (by decide) hj, l2 228 _ (by decide) (by decide) hj, l2 229 _ (by decide) (by decide) hj, l2 230 _ (by decide) (by decide) hj, l2 231 _ (by decide) (by decide) hj⟩)
