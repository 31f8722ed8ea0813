theorem ix_iv0 : ix_in 2086 (.instantiable RX0 4) = true := by decide +kernel
theorem ix_jv0 : ix_in 1010 (.initialized RX0) = true := by decide +kernel
theorem ix_rv0 : ∀ sl, sl < 4 → ix_isK (tyX0 sl) = 2 → (tyX0 sl).isReference = true := by decide +kernel
theorem ix_bv0 : ∀ sl, sl < 4 → (ix_isK (tyX0 sl) = 0 → tyX0 sl = .int) ∧ (ix_isK (tyX0 sl) = 1 → tyX0 sl = .long) ∧ (ix_isK (tyX0 sl) = 3 → tyX0 sl = .boolean) ∧ ix_isK (tyX0 sl) < 4 := by decide +kernel
theorem ix_iv1 : ix_in 2106 (.instantiable RX1 15) = true := by decide +kernel
theorem ix_jv1 : ix_in 1011 (.initialized RX1) = true := by decide +kernel
theorem ix_rv1 : ∀ sl, sl < 15 → ix_isK (tyX1 sl) = 2 → (tyX1 sl).isReference = true := by decide +kernel
theorem ix_bv1 : ∀ sl, sl < 15 → (ix_isK (tyX1 sl) = 0 → tyX1 sl = .int) ∧ (ix_isK (tyX1 sl) = 1 → tyX1 sl = .long) ∧ (ix_isK (tyX1 sl) = 3 → tyX1 sl = .boolean) ∧ ix_isK (tyX1 sl) < 4 := by decide +kernel
theorem ix_iv2 : ix_in 2159 (.instantiable RX2 12) = true := by decide +kernel
theorem ix_jv2 : ix_in 1012 (.initialized RX2) = true := by decide +kernel
theorem ix_rv2 : ∀ sl, sl < 12 → ix_isK (tyX2 sl) = 2 → (tyX2 sl).isReference = true := by decide +kernel
theorem ix_bv2 : ∀ sl, sl < 12 → (ix_isK (tyX2 sl) = 0 → tyX2 sl = .int) ∧ (ix_isK (tyX2 sl) = 1 → tyX2 sl = .long) ∧ (ix_isK (tyX2 sl) = 3 → tyX2 sl = .boolean) ∧ ix_isK (tyX2 sl) < 4 := by decide +kernel
theorem ix_iv3 : ix_in 2204 (.instantiable RX3 4) = true := by decide +kernel
theorem ix_jv3 : ix_in 1013 (.initialized RX3) = true := by decide +kernel
theorem ix_rv3 : ∀ sl, sl < 4 → ix_isK (tyX3 sl) = 2 → (tyX3 sl).isReference = true := by decide +kernel
theorem ix_bv3 : ∀ sl, sl < 4 → (ix_isK (tyX3 sl) = 0 → tyX3 sl = .int) ∧ (ix_isK (tyX3 sl) = 1 → tyX3 sl = .long) ∧ (ix_isK (tyX3 sl) = 3 → tyX3 sl = .boolean) ∧ ix_isK (tyX3 sl) < 4 := by decide +kernel
theorem ix_iv4 : ix_in 2042 (.instantiable RX4 12) = true := by decide +kernel
theorem ix_jv4 : ix_in 1009 (.initialized RX4) = true := by decide +kernel
theorem ix_rv4 : ∀ sl, sl < 12 → ix_isK (tyX4 sl) = 2 → (tyX4 sl).isReference = true := by decide +kernel
theorem ix_bv4 : ∀ sl, sl < 12 → (ix_isK (tyX4 sl) = 0 → tyX4 sl = .int) ∧ (ix_isK (tyX4 sl) = 1 → tyX4 sl = .long) ∧ (ix_isK (tyX4 sl) = 3 → tyX4 sl = .boolean) ∧ ix_isK (tyX4 sl) < 4 := by decide +kernel
theorem ix_iv5 : ix_in 1032 (.instantiable RX5 9) = true := by decide +kernel
theorem ix_jv5 : ix_in 1002 (.initialized RX5) = true := by decide +kernel
theorem ix_rv5 : ∀ sl, sl < 9 → ix_isK (tyX5 sl) = 2 → (tyX5 sl).isReference = true := by decide +kernel
theorem ix_bv5 : ∀ sl, sl < 9 → (ix_isK (tyX5 sl) = 0 → tyX5 sl = .int) ∧ (ix_isK (tyX5 sl) = 1 → tyX5 sl = .long) ∧ (ix_isK (tyX5 sl) = 3 → tyX5 sl = .boolean) ∧ ix_isK (tyX5 sl) < 4 := by decide +kernel
theorem ix_iv6 : ix_in 1216 (.instantiable RX6 5) = true := by decide +kernel
theorem ix_jv6 : ix_in 1007 (.initialized RX6) = true := by decide +kernel
theorem ix_rv6 : ∀ sl, sl < 5 → ix_isK (tyX6 sl) = 2 → (tyX6 sl).isReference = true := by decide +kernel
theorem ix_bv6 : ∀ sl, sl < 5 → (ix_isK (tyX6 sl) = 0 → tyX6 sl = .int) ∧ (ix_isK (tyX6 sl) = 1 → tyX6 sl = .long) ∧ (ix_isK (tyX6 sl) = 3 → tyX6 sl = .boolean) ∧ ix_isK (tyX6 sl) < 4 := by decide +kernel
theorem ix_iv7 : ix_in 1078 (.instantiable RX7 19) = true := by decide +kernel
theorem ix_jv7 : ix_in 1004 (.initialized RX7) = true := by decide +kernel
theorem ix_rv7 : ∀ sl, sl < 19 → ix_isK (tyX7 sl) = 2 → (tyX7 sl).isReference = true := by decide +kernel
theorem ix_bv7 : ∀ sl, sl < 19 → (ix_isK (tyX7 sl) = 0 → tyX7 sl = .int) ∧ (ix_isK (tyX7 sl) = 1 → tyX7 sl = .long) ∧ (ix_isK (tyX7 sl) = 3 → tyX7 sl = .boolean) ∧ ix_isK (tyX7 sl) < 4 := by decide +kernel
theorem ix_iv8 : ix_in 1143 (.instantiable RX8 9) = true := by decide +kernel
theorem ix_jv8 : ix_in 1005 (.initialized RX8) = true := by decide +kernel
theorem ix_rv8 : ∀ sl, sl < 9 → ix_isK (tyX8 sl) = 2 → (tyX8 sl).isReference = true := by decide +kernel
theorem ix_bv8 : ∀ sl, sl < 9 → (ix_isK (tyX8 sl) = 0 → tyX8 sl = .int) ∧ (ix_isK (tyX8 sl) = 1 → tyX8 sl = .long) ∧ (ix_isK (tyX8 sl) = 3 → tyX8 sl = .boolean) ∧ ix_isK (tyX8 sl) < 4 := by decide +kernel
theorem ix_iv9 : ix_in 1150 (.instantiable RX9 10) = true := by decide +kernel
theorem ix_jv9 : ix_in 1006 (.initialized RX9) = true := by decide +kernel
theorem ix_rv9 : ∀ sl, sl < 10 → ix_isK (tyX9 sl) = 2 → (tyX9 sl).isReference = true := by decide +kernel
theorem ix_bv9 : ∀ sl, sl < 10 → (ix_isK (tyX9 sl) = 0 → tyX9 sl = .int) ∧ (ix_isK (tyX9 sl) = 1 → tyX9 sl = .long) ∧ (ix_isK (tyX9 sl) = 3 → tyX9 sl = .boolean) ∧ ix_isK (tyX9 sl) < 4 := by decide +kernel
theorem ix_iv10 : ix_in 1238 (.instantiable RX10 12) = true := by decide +kernel
theorem ix_jv10 : ix_in 1008 (.initialized RX10) = true := by decide +kernel
theorem ix_rv10 : ∀ sl, sl < 12 → ix_isK (tyX10 sl) = 2 → (tyX10 sl).isReference = true := by decide +kernel
theorem ix_bv10 : ∀ sl, sl < 12 → (ix_isK (tyX10 sl) = 0 → tyX10 sl = .int) ∧ (ix_isK (tyX10 sl) = 1 → tyX10 sl = .long) ∧ (ix_isK (tyX10 sl) = 3 → tyX10 sl = .boolean) ∧ ix_isK (tyX10 sl) < 4 := by decide +kernel
theorem ix_iv11 : ix_in 1022 (.instantiable RX11 16) = true := by decide +kernel
theorem ix_jv11 : ix_in 1001 (.initialized RX11) = true := by decide +kernel
theorem ix_rv11 : ∀ sl, sl < 16 → ix_isK (tyX11 sl) = 2 → (tyX11 sl).isReference = true := by decide +kernel
theorem ix_bv11 : ∀ sl, sl < 16 → (ix_isK (tyX11 sl) = 0 → tyX11 sl = .int) ∧ (ix_isK (tyX11 sl) = 1 → tyX11 sl = .long) ∧ (ix_isK (tyX11 sl) = 3 → tyX11 sl = .boolean) ∧ ix_isK (tyX11 sl) < 4 := by decide +kernel
theorem ix_iv12 : ix_in 7107 (.instantiable RX12 108) = true := by decide +kernel
theorem ix_jv12 : ix_in 1014 (.initialized RX12) = true := by decide +kernel
theorem ix_rv12 : ∀ sl, sl < 108 → ix_isK (tyX12 sl) = 2 → (tyX12 sl).isReference = true := by decide +kernel
theorem ix_bv12 : ∀ sl, sl < 108 → (ix_isK (tyX12 sl) = 0 → tyX12 sl = .int) ∧ (ix_isK (tyX12 sl) = 1 → tyX12 sl = .long) ∧ (ix_isK (tyX12 sl) = 3 → tyX12 sl = .boolean) ∧ ix_isK (tyX12 sl) < 4 := by decide +kernel
theorem ix_insv : ∀ ci : Nat, ci < 13 → Cond.instantiable (ix_cn ci) (ix_NN ci) ∈ ix_T ∧ Cond.initialized (ix_cn ci) ∈ ix_T := by
  intro ci hc
  match ci, hc with
  | 0, _ => exact ⟨ix_in_T ix_iv0, ix_in_T ix_jv0⟩
  | 1, _ => exact ⟨ix_in_T ix_iv1, ix_in_T ix_jv1⟩
  | 2, _ => exact ⟨ix_in_T ix_iv2, ix_in_T ix_jv2⟩
  | 3, _ => exact ⟨ix_in_T ix_iv3, ix_in_T ix_jv3⟩
  | 4, _ => exact ⟨ix_in_T ix_iv4, ix_in_T ix_jv4⟩
  | 5, _ => exact ⟨ix_in_T ix_iv5, ix_in_T ix_jv5⟩
  | 6, _ => exact ⟨ix_in_T ix_iv6, ix_in_T ix_jv6⟩
  | 7, _ => exact ⟨ix_in_T ix_iv7, ix_in_T ix_jv7⟩
  | 8, _ => exact ⟨ix_in_T ix_iv8, ix_in_T ix_jv8⟩
  | 9, _ => exact ⟨ix_in_T ix_iv9, ix_in_T ix_jv9⟩
  | 10, _ => exact ⟨ix_in_T ix_iv10, ix_in_T ix_jv10⟩
  | 11, _ => exact ⟨ix_in_T ix_iv11, ix_in_T ix_jv11⟩
  | 12, _ => exact ⟨ix_in_T ix_iv12, ix_in_T ix_jv12⟩
  | n + 13, hc => exact absurd hc (by omega)
theorem ix_refv : ∀ ci : Nat, ci < 13 → ∀ sl, sl < ix_NN ci → ix_isK (ix_tyy ci sl) = 2 → (ix_tyy ci sl).isReference = true := by
  intro ci hc
  match ci, hc with
  | 0, _ => exact ix_rv0
  | 1, _ => exact ix_rv1
  | 2, _ => exact ix_rv2
  | 3, _ => exact ix_rv3
  | 4, _ => exact ix_rv4
  | 5, _ => exact ix_rv5
  | 6, _ => exact ix_rv6
  | 7, _ => exact ix_rv7
  | 8, _ => exact ix_rv8
  | 9, _ => exact ix_rv9
  | 10, _ => exact ix_rv10
  | 11, _ => exact ix_rv11
  | 12, _ => exact ix_rv12
  | n + 13, hc => exact absurd hc (by omega)
theorem ix_basv : ∀ ci : Nat, ci < 13 → ∀ sl, sl < ix_NN ci → (ix_isK (ix_tyy ci sl) = 0 → ix_tyy ci sl = .int) ∧ (ix_isK (ix_tyy ci sl) = 1 → ix_tyy ci sl = .long) ∧ (ix_isK (ix_tyy ci sl) = 3 → ix_tyy ci sl = .boolean) ∧ ix_isK (ix_tyy ci sl) < 4 := by
  intro ci hc
  match ci, hc with
  | 0, _ => exact ix_bv0
  | 1, _ => exact ix_bv1
  | 2, _ => exact ix_bv2
  | 3, _ => exact ix_bv3
  | 4, _ => exact ix_bv4
  | 5, _ => exact ix_bv5
  | 6, _ => exact ix_bv6
  | 7, _ => exact ix_bv7
  | 8, _ => exact ix_bv8
  | 9, _ => exact ix_bv9
  | 10, _ => exact ix_bv10
  | 11, _ => exact ix_bv11
  | 12, _ => exact ix_bv12
  | n + 13, hc => exact absurd hc (by omega)
theorem ix_ac_int : Cond.arrayClass .int ∈ ix_T := ix_in_T (p := 1076) (by decide +kernel)
theorem ix_ac_long : Cond.arrayClass .long ∈ ix_T := ix_in_T (p := 1075) (by decide +kernel)
theorem ix_ac_boolean : Cond.arrayClass .boolean ∈ ix_T := ix_in_T (p := 1186) (by decide +kernel)
theorem ix_ac_byte : Cond.arrayClass .byte ∈ ix_T := ix_in_T (p := 1141) (by decide +kernel)
section SOUND
variable {b : ix_B} {y : ix_Y} {cc : ByteArray} {own mc ms : Nat} {ini : Bool} {sc : Option (Nat × (Nat → Int32))} {pc k n : Nat} {L : List (Option ix_V)} {st : List ix_V} {M : ix_M} {cs : List Bool} {x' : ix_X}
theorem ix_vV {f : Nat → Value} {N j : Nat} (hj : j < N) : vp_V ((List.range N).map f) j = f j := by
  simp [vp_V, List.getD, hj]
theorem ix_put_row {idx ci sl kd p9 a N : Nat} {fin : Bool} {tg ln : Nat → Nat} {I I' : Nat → Nat → Int32} {J J' : Nat → Nat → Int64} {R R' : Nat → Nat → Option Nat} {v : Value} {r : List Value} (F : ix_F b y cc own ini sc) (hq : ix_lk (ix_fl own) idx = some (ci, sl, kd, fin, p9)) (hfi : (fin && !(ini && Nat.beq own ci)) = false) (ha : a < N) (ht : tg a = ci) (hI : ∀ b, b ≠ a → I' b = I b) (hJ : ∀ b, b ≠ a → J' b = J b) (hR : ∀ b, b ≠ a → R' b = R b)
    (hv : ∀ j, j < ix_NN ci → ix_fv y.2.2.1 (N, tg, ln, I', J', R') a ci j = if j = sl then v else ix_fv y.2.2.1 (N, tg, ln, I, J, R) a ci j) (hn : narrow (ix_tyy ci sl) v = v) (hfit : fits (ix_tyy ci sl) v = true) (hd : decode cc pc = .ok (.putfield idx, 3))
    (hk : ∀ (H : Heap) (ls : Array Slot) (locs : List Loc), ix_at y L (N, tg, ln, I', J', R') H ls locs → ix_w b H locs k n (F0 (ix_mi b) (pc + 3) ls r)) : ∀ (H : Heap) (ls : Array Slot) (locs : List Loc), ix_at y L (N, tg, ln, I, J, R) H ls locs → ix_w b H locs k n (F0 (ix_mi b) pc ls (v :: .ref (y.2.2.1 + a) :: r)) := by
  obtain ⟨hx, hb, hml, hown, hts, hK, hA, hsz, hini, hsc, hH, ho⟩ := F
  have hfl := ix_lk_all ho (ix_flv own) hq
  simp only [ix_flok, Bool.and_eq_true, decide_eq_true_eq] at hfl
  obtain ⟨f1, f2, f3, f4, f5, f6⟩ := hfl
  intro H ls locs hat
  obtain ⟨r9, h1, cell, q1, q2, q3, q4⟩ := hat.1.obj ha ht f3
  have hr : r9 = (ix_cn ci, ix_TT ci, ix_NN ci) := Option.some.inj (h1.symm.trans (ix_clsv ci f3))
  subst hr
  have hap := va_apart (own := ix_cn own) hts (ix_layv ci f3) (ix_tyy ci) (ix_tyv ci f3) (ix_nmv ci f3) hK.1 (ix_clsv ci f3)
  obtain ⟨hS, hfc, kC, hkC, hkind⟩ := hK.1.1 ci _ (ix_clsv ci f3)
  obtain ⟨cf, kf, fi, f, hi, hsl⟩ := hS sl f4
  have hlay := hts _ (ix_layv ci f3 _ (u_in_lay f4))
  unfold u_lay at hlay
  have hst := (u_facts hfc hkC (u_lays hts (ix_layv ci f3) f4) hi).1
  have hlink := hts _ (ix_in_T f1)
  have hi' := hi
  rw [f2] at hi'
  have fin_end : ∀ H' : Heap, H'[y.2.2.1 + a]? = some (cell.setSlot f.slot v) → H'.size = H.size → (∀ q, q ≠ y.2.2.1 + a → H'[q]? = H[q]?) → ix_w b H' (locs ++ [⟨y.2.2.1 + a, f.slot⟩]) k n (F0 (ix_mi b) (pc + 3) ls r) := by
    intro H' e1 e2 e3
    refine hk H' ls _ ⟨hat.1.put (a := a) rfl e2 e3 (fun _ => ?_) (ix_E_other hI hJ hR), hat.2.1, hat.2.2.1, hat.2.2.2.put e2 e3 (hA _ (Nat.le_add_right _ _))⟩
    unfold ix_E
    dsimp only
    rw [if_pos (show tg a < 13 by rw [ht]; exact f3), ht]
    refine ⟨_, ix_clsv ci f3, ?_⟩
    rw [hsl] at e1
    refine t_OB.to (V := updV (vp_V ((List.range (ix_NN ci)).map (ix_fv y.2.2.1 (N, tg, ln, I, J, R) a ci))) sl v) ⟨_, e1, q2, q3, t_set q4 hap f4 v⟩ (fun j hj => ?_)
    show updV _ _ _ j = vp_V ((List.range (ix_NN ci)).map (ix_fv y.2.2.1 (N, tg, ln, I', J', R') a ci)) j
    rw [ix_vV hj, hv j hj]
    unfold updV
    rw [ix_vV hj]
  cases hfin : fin with
  | false =>
    rw [if_neg (by rw [f6, hfin]; decide)] at hlay
    have h6 := u_store hfc hkC hkind hlay hi (ix_tyv ci f3 sl f4) hn hfit
    exact W.putK hx hb (f := f) ⟨hown, hlink, ⟨_, _, _, hi'⟩, hst⟩ (by rw [q2]; exact h6) q1 q3 (by rw [hsl]; exact k2_hasslot (q4 sl f4)) rfl rfl hd fin_end
  | true =>
    rw [if_pos (by rw [f6, hfin])] at hlay
    rw [hfin] at hfi
    simp only [Bool.true_and, Bool.not_eq_false', Bool.and_eq_true] at hfi
    have e0 : own = ci := Nat.eq_of_beq_eq_true hfi.2
    have hcf : (ix_mi b).cls = cf := by
      obtain ⟨_, _, c', _, _, _, -, -, hf', -, -, -, hown2, -⟩ := Cond.laysFinal_spec hlay
      have e1 : c' = cf := by have := hi.symm.trans hf'; simp at this; exact this.1.symm
      rw [f2, ← e0] at hown2
      rw [← e1]; exact Option.some.inj (hown.symm.trans hown2)
    have h6 := u_fits hfc hkC hkind (Or.inr hlay) hi (ix_tyv ci f3 sl f4) hn hfit
    exact W.putFinK hx hb hown hlink hi' hst hcf (hini hfi.1) (by rw [q2]; exact h6) q1 q3 (by rw [hsl]; exact k2_hasslot (q4 sl f4)) rfl rfl hd fin_end
theorem ix_put_ok {idx : Nat} {q : Nat × Nat × Nat × Bool × Nat} (F : ix_F b y cc own ini sc) (hq : ix_lk (ix_fl own) idx = some q) (hfi : (q.2.2.2.1 && !(ini && Nat.beq own q.1)) = false) (h : ix_put q pc L st k n M = some (cs, x')) (hc : ix_all cs) (hd : decode cc pc = .ok (.putfield idx, 3)) (hk : ix_Pm b y x') : ix_Pm b y (pc, L, st, k, n, M) := by
  have hfl := ix_lk_all F.2.2.2.2.2.2.2.2.2.2.2 (ix_flv own) hq
  obtain ⟨N, tg, ln, I, J, R⟩ := M
  obtain ⟨ci, sl, kd, fin, p9⟩ := q
  simp only [ix_flok, Bool.and_eq_true, decide_eq_true_eq] at hfl
  obtain ⟨f1, f2, f3, f4, f5, f6⟩ := hfl
  obtain ⟨b1, b2, b3, b4⟩ := ix_basv ci f3 sl f4
  unfold ix_put at h
  dsimp only at h
  split at h
  · next v a r =>
    split at h
    · cases h
      obtain ⟨h1, h2⟩ := hc
      have h1 := ix_lt h1
      have h2 := ix_eq h2
      have hty := b1 f5
      refine ix_put_row F hq hfi h1 h2 ix_u2_ne (fun _ _ => rfl) (fun _ _ => rfl) (fun j hj => ?_) (by rw [hty]; rfl) (by rw [hty]; rfl) hd hk
      by_cases e : j = sl
      · subst e
        rw [if_pos rfl, ix_fvk, f5]
        simp [ix_u2, ix_g]
      · rw [if_neg e]
        simp [ix_fvk, ix_u2, e]
    · cases h
      obtain ⟨h1, h2⟩ := hc
      have h1 := ix_lt h1
      have h2 := ix_eq h2
      have hty := b2 f5
      refine ix_put_row F hq hfi h1 h2 (fun _ _ => rfl) ix_u2_ne (fun _ _ => rfl) (fun j hj => ?_) (by rw [hty]; rfl) (by rw [hty]; rfl) hd hk
      by_cases e : j = sl
      · subst e
        rw [if_pos rfl, ix_fvk, f5]
        simp [ix_u2, ix_g]
      · rw [if_neg e]
        simp [ix_fvk, ix_u2, e]
    · next v' =>
      cases h
      obtain ⟨h1, h2⟩ := hc
      have h1 := ix_lt h1
      have h2 := ix_eq h2
      have hty := ix_refv ci f3 sl f4 f5
      have hnv : narrow (ix_tyy ci sl) (va_rf (v'.map (fun k => y.2.2.1 + k))) = va_rf (v'.map (fun k => y.2.2.1 + k)) ∧ fits (ix_tyy ci sl) (va_rf (v'.map (fun k => y.2.2.1 + k))) = true := by
        cases hz : ix_tyy ci sl <;> rw [hz] at hty <;> first | (cases hty; done) | (cases v' <;> exact ⟨rfl, rfl⟩)
      refine ix_put_row F hq hfi h1 h2 (fun _ _ => rfl) (fun _ _ => rfl) ix_u2_ne (fun j hj => ?_) hnv.1 hnv.2 hd hk
      by_cases e : j = sl
      · subst e
        rw [if_pos rfl, ix_fvk, f5]
        simp [ix_u2, ix_g]
      · rw [if_neg e]
        simp [ix_fvk, ix_u2, e]
    · cases h
      obtain ⟨h1, h2, h3⟩ := hc
      have h1 := ix_lt h1
      have h2 := ix_eq h2
      have h3 := ix_01_ok h3
      have hty := b3 f5
      refine ix_put_row F hq hfi h1 h2 ix_u2_ne (fun _ _ => rfl) (fun _ _ => rfl) (fun j hj => ?_) (by rw [hty]; exact ix_b01 h3) (by rw [hty]; rcases h3 with rfl | rfl <;> rfl) hd hk
      by_cases e : j = sl
      · subst e
        rw [if_pos rfl, ix_fvk, f5]
        simp [ix_u2, ix_g]
      · rw [if_neg e]
        simp [ix_fvk, ix_u2, e]
    · cases h
  · cases h
theorem ix_aast_ok (F : ix_F b y cc own ini sc) (h : ix_aast pc L st k n M = some (cs, x')) (hc : ix_all cs) (hd : decode cc pc = .ok (.aastore, 1)) (hk : ix_Pm b y x') : ix_Pm b y (pc, L, st, k, n, M) := by
  obtain ⟨hx, hb, hml, hown, hts, hK, hA, hsz, hini, hsc, hH, ho⟩ := F
  obtain ⟨N, tg, ln, I, J, R⟩ := M
  unfold ix_aast at h
  dsimp only at h
  split at h
  · next v i a r =>
    cases h
    obtain ⟨h1, h2, h3, h5, h6⟩ := hc
    have h1 := ix_lt h1
    have h2 := ix_eq h2
    have h3 := ix_inb_ok h3
    have h5 := ix_lt h5
    have h6 := ix_eq h6
    intro H ls locs hat
    have hlt : i.toNatClampNeg < ln a := Nat.not_le.mp fun q => h3 (Or.inr q)
    have h0 : ¬ i < 0 := fun q => h3 (Or.inl q)
    have h4 := hat.1.arr h1 h2 (by decide)
    rw [ix_ar_r (show 17 ≤ tg a by omega)] at h4
    obtain ⟨r', hr', cellV, g1, g2, g3, -⟩ := hat.1.obj h5 h6 (by decide)
    have hcls := (hK.1.1 9 _ (ix_clsv 9 (by decide))).2
    obtain ⟨kA, comp, k1, k2, k3, -⟩ := (hK.1.2 3 _ rfl).2
    have hcomp : comp = y.1.1 9 := Option.some.inj (k3.symm.trans hcls.1)
    subst hcomp
    obtain ⟨kC, hkC, -⟩ := hcls.2
    refine W.aast hx hb h4 (fun q h => by cases h) (fun h => by cases h) k1 k2 rfl hkC ⟨h0, by show _ < (arrV _ _ _).slots.size; rw [arrV_size]; exact hlt⟩ g1 (fun q h => by rw [g3] at h; cases h) (by rw [g2]; exact hkC) (by rw [g2]; exact va_assign hcls) rfl rfl hd fun H1 e z oq => ?_
    refine hk H1 ls _ ⟨hat.1.put (a := a) rfl z oq (fun _ => ?_) (ix_E_other (fun _ _ => rfl) (fun _ _ => rfl) ix_u2_ne), hat.2.1, hat.2.2.1, hat.2.2.2.put z oq (hA _ (Nat.le_add_right _ _))⟩
    unfold ix_E
    rw [if_neg (show ¬ (tg a < 13) by omega), ix_ar_r (show 17 ≤ tg a by omega), ix_u2_eq]
    show H1[_]? = some (vp_cell _ _)
    rw [e]
    show some ((vp_cell _ _).setSlot _ _) = _
    rw [vp_cell_q, vp_cell_q, arrV_store]
    show _ = some (arrV (y.2.1 (tg a)) _ _)
    rw [h2]
    congr 2
    funext q
    by_cases hq : q = i.toNatClampNeg
    · subst hq
      simp [updV, va_rf]
    · simp [updV, hq]
  · cases h
/-! new cells -/
theorem ix_mk_E {cy : Nat → ClassId} {base t len a : Nat} {M : ix_M} (h : a < M.1) : ix_E cy base (ix_mk M t len) a = ix_E cy base M a := by
  obtain ⟨N, tg, ln, I, J, R⟩ := M
  have hne : ¬ a = N := Nat.ne_of_lt h
  have e1 : ix_ar base (ix_mk (N, tg, ln, I, J, R) t len) a = ix_ar base (N, tg, ln, I, J, R) a := by simp [ix_ar, ix_mk, ix_u1, hne]
  have e2 : ∀ ci, ix_fv base (ix_mk (N, tg, ln, I, J, R) t len) a ci = ix_fv base (N, tg, ln, I, J, R) a ci := fun ci => funext fun j => by simp [ix_fv, ix_mk, ix_u1, hne]
  unfold ix_E
  rw [e1, e2]
  have e3 : (ix_mk (N, tg, ln, I, J, R) t len).2.1 a = tg a := by simp [ix_mk, ix_u1, hne]
  rw [e3]
theorem ix_P.mk {D : va_G} {cy : Nat → ClassId} {base t len : Nat} {M : ix_M} {H H1 : Heap} (h : ix_P D cy base M H) (hz : H1.size = H.size + 1) (ho : ∀ q : Nat, q < H.size → H1[q]? = H[q]?) (hn : va_at D ix_cls (base + M.1, ix_E cy base (ix_mk M t len) M.1) H1) : ix_P D cy base (ix_mk M t len) H1 := by
  have e : (ix_mk M t len).1 = M.1 + 1 := by obtain ⟨N, tg, ln, I, J, R⟩ := M; rfl
  refine ⟨by rw [hz, h.1, e]; omega, fun a ha => ?_⟩
  rw [e] at ha
  by_cases e2 : a = M.1
  · subst e2
    exact hn
  · have hl : a < M.1 := by omega
    rw [ix_mk_E hl]
    exact (h.2 a hl).kept (ho _ (by rw [h.1]; show base + a < _; omega))
theorem ix_S_grow {A : Nat → Prop} {H0 H H1 : Heap} {locs : List Loc} (h : va_S A H0 H locs) (hz : H.size ≤ H1.size) (ho : ∀ q : Nat, q < H.size → H1[q]? = H[q]?) : va_S A H0 H1 locs := ⟨Nat.le_trans h.1 hz, fun x h1 h2 => (ho x (Nat.lt_of_lt_of_le h1 h.1)).trans (h.2.1 x h1 h2), h.2.2⟩
theorem ix_mk_tag {M : ix_M} {t len : Nat} : (ix_mk M t len).2.1 M.1 = t := by obtain ⟨N, tg, ln, I, J, R⟩ := M; simp [ix_mk, ix_u1]
theorem ix_newc_ok {idx t p9 : Nat} (F : ix_F b y cc own ini sc) (hR : mc ≤ (ix_Rm b).cells ∧ ms ≤ (ix_Rm b).slots) (hq : ix_lk (ix_cl own) idx = some (t, p9)) (ht : t < 13) (h1 : k + 1 ≤ mc) (h2 : n + ix_NN t ≤ ms) (hd : decode cc pc = .ok (.new idx, 3)) (hk : ix_Pm b y (pc + 3, L, .inr (.inr (.inl (some M.1))) :: st, k + 1, n + ix_NN t, ix_mk M t 0)) : ix_Pm b y (pc, L, st, k, n, M) := by
  obtain ⟨hx, hb, hml, hown, hts, hK, hA, hsz, hini, hsc, hH, ho⟩ := F
  have hcl := ix_lk_all ho (ix_clv own) hq
  simp only [ix_clok] at hcl
  have hac : ix_ac t = ix_cn t := by
    unfold ix_ac
    split
    · omega
    · omega
    · rfl
  rw [hac] at hcl
  intro H ls locs hat
  have hKn := hK.1.1 t _ (ix_clsv t ht)
  refine W.newcK hx hb hown (hts _ (ix_in_T hcl)) (hts _ (ix_insv t ht).1) (hts _ (ix_insv t ht).2) rfl hd (Nat.le_trans h1 hR.1) (Nat.le_trans h2 hR.2) hKn.2.1 rfl fun H1 kC hkC e1 z1 o1 => ?_
  have hP := hat.1.mk (t := t) (len := 0) z1 o1 (by
    unfold ix_E
    rw [ix_mk_tag, if_pos ht]
    rw [← hat.1.1]
    refine ⟨_, ix_clsv t ht, (u_born (ix_tyy t) hts (ix_layv t ht) hKn hkC e1 (ix_tyv t ht)).to (fun j hj => ?_)⟩
    show _ = vp_V ((List.range (ix_NN t)).map _) j
    rw [ix_vV hj]
    obtain ⟨b1, b2, b3, b4⟩ := ix_basv t ht j hj
    obtain ⟨N, tg, ln, I, J, R⟩ := M
    rw [show ix_mk (N, tg, ln, I, J, R) t 0 = (N + 1, ix_u1 tg N t, ix_u1 ln N 0, ix_u1 I N (fun _ => 0), ix_u1 J N (fun _ => 0), ix_u1 R N (fun _ => none)) from rfl, ix_fvk]
    rcases (show ix_isK (ix_tyy t j) = 0 ∨ ix_isK (ix_tyy t j) = 1 ∨ ix_isK (ix_tyy t j) = 2 ∨ ix_isK (ix_tyy t j) = 3 by omega) with e | e | e | e
    · rw [e, b1 e]; simp [ix_u1, defaultValue]
    · rw [e, b2 e]; simp [ix_u1, defaultValue]
    · have := ix_refv t ht j hj e
      rw [e]
      cases hz : ix_tyy t j <;> rw [hz] at this <;> first | (cases this; done) | simp [ix_u1, defaultValue, va_rf]
    · rw [e, b3 e]; simp [ix_u1, defaultValue])
  have := hk H1 ls locs ⟨hP, hat.2.1, hat.2.2.1, ix_S_grow hat.2.2.2 (by omega) o1⟩
  rw [hat.1.1]
  exact this
theorem ix_mk_ar {base t len : Nat} {M : ix_M} : ix_ar base (ix_mk M t len) M.1 = (len, if t = 15 then .inr (.inl (fun _ => 0)) else if t ≤ 16 then .inl (fun _ => 0) else .inr (.inr (.inr (.inr (fun _ => none))))) := by
  obtain ⟨N, tg, ln, I, J, R⟩ := M
  simp [ix_ar, ix_mk, ix_u1]
theorem ix_newa_row {at' : ArrayType} {t t0 : Nat} {ty : FieldType} {q : Int32} {r : List ix_V} (F : ix_F b y cc own ini sc) (hR : mc ≤ (ix_Rm b).cells ∧ ms ≤ (ix_Rm b).slots) (hty : newarray.typeOf at' = ty) (hw : Cond.arrayClass ty ∈ ix_T) (ht : (ix_tys y.2.1)[t0]? = some (y.2.1 t, ty)) (hno : ∀ C, ty ≠ .object C) (h13 : ¬ t < 13) (hcb : componentBytes ty ≤ 8)
    (hcell : ∀ (c : ClassId) (N : Nat), vp_cell c (N, if t = 15 then .inr (.inl (fun _ => 0)) else if t ≤ 16 then .inl (fun _ => 0) else .inr (.inr (.inr (.inr (fun _ => none))))) = arrV c N (fun _ => defaultValue ty)) (h1 : ¬ q < 0) (h2 : q.toNatClampNeg ≤ 60000000) (h3 : k + 1 ≤ mc) (h4 : n + q.toNatClampNeg ≤ ms) (hd : decode cc pc = .ok (.newarray at', 2))
    (hk : ix_Pm b y (pc + 2, L, .inr (.inr (.inl (some M.1))) :: r, k + 1, n + q.toNatClampNeg, ix_mk M t q.toNatClampNeg)) : ix_Pm b y (pc, L, .inl q :: r, k, n, M) := by
  obtain ⟨hx, hb, hml, hown, hts, hK, hA, hsz, hini, hsc, hH, ho⟩ := F
  subst hty
  intro H ls locs hat
  refine va_newaK hx hb (hts _ hw) rfl hd rfl h1 rfl (Nat.le_trans (Nat.mul_le_mul h2 hcb) (by decide)) (Nat.le_trans h3 hR.1) (Nat.le_trans h4 hR.2) rfl fun H1 cA e1 z1 o1 hAr hfc => ?_
  have hRA := (hK.1.2 t0 _ ht).2
  have hcA : cA = y.2.1 t := by
    have h9 : (ix_s b).vm.findClass ("[" ++ (newarray.typeOf at').toString) = some (y.2.1 t) := by
      unfold va_RA at hRA
      split at hRA
      · next C hC => exact absurd hC (hno C)
      · exact hRA
    exact Option.some.inj (hfc.symm.trans h9)
  have hP := hat.1.mk (t := t) (len := q.toNatClampNeg) z1 o1 (by
    unfold ix_E
    rw [ix_mk_tag, if_neg h13, ← hat.1.1]
    show H1[_]? = some (vp_cell _ _)
    rw [ix_mk_ar, hcell, e1, hcA])
  have := hk H1 ls locs ⟨hP, hat.2.1, hat.2.2.1, ix_S_grow hat.2.2.2 (by omega) o1⟩
  rw [hat.1.1]
  exact this
end SOUND
