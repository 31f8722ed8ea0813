theorem vr_outer (c : ClassId) (N h0 : Nat) : ∀ i : Nat, Jvm.Free.Multi.outerC c N h0 i = arrV c N (fun j => va_rf (if j < i then some (h0 + 1 + j) else none))
  | 0 => by
    show ({ cls := c, slots := Array.replicate N .null, vm := .none } : Cell) = _
    rw [arrV_new]
    refine congrArg (arrV c N) (funext fun j => ?_)
    simp [va_rf]
  | i + 1 => by
    show (Jvm.Free.Multi.outerC c N h0 i).setSlot i (.ref (h0 + 1 + i)) = _
    rw [vr_outer c N h0 i, arrV_store]
    refine congrArg (arrV c N) (funext fun j => ?_)
    by_cases e : j = i
    · subst e
      simp [updV, va_rf]
    · by_cases h : j < i
      · simp [updV, e, h, Nat.lt_succ_of_lt h]
      · simp [updV, e, h, show ¬ j < i + 1 by omega]
section SOUND
variable {b : ix_B} {y : ix_Y} {cc : ByteArray} {own mc ms : Nat} {ini : Bool} {sc : Option (Nat × (Nat → Int32))} {pc k n : Nat} {L : List (Option ix_V)} {st : List ix_V} {M : ix_M} {cs : List Bool} {x' : ix_X}
theorem ix_anew_ok {idx p9 : Nat} {q : Int32} {r : List ix_V} (F : ix_F b y cc own ini sc) (hR : mc ≤ (ix_Rm b).cells ∧ ms ≤ (ix_Rm b).slots) (hq : ix_lk (ix_cl own) idx = some (9, p9)) (h1 : ¬ q < 0) (h2 : q.toNatClampNeg ≤ 60000000) (h3 : k + 1 ≤ mc) (h4 : n + q.toNatClampNeg ≤ ms) (hd : decode cc pc = .ok (.anewarray idx, 3))
    (hk : ix_Pm b y (pc + 3, L, .inr (.inr (.inl (some M.1))) :: r, k + 1, n + q.toNatClampNeg, ix_mk M 17 q.toNatClampNeg)) : ix_Pm b y (pc, L, .inl q :: r, k, n, M) := by
  obtain ⟨hx, hb, hml, hown, hts, hK, hA, hsz, hini, hsc, hH, ho⟩ := F
  have hcl := ix_lk_all ho (ix_clv own) hq
  simp only [ix_clok] at hcl
  intro H ls locs hat
  refine W.anew (C := RX9) hx hb hown (hts _ (ix_in_T hcl)) (hK.2.2 _ List.mem_cons_self) rfl hd rfl h1 (by omega) (Nat.le_trans h3 hR.1) (Nat.le_trans h4 hR.2) fun cA kA comp f1 f2 f3 f4 => ?_
  generalize hH1 : H.push ({ cls := cA, slots := Array.replicate q.toNatClampNeg .null, vm := .none } : Cell) = H1
  have z1 : H1.size = H.size + 1 := by rw [← hH1, Array.size_push]
  have e1 : H1[H.size]? = some (arrV cA q.toNatClampNeg (fun _ => .null)) := by rw [← hH1, Array.getElem?_push_size, ← arrV_new]
  have o1 : ∀ q : Nat, q < H.size → H1[q]? = H[q]? := fun q hq => by rw [← hH1, Array.getElem?_push, if_neg (Nat.ne_of_lt hq)]
  obtain ⟨kA', comp', -, -, -, g4⟩ := (hK.1.2 3 _ rfl).2
  have hcA : cA = y.2.1 17 := Option.some.inj (f1.symm.trans g4)
  have hP := hat.1.mk (t := 17) (len := q.toNatClampNeg) z1 o1 (by
    unfold ix_E
    rw [ix_mk_tag, if_neg (by decide), ← hat.1.1]
    show H1[_]? = some (vp_cell _ _)
    rw [ix_mk_ar, e1, hcA]
    rfl)
  have := hk H1 ls locs ⟨hP, hat.2.1, hat.2.2.1, ix_S_grow hat.2.2.2 (by omega) o1⟩
  rw [hat.1.1]
  exact this
theorem ix_mk2_E {cy : Nat → ClassId} {base t c1 c2 a : Nat} {M : ix_M} (h : a < M.1) : ix_E cy base (ix_mk2 M t c1 c2) a = ix_E cy base M a := by
  obtain ⟨N, tg, ln, I, J, R⟩ := M
  have h : a < N := h
  have e1 : ix_ar base (ix_mk2 (N, tg, ln, I, J, R) t c1 c2) a = ix_ar base (N, tg, ln, I, J, R) a := by simp [ix_ar, ix_mk2, h]
  have e2 : ∀ ci, ix_fv base (ix_mk2 (N, tg, ln, I, J, R) t c1 c2) a ci = ix_fv base (N, tg, ln, I, J, R) a ci := fun ci => funext fun j => by simp [ix_fv, ix_mk2, h]
  unfold ix_E
  rw [e1, e2]
  have e3 : (ix_mk2 (N, tg, ln, I, J, R) t c1 c2).2.1 a = tg a := by simp [ix_mk2, h]
  rw [e3]
theorem ix_mna_ok {idx t p9 : Nat} {c1 c2 : Int32} {r : List ix_V} (F : ix_F b y cc own ini sc) (hR : mc ≤ (ix_Rm b).cells ∧ ms ≤ (ix_Rm b).slots) (hq : ix_lk (ix_cl own) idx = some (t, p9)) (ht : t = 18 ∨ t = 19) (h1 : ¬ c1 < 0) (h2 : ¬ c2 < 0) (h3 : c1.toNatClampNeg ≤ 100000) (h4 : c2.toNatClampNeg ≤ 100000) (h5 : k + (1 + c1.toNatClampNeg) ≤ mc) (h6 : n + (c1.toNatClampNeg + c1.toNatClampNeg * c2.toNatClampNeg) ≤ ms) (hd : decode cc pc = .ok (.multianewarray idx 2, 4))
    (hk : ix_Pm b y (pc + 4, L, .inr (.inr (.inl (some M.1))) :: r, k + 1 + c1.toNatClampNeg, n + c1.toNatClampNeg + c1.toNatClampNeg * c2.toNatClampNeg, ix_mk2 M t c1.toNatClampNeg c2.toNatClampNeg)) : ix_Pm b y (pc, L, .inl c2 :: .inl c1 :: r, k, n, M) := by
  obtain ⟨hx, hb, hml, hown, hts, hK, hA, hsz, hini, hsc, hH, ho⟩ := F
  have hcl := ix_lk_all ho (ix_clv own) hq
  simp only [ix_clok] at hcl
  intro H ls locs hat T hT X
  obtain ⟨ty, t0, t1, hac, hov, hacl, hcb, hf1, hf2, hty0, hty1, hz⟩ : ∃ (ty : FieldType) (t0 t1 : Nat), ix_ac t = "[" ++ (FieldType.array ty).toString ∧ va_Nw (.arrayOver (.array ty)) (ix_s b) ∧ Cond.arrayClass ty ∈ ix_T ∧ componentBytes ty ≤ 8 ∧ fits ty (defaultValue ty) = true ∧ (defaultValue ty).isDefault = true ∧ (ix_s b).vm.findClass ("[" ++ (FieldType.array ty).toString) = some (y.2.1 t) ∧ (ix_s b).vm.findClass (FieldType.array ty).toString = some (y.2.1 (t - 4)) ∧ (∀ (c : ClassId) (N : Nat), arrV c N (fun _ => defaultValue ty) = vp_cell c (N, if t - 4 = 15 then .inr (.inl (fun _ => 0)) else if t - 4 ≤ 16 then .inl (fun _ => 0) else .inr (.inr (.inr (.inr (fun _ => none)))))) := by
    rcases ht with rfl | rfl
    · exact ⟨.int, 4, 0, rfl, hK.2.2 _ (by simp [ix_ow]), ix_ac_int, by decide, rfl, rfl, (hK.1.2 4 _ rfl).2, (hK.1.2 0 _ rfl).2, fun c N => rfl⟩
    · exact ⟨.long, 5, 1, rfl, hK.2.2 _ (by simp [ix_ow]), ix_ac_long, by decide, rfl, rfl, (hK.1.2 5 _ rfl).2, (hK.1.2 1 _ rfl).2, fun c N => rfl⟩
  rw [hac] at hcl
  have hb2 : c2.toNatClampNeg * componentBytes ty ≤ 536870912 := Nat.le_trans (Nat.mul_le_mul h4 hcb) (by decide)
  obtain ⟨vm₁, cA, comp, -, fA, fC, hO, -, X', step⟩ := X.multianewarray2F hx hown (hts _ (ix_in_T hcl)) hov (hts _ hacl) (g := F0 (ix_mi b) pc ls (.int c2 :: .int c1 :: r.map (ix_yg y))) rfl (by rw [hb]; exact hd) rfl h1 h2 (by omega) hb2 (by omega) hf1 hf2 (Nat.le_trans h5 hR.1) (Nat.le_trans h6 hR.2)
  have ec : comp = y.2.1 (t - 4) := Option.some.inj (fC.symm.trans hty1)
  have eA : cA = y.2.1 t := Option.some.inj (fA.symm.trans hty0)
  generalize hF : Jvm.Free.Multi.fill (T.setVm vm₁) cA comp c1.toNatClampNeg c2.toNatClampNeg (defaultValue ty) c1.toNatClampNeg = G at X' step
  have hTh : (T.setVm vm₁).heap = H := hT
  obtain ⟨f1, f2, -, -⟩ := Jvm.Free.Multi.fill_facts (T.setVm vm₁) cA comp c1.toNatClampNeg c2.toNatClampNeg (defaultValue ty) c1.toNatClampNeg
  rw [hF, hTh] at f1 f2
  have hold : ∀ x : Nat, x < H.size → G.heap[x]? = H[x]? := fun x hx => by
    have := Jvm.Free.Multi.fill_old (T.setVm vm₁) cA comp c1.toNatClampNeg c2.toNatClampNeg (defaultValue ty) (a := x) (by rw [hTh]; exact hx) c1.toNatClampNeg
    rw [hF, hTh] at this
    exact this
  have hrow : ∀ j : Nat, j < c1.toNatClampNeg → G.heap[H.size + 1 + j]? = some (arrV comp c2.toNatClampNeg (fun _ => defaultValue ty)) := fun j hj => by
    have := Jvm.Free.Multi.fill_inner (T.setVm vm₁) cA comp c1.toNatClampNeg c2.toNatClampNeg (defaultValue ty) c1.toNatClampNeg j hj
    rw [hF, hTh] at this
    rw [this, ← arrV_new]
    rfl
  rw [vr_outer] at f2
  obtain ⟨N, tg, ln, I, J, R⟩ := M
  have hN : H.size = y.2.2.1 + N := hat.1.1
  have hP : ix_P y.1 y.2.1 y.2.2.1 (ix_mk2 (N, tg, ln, I, J, R) t c1.toNatClampNeg c2.toNatClampNeg) G.heap := by
    refine ⟨by rw [f1, hN]; show _ = y.2.2.1 + (N + 1 + c1.toNatClampNeg); omega, fun a ha => ?_⟩
    have ha : a < N + 1 + c1.toNatClampNeg := ha
    by_cases e1 : a < N
    · rw [ix_mk2_E e1]
      exact (hat.1.2 a e1).kept (hold _ (by rw [hN]; show y.2.2.1 + a < _; omega))
    · by_cases e2 : a = N
      · subst e2
        have et : (ix_mk2 (a, tg, ln, I, J, R) t c1.toNatClampNeg c2.toNatClampNeg).2.1 a = t := by simp [ix_mk2]
        unfold ix_E
        rw [et, if_neg (show ¬ t < 13 by omega)]
        show G.heap[y.2.2.1 + a]? = some (vp_cell _ _)
        rw [← hN, f2, eA]
        have er : ix_ar y.2.2.1 (ix_mk2 (a, tg, ln, I, J, R) t c1.toNatClampNeg c2.toNatClampNeg) a = (c1.toNatClampNeg, .inr (.inr (.inr (.inr (fun i => if i < c1.toNatClampNeg then some (H.size + 1 + i) else none))))) := by
          have q1 : ¬ t = 15 := by omega
          have q2 : ¬ t ≤ 16 := by omega
          simp only [ix_ar, ix_mk2, Nat.lt_irrefl, if_false, if_true, q1, q2]
          congr 5
          funext i
          by_cases hi : i < c1.toNatClampNeg
          · simp only [hi, if_true, Option.map_some]
            congr 1
            omega
          · simp [hi]
        rw [er, vp_cell_q]
      · have et : (ix_mk2 (N, tg, ln, I, J, R) t c1.toNatClampNeg c2.toNatClampNeg).2.1 a = t - 4 := by simp [ix_mk2, e1, e2]
        unfold ix_E
        rw [et, if_neg (show ¬ t - 4 < 13 by omega)]
        show G.heap[y.2.2.1 + a]? = some (vp_cell _ _)
        have er : ix_ar y.2.2.1 (ix_mk2 (N, tg, ln, I, J, R) t c1.toNatClampNeg c2.toNatClampNeg) a = (c2.toNatClampNeg, if t - 4 = 15 then .inr (.inl (fun _ => 0)) else if t - 4 ≤ 16 then .inl (fun _ => 0) else .inr (.inr (.inr (.inr (fun _ => none))))) := by
          simp [ix_ar, ix_mk2, e1, e2]
        have := hrow (a - N - 1) (by omega)
        rw [show H.size + 1 + (a - N - 1) = y.2.2.1 + a by omega] at this
        rw [er, ← hz, this, ec]
  obtain ⟨t2, a1, b1⟩ := hk G.heap ls locs ⟨hP, hat.2.1, hat.2.2.1, ix_S_grow hat.2.2.2 (by omega) hold⟩ G rfl X'
  refine ⟨t2, step t2 ?_, b1⟩
  rw [hT, hN]
  exact a1
set_option maxHeartbeats 4000000 in
theorem ix_step_ok {i : Instr} {len : Nat} (F : ix_F b y cc own ini sc) (hR : mc ≤ (ix_Rm b).cells ∧ ms ≤ (ix_Rm b).slots) (h : ix_step own mc ms ini sc i (pc, L, st, k, n, M) = some (cs, x')) (hc : ix_all cs) (hl : ix_ilen i len = true) (hd : decode cc pc = .ok (i, len)) (hk : ix_Pm b y x') : ix_Pm b y (pc, L, st, k, n, M) := by
  have hx := F.1
  have hb := F.2.1
  have hown := F.2.2.2.1
  have hts := F.2.2.2.2.1
  have ho := F.2.2.2.2.2.2.2.2.2.2.2
  cases i
  case iconst v =>
    obtain rfl : len = 1 := Nat.eq_of_beq_eq_true hl
    cases h
    exact ix_go1 (fun H ls locs _ hw => lv_iconst hx hb hd rfl hw) hk
  case bipush v =>
    obtain rfl : len = 2 := Nat.eq_of_beq_eq_true hl
    cases h
    exact ix_go1 (fun H ls locs _ hw => lv_bipush hx hb hd rfl hw) hk
  case sipush v =>
    obtain rfl : len = 3 := Nat.eq_of_beq_eq_true hl
    cases h
    exact ix_go1 (fun H ls locs _ hw => lv_sipush hx hb hd rfl hw) hk
  case lconst v =>
    obtain rfl : len = 1 := Nat.eq_of_beq_eq_true hl
    cases h
    exact ix_go1 (fun H ls locs _ hw => lv_lconst hx hb hd rfl hw) hk
  case aconst_null =>
    obtain rfl : len = 1 := Nat.eq_of_beq_eq_true hl
    cases h
    exact ix_go1 (fun H ls locs _ hw => lv_null hx hb hd hw) hk
  case ldc idx =>
    obtain rfl : len = 2 := Nat.eq_of_beq_eq_true hl
    unfold ix_step at h
    dsimp only at h
    split at h
    · next v p9 hq =>
      cases h
      have hq2 := ix_lk_all ho (ix_icv own) hq
      exact ix_go1 (fun H ls locs _ hw => lv_ldc hx hb hown (hts _ (ix_in_T hq2)) hd hw) hk
    · split at h
      · next j p9 hq =>
        cases h
        exact ix_ldcs_ok F hq hd hk
      · cases h
  case ldc_w idx =>
    obtain rfl : len = 3 := Nat.eq_of_beq_eq_true hl
    unfold ix_step at h
    dsimp only at h
    split at h
    · next v p9 hq =>
      cases h
      have hq2 := ix_lk_all ho (ix_icv own) hq
      exact ix_go1 (fun H ls locs _ hw => lv_ldcw hx hb hown (hts _ (ix_in_T hq2)) hd hw) hk
    · split at h
      · next j p9 hq =>
        cases h
        exact ix_ldcw_ok F hq hd hk
      · cases h
  case ldc2_w idx =>
    obtain rfl : len = 3 := Nat.eq_of_beq_eq_true hl
    unfold ix_step at h
    dsimp only at h
    split at h
    · next v p9 hq =>
      cases h
      have hq2 := ix_lk_all ho (ix_jcv own) hq
      exact ix_go1 (fun H ls locs _ hw => lv_ldc2 hx hb hown (hts _ (ix_in_T hq2)) hd hw) hk
    · cases h
  case iload i =>
    obtain rfl : len = 2 := Nat.eq_of_beq_eq_true hl
    refine ix_ld_ok h (fun v hov H ls locs hv hw => ?_) hk
    rcases v with v | v | v
    · exact lv_iload hx hb hd hv hw
    · cases hov
    · cases hov
  case iload_n i =>
    obtain rfl : len = 1 := Nat.eq_of_beq_eq_true hl
    refine ix_ld_ok h (fun v hov H ls locs hv hw => ?_) hk
    rcases v with v | v | v
    · exact lv_iload_n hx hb hd rfl hv hw
    · cases hov
    · cases hov
  case lload i =>
    obtain rfl : len = 2 := Nat.eq_of_beq_eq_true hl
    refine ix_ld_ok h (fun v hov H ls locs hv hw => ?_) hk
    rcases v with v | v | v
    · cases hov
    · exact lv_lload hx hb hd hv hw
    · cases hov
  case lload_n i =>
    obtain rfl : len = 1 := Nat.eq_of_beq_eq_true hl
    refine ix_ld_ok h (fun v hov H ls locs hv hw => ?_) hk
    rcases v with v | v | v
    · cases hov
    · exact lv_lload_n hx hb hd rfl hv hw
    · cases hov
  case aload i =>
    obtain rfl : len = 2 := Nat.eq_of_beq_eq_true hl
    refine ix_ld_ok h (fun v hov H ls locs hv hw => ?_) hk
    rcases v with v | v | (- | v) | v
    · cases hov
    · cases hov
    · exact lv_aloadN hx hb hd hv hw
    · exact lv_aload hx hb hd hv hw
    · exact lv_aload hx hb hd hv hw
  case aload_n i =>
    obtain rfl : len = 1 := Nat.eq_of_beq_eq_true hl
    refine ix_ld_ok h (fun v hov H ls locs hv hw => ?_) hk
    rcases v with v | v | (- | v) | v
    · cases hov
    · cases hov
    · exact lv_aload_nN hx hb hd rfl hv hw
    · exact lv_aload_n hx hb hd rfl hv hw
    · exact lv_aload_n hx hb hd rfl hv hw
  case istore i =>
    obtain rfl : len = 2 := Nat.eq_of_beq_eq_true hl
    refine ix_sto_ok h (fun v r hov hi H ls locs lv hlv hw => ?_) hk
    rcases v with v | v | v
    · exact lv_istore hx hb hd hlv hi rfl hw
    · cases hov
    · cases hov
  case istore_n i =>
    obtain rfl : len = 1 := Nat.eq_of_beq_eq_true hl
    refine ix_sto_ok h (fun v r hov hi H ls locs lv hlv hw => ?_) hk
    rcases v with v | v | v
    · exact lv_istore_n hx hb hd rfl hlv hi rfl hw
    · cases hov
    · cases hov
  case astore i =>
    obtain rfl : len = 2 := Nat.eq_of_beq_eq_true hl
    refine ix_sto_ok h (fun v r hov hi H ls locs lv hlv hw => ?_) hk
    rcases v with v | v | (- | v) | v
    · cases hov
    · cases hov
    · exact lv_astoreN hx hb hd hlv hi rfl hw
    · exact lv_astore hx hb hd hlv hi rfl hw
    · exact lv_astore hx hb hd hlv hi rfl hw
  case astore_n i =>
    obtain rfl : len = 1 := Nat.eq_of_beq_eq_true hl
    refine ix_sto_ok h (fun v r hov hi H ls locs lv hlv hw => ?_) hk
    rcases v with v | v | (- | v) | v
    · cases hov
    · cases hov
    · exact lv_astore_nN hx hb hd rfl hlv hi rfl hw
    · exact lv_astore_n hx hb hd rfl hlv hi rfl hw
    · exact lv_astore_n hx hb hd rfl hlv hi rfl hw
  case lstore i =>
    obtain rfl : len = 2 := Nat.eq_of_beq_eq_true hl
    exact ix_sto2_ok h (fun v r hi H ls locs lv hlv hw => lv_lstore hx hb hd hlv hi rfl hw) hk
  case lstore_n i =>
    obtain rfl : len = 1 := Nat.eq_of_beq_eq_true hl
    exact ix_sto2_ok h (fun v r hi H ls locs lv hlv hw => lv_lstore_n hx hb hd rfl hlv hi rfl hw) hk
  case iinc i v =>
    obtain rfl : len = 3 := Nat.eq_of_beq_eq_true hl
    unfold ix_step at h
    dsimp only at h
    split at h
    · next w hg =>
      cases ho2 : Nat.blt i L.length with
      | false => simp only [ho2] at h; cases h
      | true =>
        simp only [ho2] at h
        cases h
        have hi : i < L.length := by simpa using ho2
        intro H ls locs hat
        have hm := ix_al_in (base := y.2.2.1) (sp := y.2.2.2.1) (i := 0) hg
        rw [Nat.zero_add] at hm
        obtain ⟨k9, hk9⟩ := List.getElem?_of_mem hm
        refine lv_iinc hx hb hd hat.2.1 hk9 rfl (by rw [← hat.2.2.1]; exact hi) rfl (fun ls2 hl2 => ?_)
        exact hk H ls2 locs ⟨hat.1, ix_has1 (v := .inl (w + Int32.ofInt v)) hl2, by rw [ix_st1_len]; exact hat.2.2.1, hat.2.2.2⟩
    · cases h
  case iadd =>
    obtain rfl : len = 1 := Nat.eq_of_beq_eq_true hl
    exact ix_ii_ok h hc (fun x z r _ H ls locs hw => lv_iadd hx hb hd hw) hk
  case isub =>
    obtain rfl : len = 1 := Nat.eq_of_beq_eq_true hl
    exact ix_ii_ok h hc (fun x z r _ H ls locs hw => lv_isub hx hb hd hw) hk
  case imul =>
    obtain rfl : len = 1 := Nat.eq_of_beq_eq_true hl
    exact ix_ii_ok h hc (fun x z r _ H ls locs hw => lv_imul hx hb hd hw) hk
  case iand =>
    obtain rfl : len = 1 := Nat.eq_of_beq_eq_true hl
    exact ix_ii_ok h hc (fun x z r _ H ls locs hw => lv_iand hx hb hd hw) hk
  case ior =>
    obtain rfl : len = 1 := Nat.eq_of_beq_eq_true hl
    exact ix_ii_ok h hc (fun x z r _ H ls locs hw => lv_ior hx hb hd hw) hk
  case ishl =>
    obtain rfl : len = 1 := Nat.eq_of_beq_eq_true hl
    exact ix_ii_ok h hc (fun x z r _ H ls locs hw => lv_ishl hx hb hd hw) hk
  case ishr =>
    obtain rfl : len = 1 := Nat.eq_of_beq_eq_true hl
    exact ix_ii_ok h hc (fun x z r _ H ls locs hw => lv_ishr hx hb hd hw) hk
  case idiv =>
    obtain rfl : len = 1 := Nat.eq_of_beq_eq_true hl
    exact ix_ii_ok h hc (fun x z r h0 H ls locs hw => lv_idiv hx hb hd (ix_nz_ok h0) hw) hk
  case irem =>
    obtain rfl : len = 1 := Nat.eq_of_beq_eq_true hl
    exact ix_ii_ok h hc (fun x z r h0 H ls locs hw => lv_irem hx hb hd (ix_nz_ok h0) hw) hk
  case ladd =>
    obtain rfl : len = 1 := Nat.eq_of_beq_eq_true hl
    exact ix_jj_ok h hc (fun x z r _ H ls locs hw => lv_ladd hx hb hd hw) hk
  case lsub =>
    obtain rfl : len = 1 := Nat.eq_of_beq_eq_true hl
    exact ix_jj_ok h hc (fun x z r _ H ls locs hw => lv_lsub hx hb hd hw) hk
  case lmul =>
    obtain rfl : len = 1 := Nat.eq_of_beq_eq_true hl
    exact ix_jj_ok h hc (fun x z r _ H ls locs hw => lv_lmul hx hb hd hw) hk
  case land =>
    obtain rfl : len = 1 := Nat.eq_of_beq_eq_true hl
    exact ix_jj_ok h hc (fun x z r _ H ls locs hw => lv_land hx hb hd hw) hk
  case lor =>
    obtain rfl : len = 1 := Nat.eq_of_beq_eq_true hl
    exact ix_jj_ok h hc (fun x z r _ H ls locs hw => lv_lor hx hb hd hw) hk
  case ldiv =>
    obtain rfl : len = 1 := Nat.eq_of_beq_eq_true hl
    exact ix_jj_ok h hc (fun x z r h0 H ls locs hw => lv_ldiv hx hb hd (ix_nzl_ok h0) hw) hk
  case lrem =>
    obtain rfl : len = 1 := Nat.eq_of_beq_eq_true hl
    exact ix_jj_ok h hc (fun x z r h0 H ls locs hw => lv_lrem hx hb hd (ix_nzl_ok h0) hw) hk
  case lcmp =>
    obtain rfl : len = 1 := Nat.eq_of_beq_eq_true hl
    exact ix_jj_ok h hc (fun x z r _ H ls locs hw => W.lcmp hx hb hd hw) hk
  case ineg =>
    obtain rfl : len = 1 := Nat.eq_of_beq_eq_true hl
    exact ix_i_ok h (fun x r H ls locs hw => lv_ineg hx hb hd hw) hk
  case i2l =>
    obtain rfl : len = 1 := Nat.eq_of_beq_eq_true hl
    exact ix_i_ok h (fun x r H ls locs hw => lv_i2l hx hb hd rfl hw) hk
  case i2b =>
    obtain rfl : len = 1 := Nat.eq_of_beq_eq_true hl
    exact ix_i_ok h (fun x r H ls locs hw => lv_i2b hx hb hd rfl hw) hk
  case i2s =>
    obtain rfl : len = 1 := Nat.eq_of_beq_eq_true hl
    exact ix_i_ok h (fun x r H ls locs hw => lv_i2s hx hb hd rfl hw) hk
  case i2c =>
    obtain rfl : len = 1 := Nat.eq_of_beq_eq_true hl
    exact ix_i_ok h (fun x r H ls locs hw => lv_i2c hx hb hd rfl hw) hk
  case lneg =>
    obtain rfl : len = 1 := Nat.eq_of_beq_eq_true hl
    exact ix_j_ok h (fun x r H ls locs hw => lv_lneg hx hb hd hw) hk
  case l2i =>
    obtain rfl : len = 1 := Nat.eq_of_beq_eq_true hl
    exact ix_j_ok h (fun x r H ls locs hw => lv_l2i hx hb hd rfl hw) hk
  case lshl =>
    obtain rfl : len = 1 := Nat.eq_of_beq_eq_true hl
    unfold ix_step at h
    dsimp only at h
    split at h
    · cases h
      exact ix_go1 (fun H ls locs _ hw => lv_lshl hx hb hd rfl hw) hk
    · cases h
  case dup =>
    obtain rfl : len = 1 := Nat.eq_of_beq_eq_true hl
    rcases st with - | ⟨v | v | (- | v) | v, r⟩
    · cases h
    · cases h; exact ix_go1 (fun H ls locs _ hw => lv_dup hx hb hd rfl hw) hk
    · cases h
    · cases h; exact ix_go1 (fun H ls locs _ hw => lv_dup hx hb hd rfl hw) hk
    · cases h; exact ix_go1 (fun H ls locs _ hw => lv_dup hx hb hd rfl hw) hk
    · cases h; exact ix_go1 (fun H ls locs _ hw => lv_dup hx hb hd rfl hw) hk
  case dup2 =>
    obtain rfl : len = 1 := Nat.eq_of_beq_eq_true hl
    rcases st with - | ⟨v | v | (- | v) | v, - | ⟨w | w | (- | w) | w, r⟩⟩ <;> first | (cases h; done) | (cases h; exact ix_go1 (fun H ls locs _ hw => lv_dup2_11 hx hb hd rfl rfl hw) hk)
  case ifCond cnd off =>
    obtain rfl : len = 3 := Nat.eq_of_beq_eq_true hl
    unfold ix_step at h
    dsimp only at h
    split at h
    · obtain ⟨t, ht, h⟩ := ix_jump_ok h
      cases h
      exact ix_if_ok hx hb hd ht hk
    · cases h
  case if_icmp cnd off =>
    obtain rfl : len = 3 := Nat.eq_of_beq_eq_true hl
    unfold ix_step at h
    dsimp only at h
    split at h
    · obtain ⟨t, ht, h⟩ := ix_jump_ok h
      cases h
      exact ix_icmp_ok hx hb hd ht hk
    · cases h
  case ifnonnull off =>
    obtain rfl : len = 3 := Nat.eq_of_beq_eq_true hl
    unfold ix_step at h
    dsimp only at h
    split at h
    · obtain ⟨t, ht, h⟩ := ix_jump_ok h
      cases h
      exact ix_go1 (fun H ls locs _ hw => lv_ifnonnull hx hb hd ht hw) hk
    · cases h
      exact ix_go1 (fun H ls locs _ hw => lv_ifnonnullN hx hb hd hw) hk
    · cases h
  case goto off =>
    obtain rfl : len = 3 := Nat.eq_of_beq_eq_true hl
    obtain ⟨t, ht, h⟩ := ix_jump_ok h
    cases h
    exact ix_go1 (fun H ls locs _ hw => lv_goto hx hb hd ht hw) hk
  case iaload =>
    obtain rfl : len = 1 := Nat.eq_of_beq_eq_true hl
    exact ix_ald_ok F h hc hd hk
  case baload =>
    obtain rfl : len = 1 := Nat.eq_of_beq_eq_true hl
    exact ix_bald_ok F h hc hd hk
  case laload =>
    obtain rfl : len = 1 := Nat.eq_of_beq_eq_true hl
    exact ix_lald_ok F h hc hd hk
  case aaload =>
    obtain rfl : len = 1 := Nat.eq_of_beq_eq_true hl
    exact ix_aald_ok F h hc hd hk
  case iastore =>
    obtain rfl : len = 1 := Nat.eq_of_beq_eq_true hl
    exact ix_ast_ok F h hc hd hk
  case bastore =>
    obtain rfl : len = 1 := Nat.eq_of_beq_eq_true hl
    exact ix_zast_ok F h hc hd hk
  case lastore =>
    obtain rfl : len = 1 := Nat.eq_of_beq_eq_true hl
    exact ix_last_ok F h hc hd hk
  case aastore =>
    obtain rfl : len = 1 := Nat.eq_of_beq_eq_true hl
    exact ix_aast_ok F h hc hd hk
  case arraylength =>
    obtain rfl : len = 1 := Nat.eq_of_beq_eq_true hl
    exact ix_alen_ok F h hc hd hk
  case newarray t =>
    obtain rfl : len = 2 := Nat.eq_of_beq_eq_true hl
    cases t <;> first | (cases h; done) | skip
    · rcases st with - | ⟨q | q, r⟩
      · cases h
      · cases h
        obtain ⟨h1, h2, h3, h4⟩ := hc
        exact ix_newa_row (at' := .boolean) (ty := .boolean) (t := 16) (t0 := 2) F hR rfl ix_ac_boolean rfl (fun C h => by cases h) (by decide) (by decide) (fun c N => rfl) (ix_nn_ok h1) (ix_le h2) (ix_le h3) (ix_le h4) hd hk
      · cases h
    · rcases st with - | ⟨q | q, r⟩
      · cases h
      · cases h
        obtain ⟨h1, h2, h3, h4⟩ := hc
        exact ix_newa_row (at' := .byte) (ty := .byte) (t := 13) (t0 := 6) F hR rfl ix_ac_byte rfl (fun C h => by cases h) (by decide) (by decide) (fun c N => rfl) (ix_nn_ok h1) (ix_le h2) (ix_le h3) (ix_le h4) hd hk
      · cases h
    · rcases st with - | ⟨q | q, r⟩
      · cases h
      · cases h
        obtain ⟨h1, h2, h3, h4⟩ := hc
        exact ix_newa_row (at' := .int) (ty := .int) (t := 14) (t0 := 0) F hR rfl ix_ac_int rfl (fun C h => by cases h) (by decide) (by decide) (fun c N => rfl) (ix_nn_ok h1) (ix_le h2) (ix_le h3) (ix_le h4) hd hk
      · cases h
    · rcases st with - | ⟨q | q, r⟩
      · cases h
      · cases h
        obtain ⟨h1, h2, h3, h4⟩ := hc
        exact ix_newa_row (at' := .long) (ty := .long) (t := 15) (t0 := 1) F hR rfl ix_ac_long rfl (fun C h => by cases h) (by decide) (by decide) (fun c N => rfl) (ix_nn_ok h1) (ix_le h2) (ix_le h3) (ix_le h4) hd hk
      · cases h
  case anewarray idx =>
    obtain rfl : len = 3 := Nat.eq_of_beq_eq_true hl
    unfold ix_step at h
    dsimp only at h
    split at h
    · next p9 hq =>
      rcases st with - | ⟨q | q, r⟩
      · cases h
      · cases h
        obtain ⟨h1, h2, h3, h4⟩ := hc
        exact ix_anew_ok F hR hq (ix_nn_ok h1) (ix_le h2) (ix_le h3) (ix_le h4) hd hk
      · cases h
    · cases h
  case multianewarray idx dm =>
    obtain rfl : len = 4 := Nat.eq_of_beq_eq_true hl
    unfold ix_step at h
    dsimp only at h
    split at h
    · next t p9 hq =>
      cases hb9 : (Nat.beq dm 2 && (Nat.beq t 18 || Nat.beq t 19)) with
      | false => simp only [hb9, cond_false] at h; cases h
      | true =>
        simp only [hb9, cond_true] at h
        rw [Bool.and_eq_true, Bool.or_eq_true] at hb9
        obtain rfl : dm = 2 := Nat.eq_of_beq_eq_true hb9.1
        split at h
        · cases h
          obtain ⟨h1, h2, h3, h4, h5, h6⟩ := hc
          refine ix_mna_ok F hR hq ?_ (ix_nn_ok h1) (ix_nn_ok h2) (ix_le h3) (ix_le h4) (ix_le h5) (ix_le h6) hd hk
          rcases hb9.2 with q | q
          · exact Or.inl (Nat.eq_of_beq_eq_true q)
          · exact Or.inr (Nat.eq_of_beq_eq_true q)
        · cases h
    · cases h
  case new idx =>
    obtain rfl : len = 3 := Nat.eq_of_beq_eq_true hl
    unfold ix_step at h
    dsimp only at h
    split at h
    · next t p9 hq =>
      cases hb9 : Nat.blt t 13 with
      | false => simp only [hb9, cond_false] at h; cases h
      | true =>
        simp only [hb9, cond_true] at h
        cases h
        obtain ⟨h1, h2⟩ := hc
        exact ix_newc_ok F hR hq (by simpa using hb9) (ix_le h1) (ix_le h2) hd hk
    · cases h
  case getfield idx =>
    obtain rfl : len = 3 := Nat.eq_of_beq_eq_true hl
    unfold ix_step at h
    dsimp only at h
    split at h
    · next q hq => exact ix_get_ok F hq h hc hd hk
    · split at h
      · next q hq => exact ix_getS_ok F hq h hc hd hk
      · cases h
  case getstatic idx =>
    obtain rfl : len = 3 := Nat.eq_of_beq_eq_true hl
    unfold ix_step at h
    dsimp only at h
    split at h
    · next q hq =>
      cases h
      exact ix_gets_ok F hq hd hk
    · cases h
  case putfield idx =>
    obtain rfl : len = 3 := Nat.eq_of_beq_eq_true hl
    unfold ix_step at h
    dsimp only at h
    split at h
    · next q hq =>
      cases hb9 : (q.2.2.2.1 && !(ini && Nat.beq own q.1)) with
      | true => simp only [hb9, cond_true] at h; cases h
      | false =>
        simp only [hb9, cond_false] at h
        exact ix_put_ok F hq hb9 h hc hd hk
    · cases h
  all_goals cases h
end SOUND
