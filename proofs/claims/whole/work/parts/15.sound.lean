theorem ix_al_none {base : Nat} {sp : Nat → Nat} : ∀ (n i : Nat), ix_al base sp i (List.replicate n none) = []
  | 0, _ => rfl
  | n + 1, i => by
    rw [List.replicate_succ]
    exact ix_al_none n (i + 1)
theorem ix_ent_al {base : Nat} {sp : Nat → Nat} {n : Nat} : ∀ (a : List ix_V) (i : Nat), ix_al base sp i (ix_ent a ++ List.replicate n none) = lv_args i (a.map (ix_g base sp))
  | [], i => ix_al_none n i
  | .inl x :: t, i => by
    show (i, Value.int x) :: ix_al base sp (i + 1) (ix_ent t ++ List.replicate n none) = _
    rw [ix_ent_al t (i + 1)]
    rfl
  | .inr (.inl x) :: t, i => by
    show (i, Value.long x) :: ix_al base sp (i + 1 + 1) (ix_ent t ++ List.replicate n none) = _
    rw [ix_ent_al t (i + 1 + 1)]
    rfl
  | .inr (.inr (.inl none)) :: t, i => by
    show (i, Value.null) :: ix_al base sp (i + 1) (ix_ent t ++ List.replicate n none) = _
    rw [ix_ent_al t (i + 1)]
    rfl
  | .inr (.inr (.inl (some x))) :: t, i => by
    show (i, Value.ref (base + x)) :: ix_al base sp (i + 1) (ix_ent t ++ List.replicate n none) = _
    rw [ix_ent_al t (i + 1)]
    rfl
  | .inr (.inr (.inr x)) :: t, i => by
    show (i, Value.ref (sp x)) :: ix_al base sp (i + 1) (ix_ent t ++ List.replicate n none) = _
    rw [ix_ent_al t (i + 1)]
    rfl
theorem ix_ent_len {base : Nat} {sp : Nat → Nat} : ∀ (a : List ix_V), (lg_sl (a.map (ix_g base sp))).length = (ix_ent a).length
  | [] => rfl
  | .inl x :: t => congrArg Nat.succ (ix_ent_len t)
  | .inr (.inl x) :: t => congrArg (fun z => z + 2) (ix_ent_len t)
  | .inr (.inr (.inl none)) :: t => congrArg Nat.succ (ix_ent_len t)
  | .inr (.inr (.inl (some x))) :: t => congrArg Nat.succ (ix_ent_len t)
  | .inr (.inr (.inr x)) :: t => congrArg Nat.succ (ix_ent_len t)
theorem ix_ag_ok {D : va_G} {cy : Nat → ClassId} {base : Nat} {M M' : ix_M} {H : Heap} (h : ix_agr M M') (hP : ix_P D cy base M H) : ix_P D cy base M' H := by
  obtain ⟨N, tg, ln, I, J, R⟩ := M
  obtain ⟨N', tg', ln', I', J', R'⟩ := M'
  obtain ⟨rfl, h⟩ := h
  refine ⟨hP.1, fun a ha => ?_⟩
  have ha : a < N' := ha
  obtain ⟨h1, h2, h3⟩ := h a ha
  by_cases ht : tg a < 13
  · have hobj := hP.obj (a := a) (ci := tg a) ha rfl ht
    unfold ix_E
    dsimp only
    rw [if_pos (show tg' a < 13 by rw [h1]; exact ht), h1]
    obtain ⟨r, q1, q2⟩ := hobj
    have hr : r = (ix_cn (tg a), ix_TT (tg a), ix_NN (tg a)) := Option.some.inj (q1.symm.trans (ix_clsv (tg a) ht))
    subst hr
    refine ⟨_, q1, q2.to (fun j hj => ?_)⟩
    show vp_V ((List.range (ix_NN (tg a))).map _) j = vp_V ((List.range (ix_NN (tg a))).map _) j
    rw [ix_vV hj, ix_vV hj, ix_fvk, ix_fvk]
    obtain ⟨e1, e2, e3⟩ := h2 ht j hj
    split
    · next e => rw [e1 e]
    · next e => rw [e2 e]
    · next e4 e5 => rw [e3 e4 e5]
  · have harr := hP.arr (a := a) (t := tg a) ha rfl ht
    obtain ⟨e0, e⟩ := h3 ht
    unfold ix_E
    dsimp only
    rw [if_neg (show ¬ tg' a < 13 by rw [h1]; exact ht), h1]
    have harr : H[base + a]? = some (vp_cell _ _) := harr
    show H[base + a]? = some (vp_cell _ _)
    rw [harr]
    congr 1
    unfold ix_ar
    dsimp only
    rw [h1, e0]
    by_cases c1 : tg a = 15
    · rw [if_pos c1, if_pos c1, vp_cell_l, vp_cell_l]
      unfold arrV
      congr 2
      funext j
      dsimp only
      rw [(e j.val j.isLt).1 c1]
    · rw [if_neg c1, if_neg c1]
      by_cases c2 : tg a ≤ 16
      · rw [if_pos c2, if_pos c2, vp_cell_i, vp_cell_i]
        unfold arrV
        congr 2
        funext j
        dsimp only
        rw [(e j.val j.isLt).2.1 c1 c2]
      · rw [if_neg c2, if_neg c2, vp_cell_q, vp_cell_q]
        unfold arrV
        congr 2
        funext j
        dsimp only
        rw [(e j.val j.isLt).2.2 (by omega)]
theorem ix_ag_Pm {b : ix_B} {y : ix_Y} : ∀ (pc : Nat) (ls ls' : List (Option ix_V)) (st : List ix_V) (k n : Nat) (M M' : ix_M), ix_agr M M' → ix_sub ls ls' → ix_Pm b y (pc, ls', st, k, n, M') → ix_Pm b y (pc, ls, st, k, n, M) := fun pc L L' st k n M M' h hs hk H ls locs hat => hk H ls locs ⟨ix_ag_ok h hat.1, ix_mono hat.2.1 (fun q hq => by
    obtain ⟨j, v, h1, h2⟩ := ix_al_of hq
    rw [h2]
    exact ix_al_in (hs.2 j v h1)), hs.1.trans hat.2.2.1, hat.2.2.2⟩
theorem ix_v_ok {c : ByteArray} {l : List ix_In} {pc : Nat} {v : Instr × Nat} (h : ix_v c l = true) (hv : ix_lk l pc = some v) : decode c pc = .ok v := by
  unfold ix_v at h
  have := List.all_eq_true.mp h (pc, v) (ix_lk_mem hv)
  simp only [decide_eq_true_eq] at this
  exact this
theorem ix_il_ok {l : List ix_In} {pc : Nat} {v : Instr × Nat} (h : l.all (fun q => ix_ilen q.2.1 q.2.2) = true) (hv : ix_lk l pc = some v) : ix_ilen v.1 v.2 = true := List.all_eq_true.mp h (pc, v) (ix_lk_mem hv)
set_option maxHeartbeats 4000000 in
/-- THE INTERPRETER IS SOUND: what it says of a method, the machine does -/
theorem ix_sound (l : Launch) (D : va_G) (cy : Nat → ClassId) (base : Nat) (sp : Nat → Nat) (hmt : ∀ {i : Nat} {q : ix_Mt}, ix_mt i = some q → ix_mok q) : ∀ d, ix_Snd l D cy base sp d := by
  intro d
  induction d with
  | zero => exact fun i q a M Q hm h => h.elim
  | succ d ih =>
    intro i q a M Q hm h
    obtain ⟨yn, c, mL, rt, o, na, mc, ms, il, p9⟩ := q
    have hok := hmt hm
    unfold ix_C at h
    rw [hm] at h
    dsimp only at h
    obtain ⟨h1, h2, h3⟩ := h
    obtain ⟨k1, k2, k3, k4, k5, k6, k7, k8, k9⟩ := hok
    refine ix_ofW (cc := c) (maxL := mL) (ret := rt) k3 rfl ?_
    intro p e s m args below meth cd s₁ B hml hv
    obtain ⟨rfl, ⟨hP, hZ⟩, hK⟩ := hv
    have hx := B.exec
    have hb := B.bytes
    have hr := B.returns
    have hts0 := atoms_spec (ws := ix_ws (yn, c, mL, rt, o, na, mc, ms, il, p9)) B.pre
    have hown : s.vm.findClass yn.cls = some m.cls := findClass_of_methodNamed B.named
    have hlocks := B.notSynchronized
    have hin : meth.name = yn.name := (name_of_methodNamed B.named B.method).1
    rw [lg_entry_eq]
    have hl := lv_entry (a.map (ix_g base sp)) (n := mL) (by rw [ix_ent_len]; exact h2)
    generalize (lg_sl (a.map (ix_g base sp)) ++ List.replicate (mL - (lg_sl (a.map (ix_g base sp))).length) Slot.unset).toArray = ls at hl ⊢
    rw [k6] at hown
    have hFr : ix_F (p, l, e, (headSpec (ix_ws (yn, c, mL, rt, o, na, mc, ms, il, p9)) { frames := d + 1 + 1, cells := mc, slots := ms, locals := 64 * (d + 1 + 1) }).room, s, m, (a.map (ix_g base sp)).toArray, below, meth, cd, MQ below (ix_Qc D cy base sp Q) (a.map (ix_g base sp)).toArray s mc ms (fun x => base ≤ x)) (D, cy, base, sp, (fun x => base ≤ x), s.heap, mL) c o (Nat.blt 0 mc) none := by
      refine ⟨hx, hb, hml, hown, fun w hw => hts0 w (List.mem_cons_of_mem _ hw), hK, fun q hq => hq, by show base ≤ s.heap.size; rw [hP.1]; exact Nat.le_add_right _ _, fun hi => ?_, fun L xs hs => (by cases hs), ⟨rfl, hZ⟩, k5⟩
      rw [hin]
      exact k8 (by simpa using hi)
    refine h3 (ix_Pm _ _) (ix_Phi_ok hFr ⟨Nat.le_refl _, Nat.le_refl _⟩ ⟨Nat.le_refl _, by show 64 * d + 128 ≤ 64 * (d + 1 + 1); omega⟩ hmt ih (fun {pc v} hv => ⟨ix_v_ok k1 hv, ix_il_ok k9 hv⟩) ?_) ix_ag_Pm s.heap ls [] ⟨hP, ?_, ?_, va_S.rf⟩
    · intro pc k n L M' H ls locs hat hk hn
      have hq : ∀ r : Option ix_V, Q r M' → ∀ t : State, t.heap = H → s.WarmedH t.vm → ix_Qc D cy base sp Q (a.map (ix_g base sp)).toArray s (.returned (r.map (ix_g base sp))) t := fun r hQ t ht _ => ⟨r, M', rfl, hQ, by rw [ht]; exact hat.1, va_S.F hat.2.2.2 ht⟩
      refine ⟨fun v hv hQ hd => ?_, fun v hv hQ hd => ?_, fun v hv hQ hd => ?_, fun hv hQ hd => ?_⟩
      · refine W.widen (k := mc) (n := ms) hk hn ?_
        cases rt with
        | none => exact hv.elim
        | some ty => exact W.zret (ty := ty) hx hb hr (by
            unfold ix_rok at hv
            split at hv
            · next e => cases e; rfl
            · next e => cases e; exact congrArg Value.int hv
            · next e => cases e; exact congrArg Value.int hv
            · next e => cases e; exact ix_b01 hv
            · exact hv.elim) (hq _ hQ) hat.2.2.2.2.2 hd hlocks
      · subst hv
        exact W.widen (k := mc) (n := ms) hk hn (W.lret hx hb hr (hq _ hQ) hat.2.2.2.2.2 hd hlocks)
      · subst hv
        exact W.widen (k := mc) (n := ms) hk hn (W.aret (v := va_rf (v.map (fun k => base + k))) hx hb hr (Or.inl ⟨_, rfl⟩) (by cases v with
          | none => exact Or.inl rfl
          | some z => exact Or.inr ⟨_, rfl⟩) (hq _ hQ) hat.2.2.2.2.2 hd hlocks)
      · subst hv
        exact W.widen (k := mc) (n := ms) hk hn (W.vret hx hb hr (hq _ hQ) hat.2.2.2.2.2 hd hlocks)
    · show lv_has ls mL (ix_al base sp 0 (ix_pad (ix_ent a) mL))
      unfold ix_pad
      rw [ix_ent_al]
      exact hl
    · show (ix_pad (ix_ent a) mL).length = mL
      unfold ix_pad
      rw [List.length_append, List.length_replicate]
      omega
