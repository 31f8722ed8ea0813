/-! String.checkIndex, which asks the JDK's Preconditions: a number inside its bounds; System.arraycopy over rows of longs -/
theorem ix_ofW {l : Launch} {y : MethodName} {ws ws' : List Cond} {rm : Room} {Pc : Array Value → State → Prop} {Qc : Array Value → State → Outcome → State → Prop} {mc ms : Nat} {free : Addr → Prop} {cc : ByteArray} {maxL : Nat} {ret : Option FieldType}
    (hy : plainFor y = true) (hw : ws = Cond.code y cc maxL ret :: ws')
    (body : ∀ p e s m args below meth c s₁, BodyLoose p l y (headSpec ws rm) cc maxL ret e s m args below meth c s₁ → c.maxLocals = maxL → Pc args s →
      W p l e (headSpec ws rm).room s m args below meth c s.heap [] 0 0 (MQ below Qc args s mc ms free) (entryFrame m args maxL)) : Met l y ws rm Pc Qc mc ms free := by
  refine MetFree.of_bodySF (code := cc) (maxLocals := maxL) (ret := ret) hy ?_ ?_
  · intro args s m h hn
    obtain ⟨meth, c, h1, h2, h3, h4, h5, h6, -, -⟩ := Cond.code_spec hn (atoms_spec (ws := ws) h _ (by rw [hw]; exact List.mem_cons_self))
    exact ⟨meth, c, h1, h2, h3, h4, h5, h6⟩
  · intro p e s m args below meth c s₁ B hml hP _
    have hh0 : s₁.heap = s.heap := by rw [B.state]; rfl
    obtain ⟨t, a1, o, b1, b2, b3⟩ := body p e s m args below meth c s₁ B hml hP s₁ hh0 (Stand.of_body B)
    exact ⟨t, o, a1, b1, b2, ⟨b3.1, b3.2⟩⟩
theorem ix_cT {y : MethodName} {c : ByteArray} {mL : Nat} {rt : Option FieldType} (j i : Nat) (h : (ix_tab j)[i]? = some (.code y c mL rt)) : Cond.code y c mL rt ∈ ix_T := List.mem_filter.mpr ⟨ix_tab_in (List.mem_of_getElem? h), rfl⟩
theorem ix_dp0 : decode prog_21_method_11_code 0 = .ok (.iload_n 0, 1) := by decide +kernel
theorem ix_dp1 : decode prog_21_method_11_code 1 = .ok (.ifCond .lt 8, 3) := by decide +kernel
theorem ix_dp4 : decode prog_21_method_11_code 4 = .ok (.iload_n 0, 1) := by decide +kernel
theorem ix_dp5 : decode prog_21_method_11_code 5 = .ok (.iload_n 1, 1) := by decide +kernel
theorem ix_dp6 : decode prog_21_method_11_code 6 = .ok (.if_icmp .lt 10, 3) := by decide +kernel
theorem ix_dp16 : decode prog_21_method_11_code 16 = .ok (.iload_n 0, 1) := by decide +kernel
theorem ix_dp17 : decode prog_21_method_11_code 17 = .ok (.ireturn, 1) := by decide +kernel
theorem ix_dk0 : decode prog_17_method_155_code 0 = .ok (.iload_n 0, 1) := by decide +kernel
theorem ix_dk1 : decode prog_17_method_155_code 1 = .ok (.iload_n 1, 1) := by decide +kernel
theorem ix_dk2 : decode prog_17_method_155_code 2 = .ok (.getstatic 1053, 3) := by decide +kernel
theorem ix_dk5 : decode prog_17_method_155_code 5 = .ok (.invokestatic 1059, 3) := by decide +kernel
theorem ix_dk8 : decode prog_17_method_155_code 8 = .ok (.pop, 1) := by decide +kernel
theorem ix_dk9 : decode prog_17_method_155_code 9 = .ok (.return_, 1) := by decide +kernel
theorem ix_pcT : Cond.code yJ17_checkIndex prog_21_method_11_code 3 (some .int) ∈ ix_T := ix_cT 3 233 rfl
theorem ix_ckT : Cond.code yJ15_checkIndex prog_17_method_155_code 2 none ∈ ix_T := ix_cT 3 228 rfl
theorem ix_ckw : ix_in 3227 (.static yJ15_checkIndex) = true ∧ ix_in 1016 (.initialized RJ15) = true ∧ ix_in 3229 (.fieldLink RJ15 1053 "jdk/internal/util/Preconditions" "SIOOBE_FORMATTER" "Ljava/util/function/BiFunction;") = true ∧ ix_in 3231 (.methodLink RJ15 1059 yJ17_checkIndex) = true ∧ ix_in 3232 (.static yJ17_checkIndex) = true ∧ ix_in 1018 (.initialized yJ17_checkIndex.cls) = true := by decide +kernel
theorem ix_cpw : ix_in 3092 (.static arraycopyName) = true ∧ ix_in 3093 (.native arraycopyName) = true ∧ ix_in 1015 (.initialized "java/lang/System") = true := by decide +kernel
theorem ix_pre_met (l : Launch) {i m : Int32} {v : Value} (H0 : Heap) (hi : ¬ i < 0) (hm : i < m) (hv : v = .null ∨ ∃ t : Nat, v = .ref t) : Met l yJ17_checkIndex (Cond.code yJ17_checkIndex prog_21_method_11_code 3 (some .int) :: ix_T) { frames := 0, cells := 0, slots := 0, locals := 0 } (va_Pc [.int i, .int m, v] (fun U => U.heap = H0)) (va_Qi (fun _ (_ : Unit) => True) (fun _ t => t.heap = H0) (fun _ => False)) 0 0 (fun _ => False) := by
  refine ix_ofW (cc := prog_21_method_11_code) (maxL := 3) (ret := some .int) (by decide) rfl ?_
  intro p e s mm args below meth cd s₁ B hml hP
  obtain ⟨rfl, hH0⟩ := hP
  have hx := B.exec
  have hb := B.bytes
  have hr := B.returns
  have hlocks := B.notSynchronized
  rw [lg_entry_eq]
  have hl := lv_entry ([.int i, .int m, v]) (n := 3) (by rcases hv with rfl | ⟨t, rfl⟩ <;> exact Nat.le_of_ble_eq_true rfl)
  have hl2 : lv_has (lg_sl ([.int i, .int m, v]) ++ List.replicate (3 - (lg_sl ([.int i, .int m, v])).length) Slot.unset).toArray 3 [(0, .int i), (1, .int m)] := ix_mono hl (fun q hq => by rcases hv with rfl | ⟨t, rfl⟩ <;> (simp only [List.mem_cons, List.not_mem_nil, or_false] at hq; rcases hq with rfl | rfl <;> first | exact List.mem_cons_self | exact List.mem_cons_of_mem _ List.mem_cons_self))
  generalize (lg_sl ([.int i, .int m, v]) ++ List.replicate (3 - (lg_sl ([.int i, .int m, v])).length) Slot.unset).toArray = ls at hl hl2 ⊢
  refine lv_iload_n hx hb ix_dp0 rfl (lv_at hl2 0 rfl) ?_
  refine lv_if_lt hx hb ix_dp1 (tgt := 9) rfl (fun q => absurd q hi) (fun _ => ?_)
  refine lv_iload_n hx hb ix_dp4 rfl (lv_at hl2 0 rfl) ?_
  refine lv_iload_n hx hb ix_dp5 rfl (lv_at hl2 1 rfl) ?_
  refine lv_icmp_lt hx hb ix_dp6 (tgt := 16) rfl (fun _ => ?_) (fun q => absurd hm q)
  refine lv_iload_n hx hb ix_dp16 rfl (lv_at hl2 0 rfl) ?_
  exact W.zret (ty := .int) hx hb hr rfl (fun t ht _ => ⟨⟨i, (), rfl, trivial, ht.trans hH0⟩, va_S.F va_S.rf ht⟩) (fun q hq => by cases hq) ix_dp17 hlocks
theorem ix_ck_met (l : Launch) (D : va_G) (cy : Nat → ClassId) (base : Nat) (sp : Nat → Nat) {i m : Int32} {M : ix_M} {Q : ix_Q} (hi : ¬ i < 0) (hm : i < m) (hQ : Q none M) : Met l yJ15_checkIndex (Cond.code yJ15_checkIndex prog_17_method_155_code 2 none :: ix_T) { frames := 1, cells := 0, slots := 0, locals := 64 } (va_Pc [.int i, .int m] (ix_Pc D cy base sp M)) (ix_Qc D cy base sp Q) 0 0 (fun x => base ≤ x) := by
  refine ix_ofW (cc := prog_17_method_155_code) (maxL := 2) (ret := none) (by decide) rfl ?_
  intro p e s mm args below meth cd s₁ B hml hP
  obtain ⟨rfl, ⟨hP, hZ⟩, hK⟩ := hP
  have hx := B.exec
  have hb := B.bytes
  have hr := B.returns
  have hlocks := B.notSynchronized
  have hts0 := atoms_spec (ws := Cond.code yJ15_checkIndex prog_17_method_155_code 2 none :: ix_T) B.pre
  have hts : ∀ w ∈ ix_T, w.before ([.int i, .int m] : List Value).toArray s = true := fun w hw => hts0 w (List.mem_cons_of_mem _ hw)
  have hown : s.vm.findClass RJ15 = some mm.cls := findClass_of_methodNamed B.named
  obtain ⟨w1, w2, w3, w4, w5, w6⟩ := ix_ckw
  rw [lg_entry_eq]
  have hl := lv_entry ([.int i, .int m]) (n := 2) (Nat.le_of_ble_eq_true rfl)
  generalize (lg_sl ([.int i, .int m]) ++ List.replicate (2 - (lg_sl ([.int i, .int m])).length) Slot.unset).toArray = ls at hl ⊢
  refine lv_iload_n hx hb ix_dk0 rfl (lv_at hl 0 rfl) ?_
  refine lv_iload_n hx hb ix_dk1 rfl (lv_at hl 1 rfl) ?_
  obtain ⟨v, hv, hZv⟩ : ∃ v : Value, (v = .null ∨ ∃ t : Nat, v = .ref t) ∧ va_Z "jdk/internal/util/Preconditions" "SIOOBE_FORMATTER" "Ljava/util/function/BiFunction;" v (fun x => base ≤ x) s s.heap := by
    rcases hZ.2.2.2 with h | ⟨t, h⟩
    · exact ⟨_, Or.inl rfl, h⟩
    · exact ⟨_, Or.inr ⟨t, rfl⟩, h⟩
  refine va_gets (H := s.heap) (locs := []) hx hb hZv va_S.rf hown (hts _ (ix_in_T w3)) (fun x h => h) ix_dk2 ?_
  refine va_calli (A0 := fun x => base ≤ x) (va_runS (As := [.int i, .int m, v]) (rest := []) (g := F0 mm 5 ls [v, .int m, .int i]) ⟨hx, hb, hml, hown, hts⟩ (ix_pre_met l s.heap hi hm hv) (va_cwS 3 hts (ix_GoodIn (fun w hw => by
      simp only [va_wsS, List.mem_append, List.mem_cons, List.not_mem_nil, or_false] at hw
      rcases hw with (rfl | rfl | rfl) | rfl | hw
      · exact ix_in_T w4
      · exact ix_in_T w5
      · exact ix_in_T w6
      · exact ix_pcT
      · exact hw)) rfl rfl rfl ⟨by decide, by decide, by decide +kernel⟩ ⟨Nat.le_refl _, by show 8 + (3 + 11) + 0 ≤ 64; decide⟩) ⟨fun a U g mk q => ⟨q.1, q.2⟩, fun U hU _ => ⟨rfl, hU⟩⟩ rfl rfl hl.1 rfl (lv_room (Nat.le_of_ble_eq_true rfl)) ix_dk5 ⟨Nat.le_refl _, Nat.le_refl _⟩) va_S.rf (fun q _ h => h.elim) (fun q h => h.elim) (fun r u t H1 locs ht hvm hw hB hz1 hk1 hS => ?_)
  have e1 : H1 = s.heap := by rw [← ht]; exact hB
  refine lv_pop hx hb ix_dk8 rfl ?_
  exact W.vret hx hb hr (fun t2 ht2 _ => ⟨none, M, rfl, hQ, by rw [ht2, e1]; exact hP, va_S.F hS ht2⟩) hS.2.2 ix_dk9 hlocks
section SOUND
variable {b : ix_B} {y : ix_Y} {cc : ByteArray} {own mc ms : Nat} {ini : Bool} {sc : Option (Nat × (Nat → Int32))} {pc k n : Nat} {L : List (Option ix_V)} {M : ix_M}
theorem ix_nn_int {z : Int32} (hz : ¬ z < 0) : z.toInt = (z.toNatClampNeg : Int) := by
  have hz0 : (0 : Int) ≤ z.toInt := by
    have := Int32.not_lt.mp hz
    simpa using Int32.le_iff_toInt_le.mp this
  show z.toInt = ((z.toInt.toNat : Nat) : Int)
  omega
theorem ix_copy_ok {d idx : Nat} {c dp sp : Int32} {a q : Nat} {r : List ix_V} (F : ix_F b y cc own ini sc) (hfr : d + 2 ≤ (ix_Rm b).frames ∧ 64 * d + 128 ≤ (ix_Rm b).locals) (hlink : Cond.methodLink (ix_cn own) idx arraycopyName ∈ ix_T) (h8 : (r.map ix_cat).sum ≤ 8) (ht : a < M.1 ∧ M.2.1 a = 15 ∧ q < M.1 ∧ M.2.1 q = 15) (hp : ¬ sp < 0 ∧ ¬ dp < 0 ∧ ¬ c < 0) (h4 : sp.toNatClampNeg + c.toNatClampNeg ≤ M.2.2.1 a) (h5 : dp.toNatClampNeg + c.toNatClampNeg ≤ M.2.2.1 q) (hk : ix_Pm b y (pc + 3, L, r, k, n, ix_cp M a q sp.toNatClampNeg dp.toNatClampNeg c.toNatClampNeg)) (hd : decode cc pc = .ok (.invokestatic idx, 3)) : ix_Pm b y (pc, L, .inl c :: .inl dp :: .inr (.inr (.inl (some q))) :: .inl sp :: .inr (.inr (.inl (some a))) :: r, k, n, M) := by
  obtain ⟨hx, hb, hml, hown, hts, hK, hA, hsz, hini, hsc, hH, ho⟩ := F
  obtain ⟨N, tg, ln, I, J, R⟩ := M
  obtain ⟨t1, t2, t3, t4⟩ := ht
  obtain ⟨p1, p2, p3⟩ := hp
  obtain ⟨w1, w2, w3⟩ := ix_cpw
  have t2 : tg a = 15 := t2
  have t4 : tg q = 15 := t4
  have h4 : sp.toNatClampNeg + c.toNatClampNeg ≤ ln a := h4
  have h5 : dp.toNatClampNeg + c.toNatClampNeg ≤ ln q := h5
  intro H ls locs hat
  have hc0 := hat.1.arr t1 t2 (by decide)
  have hc1 := hat.1.arr t3 t4 (by decide)
  rw [ix_ar_j t2] at hc0
  rw [ix_ar_j t4] at hc1
  have hc0 : H[y.2.2.1 + a]? = some (vp_cell (y.2.1 15) (ln a, .inr (.inl (J a)))) := hc0
  have hc1 : H[y.2.2.1 + q]? = some (vp_cell (y.2.1 15) (ln q, .inr (.inl (J q)))) := hc1
  have hl : y.2.2.1 + q < H.size := (Array.getElem?_eq_some_iff.mp hc1).1
  have hcs : ((r.map (ix_yg y)).map fun v => v.category).sum ≤ 8 := by rw [ix_cats (base := y.2.2.1) (sp := y.2.2.2.1) r]; exact h8
  intro T hT X
  obtain ⟨-, k0, hk0, cm0, hkk0⟩ := (hK.1.2 1 _ rfl).1 (ln a) (fun j => .long (J a j))
  obtain ⟨-, k1, hk1, cm1, hkk1⟩ := (hK.1.2 1 _ rfl).1 (ln q) (fun j => .long (J q j))
  obtain ⟨vm', X', step⟩ := X.arraycopy hx hown (hts _ hlink) (hts _ (ix_in_T w2)) (hts _ (ix_in_T w1)) (hts _ (ix_in_T w3)) (src := y.2.2.1 + a) (dst := y.2.2.1 + q) (cs := vp_cell (y.2.1 15) (ln a, .inr (.inl (J a)))) (cd := vp_cell (y.2.1 15) (ln q, .inr (.inl (J q)))) (srcPos := sp) (destPos := dp) (n := c) (by rw [hT]; exact hc0) (by rw [hT]; exact hc1)
    (fun _ h => by cases h) (fun _ h => by cases h) (fun h => by cases h) (fun h => by cases h) hk0 hk1 hkk0 hkk1 (by simp [refKind]) p1 p2 p3
    (by rw [ix_nn_int p1, ix_nn_int p3]; show ¬ _ > ((arrV (y.2.1 15) (ln a) (fun j => .long (J a j))).slots.size : Int); rw [arrV_size]; omega)
    (by rw [ix_nn_int p2, ix_nn_int p3]; show ¬ _ > ((arrV (y.2.1 15) (ln q) (fun j => .long (J q j))).slots.size : Int); rw [arrV_size]; omega)
    (fun vm₁ _ i hi => by
      have e : (vp_cell (y.2.1 15) (ln a, .inr (.inl (J a)))).slots.getD (sp.toNatClampNeg + i) .null = .long (J a (sp.toNatClampNeg + i)) := by
        show (arrV (y.2.1 15) (ln a) (fun j => .long (J a j))).slots.getD _ _ = _
        rw [Array.getD_eq_getD_getElem?, arrV_read _ _ (by omega)]
        rfl
      refine ⟨?_, ?_⟩
      · rw [e]
        rfl
      · rw [e]
        exact trivial)
    (g := F0 (ix_mi b) pc ls (.int c :: .int dp :: .ref (y.2.2.1 + q) :: .int sp :: .ref (y.2.2.1 + a) :: r.map (ix_yg y))) rfl (by rw [hml]; exact hat.2.1.1) (rest := r.map (ix_yg y)) rfl (by rw [hb]; exact hd) (Nat.le_trans (show 1 ≤ d + 2 by omega) hfr.1) (Nat.le_trans (show 2 * 0 + ((r.map (ix_yg y)).map fun v => v.category).sum + (nativeFrameWords "java/lang/System" "arraycopy" 5 + 11) ≤ 64 * d + 128 by
      have : nativeFrameWords "java/lang/System" "arraycopy" 5 ≤ 100 := by decide
      omega) hfr.2)
  have e1 : copied (vp_cell (y.2.1 15) (ln a, .inr (.inl (J a)))) (vp_cell (y.2.1 15) (ln q, .inr (.inl (J q)))) sp dp c = vp_cell (y.2.1 15) (ln q, .inr (.inl (va_cpy (J a) (J q) sp.toNatClampNeg dp.toNatClampNeg c.toNatClampNeg))) := va_copied (fun z => .long z) _ _ (J a) (J q) h4
  rw [e1] at X' step
  generalize hC : vp_cell (y.2.1 15) (ln q, .inr (.inl (va_cpy (J a) (J q) sp.toNatClampNeg dp.toNatClampNeg c.toNatClampNeg))) = C at X' step
  have hheap : ((T.setVm vm').setCell (y.2.2.1 + q) C).heap = H.setIfInBounds (y.2.2.1 + q) C := by rw [← hT]; rfl
  have oq : ∀ x : Nat, x ≠ y.2.2.1 + q → (H.setIfInBounds (y.2.2.1 + q) C)[x]? = H[x]? := fun x hx => by simp [Array.getElem?_setIfInBounds, Ne.symm hx]
  have hz : (H.setIfInBounds (y.2.2.1 + q) C).size = H.size := by simp
  have hn : (H.setIfInBounds (y.2.2.1 + q) C)[y.2.2.1 + q]? = some C := by simp [Array.getElem?_setIfInBounds, hl]
  have hP' : ix_P y.1 y.2.1 y.2.2.1 (ix_cp (N, tg, ln, I, J, R) a q sp.toNatClampNeg dp.toNatClampNeg c.toNatClampNeg) (H.setIfInBounds (y.2.2.1 + q) C) := by
    refine hat.1.put (a := q) rfl hz oq (fun _ => ?_) (ix_E_other (fun _ _ => rfl) (fun x hx => by simp [ix_cpj, hx]) (fun _ _ => rfl))
    unfold ix_E ix_cp
    dsimp only
    rw [if_neg (show ¬ (tg q < 13) by omega), ix_ar_j t4]
    show (H.setIfInBounds (y.2.2.1 + q) C)[y.2.2.1 + q]? = some (vp_cell _ _)
    rw [hn, ← hC, t4]
    simp [ix_cpj]
  have hS' := fun locs1 h => (⟨by rw [hz]; exact hat.2.2.2.1, fun x g1 g2 => by
      rw [oq x (fun e => g2 (by rw [e]; exact hA _ (Nat.le_add_right _ _)))]
      exact hat.2.2.2.2.1 x g1 g2, h⟩ : va_S y.2.2.2.2.1 y.2.2.2.2.2.1 (H.setIfInBounds (y.2.2.1 + q) C) locs1)
  obtain ⟨t, a1, b1⟩ := hk _ ls _ ⟨hP', hat.2.1, hat.2.2.1, hS' _ (fun x hx => by
      rcases List.mem_append.mp hx with h | h
      · exact hat.2.2.2.2.2 x h
      · obtain ⟨z, -, hz⟩ := List.mem_map.mp h
        rw [← hz]
        exact hA _ (Nat.le_add_right _ _))⟩ _ hheap X'
  exact ⟨t, step t a1, b1⟩
end SOUND
