/-! THE CLAIM OUT OF ONE WALK OF THE LAW'S BODY. Your part is whole_start (and what it stands on); all else here is the same for every law, but numbers. -/
def R_law : String := "PostUnionLaw"
def lw_P (b : Addr) (xs : List Int32) (args : Array Value) (s : State) : Prop := args = #[.ref b] ∧ s.IntsAt b xs ∧ xs.length ≤ 4608 ∧ (Jvm.Cond.and given_1 narrow_1).before args s = true
def lw_Q (_ : Array Value) (s : State) (o : Outcome) (t : State) : Prop := o = .returned (some (.int 1)) ∧ Framed s o t [] 600000 7302250
def lw_Z (below : List Frame) (a : Array Value) (s : State) : State → Prop := fun t => ∃ o, t.status = .running ∧ Ended t below o ∧ lw_Q a s o t
/-- the law's own end, with 1 on the stack, nothing written that was there before, its room as the claim has it -/
theorem lw_ret {p : Program} {l : Launch} {e : Env} {s : State} {m : MethodId} {below : List Frame} {meth : Method} {c : Code} {b : Nat} (hx : p.tables.exec = Jvm.exec) (hb : c.code = code) (hr : meth.sig.returnType = ret) (hlocks : meth.locks = false) {pc : Nat} {H : Heap} {ls : Array Slot} (hdg : decode code pc = .ok (.ireturn, 1)) : W p l e room_1 s m #[Value.ref b] below meth c H [] 600000 7302250 (lw_Z below #[Value.ref b] s) (F0 m pc ls [.int 1]) := by
  intro T hT X
  obtain ⟨fs, hret, hrun, hended, hW, hframe⟩ := X.leave (v := some (.int 1)) (hlocks := hlocks) (fun h => by rw [hr] at h; cases h)
  have hmeth' : T.vm.method? m = some meth := X.method'
  refine ⟨T.setFrames fs, ?_, .returned (some (.int 1)), hrun, hended, rfl, ⟨_, rfl⟩, hW, hframe⟩
  jvm_step X.here [X.here.top, hx, hb, hdg, hmeth', hr, ret, narrow_b1]
  (try refine ⟨rfl, ?_⟩); (try refine ⟨rfl, ?_⟩)
  first | (intro acts; rw [hret _ acts rfl rfl rfl]) | rw [hret _ _ rfl rfl rfl]
  exact Steps.refl _
/-- what holds at the law's entry: the machine, the code, the tables' words (any of lw_tbl by 'hts w (by decide +kernel)'), the script of L ints xs at the cell b, what the Statement gives of the start (any of its parts by flat_of_before) -/
def lw_At (p : Program) (s : State) (m : MethodId) (meth : Method) (c : Code) (b L : Nat) (xs : Nat → Int32) : Prop :=
  p.tables.exec = Jvm.exec ∧ c.code = code ∧ meth.sig.returnType = ret ∧ c.maxLocals = 4 ∧ s.vm.findClass R_law = some m.cls ∧ (∀ w ∈ lw_tbl, w.before #[Value.ref b] s = true) ∧ va_X b L xs s s.heap ∧ b < s.heap.size ∧ meth.locks = false ∧ (Jvm.Cond.and given_1 narrow_1).before #[Value.ref b] s = true
def ix_M0 : ix_M := (0, fun _ => 0, fun _ => 0, fun _ _ => 0, fun _ _ => 0, fun _ _ => none)
/-- the law, told to the interpreter -/
def ix_D0 (L : Nat) (xs : Nat → Int32) : ix_D := (13, ix_lawf, some .boolean, 600000, 7302250, false, some (L, xs))
theorem ix_nwv : (ix_nw.zip [1033, 1079, 1144, 1151, 1217, 1239, 2043, 2087, 2107, 2160, 2205]).all (fun q => ix_in0 q.2 (.methodLinkNest (ix_cn q.1.1) q.1.2.1 q.1.2.2 RX11)) = true := by decide +kernel
theorem ix_owv : (ix_ow.zip [1149, 1038, 1030]).all (fun q => ix_in0 q.2 (.arrayOver q.1)) = true := by decide +kernel
theorem ix_nwT : ∀ q ∈ ix_nw, Cond.methodLinkNest (ix_cn q.1) q.2.1 q.2.2 RX11 ∈ lw_tbl := by
  intro q hq
  obtain ⟨k, hk⟩ := List.getElem?_of_mem hq
  have hlt : k < 11 := (List.getElem?_eq_some_iff.mp hk).1
  have h := List.all_eq_true.mp ix_nwv
  match k, hlt, hk with
  | 0, _, hk => cases hk; exact ix_in0_T (h (ix_nw.zip [1033, 1079, 1144, 1151, 1217, 1239, 2043, 2087, 2107, 2160, 2205])[0] (List.getElem_mem (by decide)))
  | 1, _, hk => cases hk; exact ix_in0_T (h (ix_nw.zip [1033, 1079, 1144, 1151, 1217, 1239, 2043, 2087, 2107, 2160, 2205])[1] (List.getElem_mem (by decide)))
  | 2, _, hk => cases hk; exact ix_in0_T (h (ix_nw.zip [1033, 1079, 1144, 1151, 1217, 1239, 2043, 2087, 2107, 2160, 2205])[2] (List.getElem_mem (by decide)))
  | 3, _, hk => cases hk; exact ix_in0_T (h (ix_nw.zip [1033, 1079, 1144, 1151, 1217, 1239, 2043, 2087, 2107, 2160, 2205])[3] (List.getElem_mem (by decide)))
  | 4, _, hk => cases hk; exact ix_in0_T (h (ix_nw.zip [1033, 1079, 1144, 1151, 1217, 1239, 2043, 2087, 2107, 2160, 2205])[4] (List.getElem_mem (by decide)))
  | 5, _, hk => cases hk; exact ix_in0_T (h (ix_nw.zip [1033, 1079, 1144, 1151, 1217, 1239, 2043, 2087, 2107, 2160, 2205])[5] (List.getElem_mem (by decide)))
  | 6, _, hk => cases hk; exact ix_in0_T (h (ix_nw.zip [1033, 1079, 1144, 1151, 1217, 1239, 2043, 2087, 2107, 2160, 2205])[6] (List.getElem_mem (by decide)))
  | 7, _, hk => cases hk; exact ix_in0_T (h (ix_nw.zip [1033, 1079, 1144, 1151, 1217, 1239, 2043, 2087, 2107, 2160, 2205])[7] (List.getElem_mem (by decide)))
  | 8, _, hk => cases hk; exact ix_in0_T (h (ix_nw.zip [1033, 1079, 1144, 1151, 1217, 1239, 2043, 2087, 2107, 2160, 2205])[8] (List.getElem_mem (by decide)))
  | 9, _, hk => cases hk; exact ix_in0_T (h (ix_nw.zip [1033, 1079, 1144, 1151, 1217, 1239, 2043, 2087, 2107, 2160, 2205])[9] (List.getElem_mem (by decide)))
  | 10, _, hk => cases hk; exact ix_in0_T (h (ix_nw.zip [1033, 1079, 1144, 1151, 1217, 1239, 2043, 2087, 2107, 2160, 2205])[10] (List.getElem_mem (by decide)))
  | n + 11, hlt, _ => exact absurd hlt (by omega)
theorem ix_owT : ∀ t ∈ ix_ow, Cond.arrayOver t ∈ lw_tbl := by
  intro q hq
  obtain ⟨k, hk⟩ := List.getElem?_of_mem hq
  have hlt : k < 3 := (List.getElem?_eq_some_iff.mp hk).1
  have h := List.all_eq_true.mp ix_owv
  match k, hlt, hk with
  | 0, _, hk => cases hk; exact ix_in0_T (h (ix_ow.zip [1149, 1038, 1030])[0] (List.getElem_mem (by decide)))
  | 1, _, hk => cases hk; exact ix_in0_T (h (ix_ow.zip [1149, 1038, 1030])[1] (List.getElem_mem (by decide)))
  | 2, _, hk => cases hk; exact ix_in0_T (h (ix_ow.zip [1149, 1038, 1030])[2] (List.getElem_mem (by decide)))
  | n + 3, hlt, _ => exact absurd hlt (by omega)
/-- the tables at the law's entry -/
theorem ix_K0 {s : State} {args : Array Value} (hts : ∀ w ∈ lw_tbl, w.before args s = true) : ∃ (D : va_G) (cy : Nat → ClassId), ix_K D cy s := by
  have htT : ∀ w ∈ ix_T, w.before args s = true := fun w hw => hts w (List.mem_filter.mp hw).1
  have hc : ∀ ci : Nat, ∃ q : ClassId × (Nat → Nat), ci < 13 → u_Kn s (ix_cn ci) (ix_TT ci) (ix_NN ci) q.1 q.2 := by
    intro ci
    by_cases h : ci < 13
    · obtain ⟨a1, a2, a3⟩ := u_known htT (ix_layv ci h) (htT _ (ix_insv ci h).1)
      exact ⟨(a1, a2), fun _ => a3⟩
    · exact ⟨(0, fun _ => 0), fun q => absurd q h⟩
  obtain ⟨f, hf⟩ := Classical.axiomOfChoice hc
  have prim : ∀ ty : FieldType, Cond.arrayClass ty ∈ ix_T → (∀ C, ty ≠ .object C) → ∃ c : ClassId, ArrOfT s c ty ∧ va_RA s c ty := by
    intro ty hw hno
    obtain ⟨c, k, comp, h1, h2, h3⟩ := Cond.arrayClass_spec (htT _ hw)
    refine ⟨c, fun N z => ⟨(fun k h => by cases h), k, h2, comp, h3⟩, ?_⟩
    cases ty <;> first | exact absurd rfl (hno _) | exact h1
  obtain ⟨c14, g14⟩ := prim .int ix_ac_int (fun C h => by cases h)
  obtain ⟨c15, g15⟩ := prim .long ix_ac_long (fun C h => by cases h)
  obtain ⟨c16, g16⟩ := prim .boolean ix_ac_boolean (fun C h => by cases h)
  obtain ⟨c13, g13⟩ := prim .byte ix_ac_byte (fun C h => by cases h)
  obtain ⟨c17, g17⟩ : ∃ c : ClassId, ArrOfT s c (.object RX9) ∧ va_RA s c (.object RX9) := by
    obtain ⟨comp, c, k, h1, h2, h3, h4, h5⟩ := Cond.arrayOver_spec (hts _ (ix_owT (.object RX9) (by simp [ix_ow])))
    exact ⟨c, fun N z => ⟨(fun k h => by cases h), k, h3, comp, h4⟩, k, comp, h3, h4, h1, h5⟩
  have arrs : ∀ ty : FieldType, .array ty ∈ ix_ow → ∃ c : ClassId, ArrOfT s c (.array ty) ∧ va_RA s c (.array ty) := by
    intro ty hw
    obtain ⟨comp, c, k, h1, h2, h3, h4⟩ := Cond.arrayOver_specA (hts _ (ix_owT (.array ty) hw))
    exact ⟨c, fun N z => ⟨(fun k h => by cases h), k, h2, comp, h3⟩, h4⟩
  obtain ⟨c18, g18⟩ := arrs .int (by simp [ix_ow])
  obtain ⟨c19, g19⟩ := arrs .long (by simp [ix_ow])
  refine ⟨(fun k => (f k).1, fun k => (f k).2), (fun t => if t = 14 then c14 else if t = 15 then c15 else if t = 16 then c16 else if t = 17 then c17 else if t = 18 then c18 else if t = 19 then c19 else c13), ⟨fun ci q hq => ?_, fun k q hk => ?_⟩, fun q hq => va_Nw.of rfl (hts _ (ix_nwT q hq)), fun t ht => ?_⟩
  · have hlt : ci < 13 := (List.getElem?_eq_some_iff.mp hq).1
    rw [ix_clsv ci hlt] at hq
    cases hq
    exact hf ci hlt
  · have hlt : k < 7 := (List.getElem?_eq_some_iff.mp hk).1
    match k, hlt, hk with
    | 0, _, hk => cases hk; exact g14
    | 1, _, hk => cases hk; exact g15
    | 2, _, hk => cases hk; exact g16
    | 3, _, hk => cases hk; exact g17
    | 4, _, hk => cases hk; exact g18
    | 5, _, hk => cases hk; exact g19
    | 6, _, hk => cases hk; exact g13
    | n + 7, hlt, _ => exact absurd hlt (by omega)
  · exact hts _ (ix_owT t ht)
def ix_tm (i : Nat) : Term := match i with
  | 0 => .string RX7 107
  | 1 => .string RX7 95
  | 2 => .string RX12 358
  | _ => .string RX12 383
def ix_gv : List Cond := flatC (Jvm.Cond.and given_1 narrow_1)
theorem ix_four_of {P : Nat → Prop} (h0 : P 0) (h1 : P 1) (h2 : P 2) (h3 : P 3) : ∀ i : Nat, i < 4 → P i := fun i hi => match i, hi with
  | 0, _ => h0
  | 1, _ => h1
  | 2, _ => h2
  | 3, _ => h3
  | n + 4, hi => absurd hi (by omega)
def ix_elw (i j : Nat) : Cond := .eq (.elem (.field (ix_tm i) "java/lang/String" "value" "[B") (.int (Int32.ofNat j))) (.int ((ix_sbyt.getD i []).getD j 0))
theorem ix_el0 : (List.range 108).all (fun j => decide (ix_elw 0 j ∈ ix_gv)) = true := by decide +kernel
theorem ix_el1 : (List.range 12).all (fun j => decide (ix_elw 1 j ∈ ix_gv)) = true := by decide +kernel
theorem ix_el2 : (List.range 52).all (fun j => decide (ix_elw 2 j ∈ ix_gv)) = true := by decide +kernel
theorem ix_el3 : (List.range 41).all (fun j => decide (ix_elw 3 j ∈ ix_gv)) = true := by decide +kernel
theorem ix_gw : ∀ i, i < 4 → Cond.exactly (ix_tm i) "java/lang/String" ∈ ix_gv ∧ Cond.eq (.field (ix_tm i) "java/lang/String" "coder" "B") (.int 0) ∈ ix_gv ∧ Cond.arrayOf (.field (ix_tm i) "java/lang/String" "value" "[B") .byte ∈ ix_gv ∧ Cond.eq (.length (.field (ix_tm i) "java/lang/String" "value" "[B")) (.int (Int32.ofNat (ix_slen.getD i 0))) ∈ ix_gv := by decide +kernel
theorem ix_gne : ∀ i, i < 4 → ∀ j, j < 4 → i ≠ j → Cond.not (Cond.eq (ix_tm i) (ix_tm j)) ∈ ix_gv ∨ Cond.not (Cond.eq (ix_tm j) (ix_tm i)) ∈ ix_gv := by decide +kernel
theorem ix_gst : Cond.eq (.static "java/lang/String" "COMPACT_STRINGS" "Z") (.int 1) ∈ ix_gv ∧ Cond.isRef (.static "jdk/internal/util/Preconditions" "SIOOBE_FORMATTER" "Ljava/util/function/BiFunction;") ∈ ix_gv := by decide +kernel
theorem ix_sww : ix_in0 3212 (.stringRef RX7 107 ix_sx0) = true ∧ ix_in0 4021 (.stringRef RX7 95 ix_sx1) = true ∧ ix_in0 9084 (.stringRef RX12 358 ix_sx2) = true ∧ ix_in0 9091 (.stringRef RX12 383 ix_sx3) = true ∧ ix_in0 3222 (.laysStatic "java/lang/String" "COMPACT_STRINGS" "Z") = true ∧ ix_in0 3230 (.laysStatic "jdk/internal/util/Preconditions" "SIOOBE_FORMATTER" "Ljava/util/function/BiFunction;") = true ∧ ix_in0 1016 (.initialized "java/lang/String") = true ∧ ix_in0 1018 (.initialized "jdk/internal/util/Preconditions") = true := by decide +kernel
/-- the texts at the law's entry -/
theorem ix_Z0 {s : State} {b : Nat} (hts : ∀ w ∈ lw_tbl, w.before #[Value.ref b] s = true) (hgv : (Jvm.Cond.and given_1 narrow_1).before #[Value.ref b] s = true) : ∃ sp : Nat → Nat, sp 0 = b ∧ ix_Z sp (fun q => s.heap.size ≤ q) s s.heap := by
  have hs := flat_of_before _ hgv
  have hA : ∀ a : Nat, a < s.heap.size → ¬ s.heap.size ≤ a := fun a h => Nat.not_le.mpr h
  obtain ⟨adK, adV, hS, hT⟩ := vk_Sof (args := #[Value.ref b]) (s := s) (N := 4) (tm := ix_tm) (len := ix_slen) (byt := ix_sbyt) (A := fun q => s.heap.size ≤ q) (by decide) (fun i hi => hs _ (ix_gw i hi).1) (fun i hi => hs _ (ix_gw i hi).2.1) (fun i hi => hs _ (ix_gw i hi).2.2.1) (fun i hi => hs _ (ix_gw i hi).2.2.2) (ix_four_of (fun j hj => hs _ (of_decide_eq_true (List.all_eq_true.mp ix_el0 j (List.mem_range.mpr hj)))) (fun j hj => hs _ (of_decide_eq_true (List.all_eq_true.mp ix_el1 j (List.mem_range.mpr hj)))) (fun j hj => hs _ (of_decide_eq_true (List.all_eq_true.mp ix_el2 j (List.mem_range.mpr hj)))) (fun j hj => hs _ (of_decide_eq_true (List.all_eq_true.mp ix_el3 j (List.mem_range.mpr hj))))) (fun i j hi hj hne => (ix_gne i hi j hj hne).imp (hs _) (hs _)) hA
  obtain ⟨w1, w2, w3, w4, w5, w6, w7, w8⟩ := ix_sww
  refine ⟨fun k => if k = 0 then b else if k ≤ 4 then adK (k - 1) else adV (k - 5), rfl, ⟨fun i hi => ?_, fun i j hi hj e => ?_⟩, ⟨?_, ?_, ?_, ?_⟩, ?_, ?_⟩
  · have h := hS.1 i hi
    have e1 : (if 1 + i = 0 then b else if 1 + i ≤ 4 then adK (1 + i - 1) else adV (1 + i - 5)) = adK i := by
      rw [if_neg (by omega), if_pos (by omega), show 1 + i - 1 = i by omega]
    have e2 : (if 5 + i = 0 then b else if 5 + i ≤ 4 then adK (5 + i - 1) else adV (5 + i - 5)) = adV i := by
      rw [if_neg (by omega), if_neg (by omega), show 5 + i - 5 = i by omega]
    dsimp only
    rw [e1, e2]
    exact h
  · refine hS.2 i j hi hj ?_
    dsimp only at e
    rw [if_neg (by omega), if_pos (by omega), if_neg (by omega), if_pos (by omega), show 1 + i - 1 = i by omega, show 1 + j - 1 = j by omega] at e
    exact e
  · exact vk_R.of (hts _ (ix_in0_T w1)) (hT 0 (by decide))
  · exact vk_R.of (hts _ (ix_in0_T w2)) (hT 1 (by decide))
  · exact vk_R.of (hts _ (ix_in0_T w3)) (hT 2 (by decide))
  · exact vk_R.of (hts _ (ix_in0_T w4)) (hT 3 (by decide))
  · exact va_Zof (hts _ (ix_in0_T w5)) (hts _ (ix_in0_T w7)) (va_eqi (hs _ ix_gst.1)) hA
  · exact va_Zqof (hts _ (ix_in0_T w6)) (hts _ (ix_in0_T w8)) (hs _ ix_gst.2) hA
/-- THE LAW, from its entry: by the interpreter -/
theorem ix_start {p : Program} {e : Env} {s : State} {m : MethodId} {below : List Frame} {meth : Method} {c : Code} (l : Launch) {b L : Nat} {xs : Nat → Int32} (hmt : ∀ {i : Nat} {q : ix_Mt}, ix_mt i = some q → ix_mok q) (hlw : ∀ {pc : Nat} {v : Instr × Nat}, ix_lawf pc = some v → decode code pc = .ok v ∧ ix_ilen v.1 v.2 = true) (C0 : lw_At p s m meth c b L xs)
    (h : ix_W (ix_C 100) (ix_D0 L xs) (fun r _ => r = some (.inl 1)) (0, [some (.inr (.inr (.inr 0))), none, none, none], [], 0, 0, ix_M0)) : W p l e room_1 s m #[Value.ref b] below meth c s.heap [] 0 0 (lw_Z below #[Value.ref b] s) (entryFrame m ([Value.ref b] : List Value).toArray 4) := by
  obtain ⟨hx, hb, hr, hml, hown, hts, hX, hbl, hlocks, hgv⟩ := id C0
  obtain ⟨D, cy, hK⟩ := ix_K0 hts
  obtain ⟨sp, hsp, hZ⟩ := ix_Z0 hts hgv
  have hl := lv_entry ([.ref b]) (n := 4) (Nat.le_of_ble_eq_true rfl)
  rw [lg_entry_eq]
  generalize (lg_sl ([.ref b]) ++ List.replicate (4 - (lg_sl ([.ref b])).length) Slot.unset).toArray = ls at hl ⊢
  have hF : ix_F (p, l, e, room_1, s, m, #[Value.ref b], below, meth, c, lw_Z below #[Value.ref b] s) (D, cy, s.heap.size, sp, (fun q => s.heap.size ≤ q), s.heap, 4) code 13 false (some (L, xs)) :=
    ⟨hx, hb, hml, hown, fun w hw => hts w (List.mem_filter.mp hw).1, hK, fun q hq => hq, Nat.le_refl _, fun h => (by cases h), fun L' xs' hs => (by cases hs; show va_X (sp 0) _ _ _ _ ∧ sp 0 < _ ∧ ¬ _ ≤ sp 0; rw [hsp]; exact ⟨hX, hbl, Nat.not_le.mpr hbl⟩), ⟨rfl, hZ⟩, by decide⟩
  refine h (ix_Pm _ _) (ix_Phi_ok hF ⟨Nat.le_refl _, Nat.le_refl _⟩ ⟨show 100 + 2 ≤ 2048 by decide, show 64 * 100 + 128 ≤ 84000 by decide⟩ hmt (ix_sound l D cy s.heap.size sp hmt 100) hlw ?_) ix_ag_Pm s.heap ls [] ⟨⟨rfl, fun a ha => absurd ha (Nat.not_lt_zero a)⟩, ?_, rfl, va_S.rf⟩
  · intro pc k n L' M' H ls locs hat hk hn
    refine ⟨fun v hv hQ hd => ?_, fun v hv hQ hd => ?_, fun v hv hQ hd => ?_, fun hv hQ hd => ?_⟩
    · cases hQ
      refine va_forget (fun q hq => hat.2.2.2.2.2 q hq) ?_
      exact W.widen (k := 600000) (n := 7302250) hk hn (lw_ret hx hb hr hlocks hd)
    · cases hv
    · cases hv
    · cases hv
  · show lv_has ls 4 [(0, Value.ref (sp 0))]
    rw [hsp]
    exact hl
