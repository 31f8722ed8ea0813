section SOUND
variable {b : ix_B} {y : ix_Y} {cc : ByteArray} {own mc ms : Nat} {ini : Bool} {sc : Option (Nat × (Nat → Int32))} {pc k n : Nat} {L : List (Option ix_V)} {st : List ix_V} {M : ix_M}
/-- behind a call -/
theorem ix_back {H : Heap} {ls : Array Slot} {locs : List Loc} {cmc cms : Nat} {st0 : List Value} {r : List ix_V} {arr : Array Value} (F : ix_F b y cc own ini sc) (hat : ix_at y L M H ls locs) (hr : va_Run b.1 b.2.1 b.2.2.1 b.2.2.2.1 b.2.2.2.2.1 b.2.2.2.2.2.1 b.2.2.2.2.2.2.1 b.2.2.2.2.2.2.2.1 b.2.2.2.2.2.2.2.2.1 b.2.2.2.2.2.2.2.2.2.1 H locs k n cmc cms (F0 (ix_mi b) pc ls st0) (r.map (ix_yg y)) (ix_Qc y.1 y.2.1 y.2.2.1 y.2.2.2.1 (fun v M' => ix_Pm b y (pc + 3, L, v.toList ++ r, k + cmc, n + cms, M')) arr) (fun x => y.2.2.1 ≤ x)) : ix_w b H locs k n (F0 (ix_mi b) pc ls st0) := by
  intro T hT X
  obtain ⟨v, st₀, t, T', L9, h0, X', hL, e1, e2, ⟨r9, M', hv, hQ, hP, hF⟩, go⟩ := hr T hT X
  cases hv
  have hA := F.2.2.2.2.2.2.1
  have hS := hat.2.2.2
  rw [← e1] at hP
  have hz : H.size ≤ T'.heap.size := by rw [e1, ← h0]; exact hF.1
  have hS' : va_S y.2.2.2.2.1 y.2.2.2.2.2.1 T'.heap (locs ++ L9) := by
    refine ⟨Nat.le_trans hS.1 hz, fun q h1 h2 => ?_, fun q hq => ?_⟩
    · rw [e1, hF.2 q (by rw [h0]; exact Nat.lt_of_lt_of_le h1 hS.1) (fun z => h2 (hA q z)), h0]
      exact hS.2.1 q h1 h2
    · rcases List.mem_append.mp hq with h | h
      · exact hS.2.2 q h
      · exact hA _ (hL q h)
  obtain ⟨t2, a1, b1⟩ := hQ T'.heap ls (locs ++ L9) ⟨hP, hat.2.1, hat.2.2.1, hS'⟩ T' rfl X'
  refine ⟨t2, go t2 ?_, b1⟩
  have e9 : (r9.toList ++ r).map (ix_yg y) = (r9.map (ix_g y.2.2.1 y.2.2.2.1)).toList ++ r.map (ix_yg y) := by cases r9 <;> rfl
  rw [e9] at a1
  exact a1
theorem ix_Zcall {st0 : List (Option ix_V)} {H : Heap} {ls : Array Slot} {locs : List Loc} (F : ix_F b y cc own ini sc) (hat : ix_at y st0 M H ls locs) {U : State} (hU : U.heap = H) (hW : (ix_s b).WarmedH U.vm) : ix_Z y.2.2.2.1 (fun x => y.2.2.1 ≤ x) U U.heap := by
  obtain ⟨hx, hb, hml, hown, hts, hK, hA, hsz, hini, hsc, hH, ho⟩ := F
  have h5 := hat.2.2.2
  rw [hH.1] at h5
  rw [hU]
  exact (hH.2.warm hW (fun a h1 h2 => h5.2.1 a h1 h2)).narrow hA
theorem ix_Zrecv {st0 : List (Option ix_V)} {H : Heap} {ls : Array Slot} {locs : List Loc} {j : Nat} (F : ix_F b y cc own ini sc) (hat : ix_at y st0 M H ls locs) (h1 : 1 ≤ j) (h4 : j ≤ 4) : ∃ cell : Cell, H[y.2.2.2.1 j]? = some cell ∧ cell.vm.isStatics = false ∧ (ix_s b).vm.findClass "java/lang/String" = some cell.cls := by
  obtain ⟨hx, hb, hml, hown, hts, hK, hA, hsz, hini, hsc, hH, ho⟩ := F
  have h5 := hat.2.2.2
  rw [hH.1] at h5
  have := vk_recv hH.2.1 (i := j - 1) (by omega) h5
  rw [show 1 + (j - 1) = j by omega] at this
  exact this
theorem ix_call_ok {d ik idx : Nat} (F : ix_F b y cc own ini sc) (hR : mc ≤ (ix_Rm b).cells ∧ ms ≤ (ix_Rm b).slots) (hfr : d + 2 ≤ (ix_Rm b).frames ∧ 64 * d + 128 ≤ (ix_Rm b).locals) (hmt : ∀ {i : Nat} {q : ix_Mt}, ix_mt i = some q → ix_mok q) (hS : ix_Snd b.2.1 y.1 y.2.1 y.2.2.1 y.2.2.2.1 d) (h : ix_call (ix_C d) ik own mc ms idx (ix_Pm b y) (pc, L, st, k, n, M)) (hd : decode cc pc = .ok ((match ik with
    | 0 => .invokevirtual idx
    | 1 => .invokestatic idx
    | _ => .invokespecial idx), 3)) : ix_Pm b y (pc, L, st, k, n, M) := by
  obtain ⟨hx, hb, hml, hown, hts, hK, hA, hsz, hini, hsc, hH, ho⟩ := id F
  unfold ix_call at h
  dsimp only at h
  split at h
  · next q9 hq =>
    split at h
    · next r _ =>
      obtain ⟨h1, h2⟩ := h
      obtain ⟨c9, na9, cls9, mc9, ms9, ps9⟩ := q9
      have hml2 := ix_ml4 (ix_lk_all ho (ix_mlv own) hq)
      intro H ls locs hat
      have hcs := ix_cats (base := y.2.2.1) (sp := y.2.2.2.1) r
      refine W.objInit hx hb hown (hts _ hml2) (hts _ ix_oi1) (hts _ ix_oi2) rfl (by rw [hml]; exact hat.2.1.1) rfl hd (Nat.le_trans (show 1 ≤ d + 2 by omega) hfr.1) ?_ (h2 H ls locs hat)
      have h8 : ((r.map (ix_yg y)).map fun v => v.category).sum ≤ 8 := by rw [hcs]; exact h1
      exact Nat.le_trans (show 2 * 0 + ((r.map (ix_yg y)).map fun v => v.category).sum + 12 ≤ 64 * d + 128 by omega) hfr.2
    · exact h.elim
  · next yy q9 hq =>
    obtain ⟨na9, cls9, mc9, ms9, ps9⟩ := q9
    have hml9 := ix_ml9 (ix_lk_all ho (ix_mlv own) hq)
    split at h
    · next m i r _ =>
      obtain ⟨h8, ⟨k1, k2⟩, ⟨h1, h2⟩, h3⟩ := h
      intro H ls locs hat
      have hcs : ((r.map (ix_yg y)).map fun v => v.category).sum ≤ 8 := by rw [ix_cats (base := y.2.2.1) (sp := y.2.2.2.1) r]; exact h8
      obtain ⟨w1, w2, -⟩ := ix_ckw
      have hrun := va_runS (As := [.int i, .int m]) (rest := r.map (ix_yg y)) (g := F0 (ix_mi b) pc ls (.int m :: .int i :: r.map (ix_yg y))) (H := H) (locs := locs) (cells := k) (slots := n) (below := b.2.2.2.2.2.2.2.1) (e := b.2.2.1) (meth := ix_me b) ⟨hx, hb, hml, hown, hts⟩ (ix_ck_met b.2.1 y.1 y.2.1 y.2.2.1 y.2.2.2.1 (Q := fun v M' => ix_Pm b y (pc + 3, L, v.toList ++ r, k + 0, n + 0, M')) h1 h2 h3) (va_cwS 2 hts (ix_GoodIn (fun w hw => by
          simp only [va_wsS, List.mem_append, List.mem_cons, List.not_mem_nil, or_false] at hw
          rcases hw with (rfl | rfl | rfl) | rfl | hw
          · exact hml9
          · exact ix_in_T w1
          · exact ix_in_T w2
          · exact ix_ckT
          · exact hw)) rfl rfl rfl ⟨by decide, by decide, by decide +kernel⟩ ⟨Nat.le_trans (show 1 + 1 ≤ d + 2 by omega) hfr.1, Nat.le_trans (show 8 + (2 + 11) + 64 ≤ 64 * d + 128 by omega) hfr.2⟩) ⟨ix_blind, fun U hU hW => ⟨rfl, ⟨by rw [hU]; exact hat.1, ix_Zcall F hat hU hW⟩, hK.warm hW⟩⟩ rfl rfl hat.2.1.1 rfl (lv_room hcs) hd ⟨Nat.le_trans k1 hR.1, Nat.le_trans k2 hR.2⟩
      exact ix_back F hat hrun
    · next c dp q sp a r _ =>
      obtain ⟨h8, ⟨h1, h2, h3, h4⟩, h5⟩ := h
      exact ix_copy_ok F hfr hml9 h8 h1 h2 h3 h4 h5 hd
    · exact h.elim
  · next kd yy na cls cmc cms ps hk4 hk9 hq =>
    split at h
    · next a r hpop =>
      obtain ⟨h1, h2, h3, h4, h5, h6⟩ := h
      have hml2 := ix_lk_all ho (ix_mlv own) hq
      obtain ⟨v, p1, p2, p3⟩ := ix_pop_ok hpop
      rw [List.append_nil] at p3
      have hcs : ((r.map (ix_yg y)).map fun v => v.category).sum ≤ 8 := by rw [ix_cats (base := y.2.2.1) (sp := y.2.2.2.1) r]; exact h3
      have hst : st = a.reverse ++ r := by rw [p3, List.reverse_reverse]; exact p2
      have hlen : a.length = na := by rw [p3, List.length_reverse]; exact p1
      intro H ls locs hat
      have hpre : ∀ U : State, U.heap = H → (ix_s b).WarmedH U.vm → va_Pc (a.map (ix_g y.2.2.1 y.2.2.2.1)) (ix_Pc y.1 y.2.1 y.2.2.1 y.2.2.2.1 M) (a.map (ix_g y.2.2.1 y.2.2.2.1)).toArray U := fun U hU hW => ⟨rfl, ⟨by rw [hU]; exact hat.1, ix_Zcall F hat hU hW⟩, hK.warm hW⟩
      have hkd : (ik = 0 ∧ kd = 0) ∨ (ik = 1 ∧ kd = 1) ∨ (ik = 2 ∧ kd = 2) ∨ (ik = 2 ∧ kd = 3) := by
        unfold ix_kok at h1
        split at h1
        · exact Or.inl ⟨rfl, rfl⟩
        · exact Or.inr (Or.inl ⟨rfl, rfl⟩)
        · exact Or.inr (Or.inr (Or.inl ⟨rfl, rfl⟩))
        · exact Or.inr (Or.inr (Or.inr ⟨rfl, rfl⟩))
        · cases h1
      rcases hkd with ⟨rfl, rfl⟩ | ⟨rfl, rfl⟩ | ⟨rfl, rfl⟩ | ⟨rfl, rfl⟩
      · obtain ⟨yn, c9, mL, rt, il, p9, hm, g1, g2, g3, g4, g5, g6, g7⟩ := ix_ml0 hml2
        have hok := hmt hm
        have hM := hS yy _ a M _ hm h6
        rcases a with - | ⟨v0 | v0 | (- | rr) | v0, As⟩ <;> try exact h2.elim
        · obtain ⟨h7, h8, g5⟩ := h2
          have h9 := hat.1.obj h7 h8 g5
          have hrun := va_runV (b := y.2.2.1 + rr) (As := As.map (ix_g y.2.2.1 y.2.2.2.1)) (rest := r.map (ix_yg y)) (g := F0 (ix_mi b) pc ls (st.map (ix_yg y))) (H := H) (locs := locs) (cells := k) (slots := n) (below := b.2.2.2.2.2.2.2.1) (e := b.2.2.1) (meth := ix_me b) ⟨hx, hb, hml, hown, hts⟩ hM (cwV As.length hts (ix_GoodIn (fun w hw => by
            simp only [wsV, List.mem_append, List.mem_cons, List.not_mem_nil, or_false] at hw
            rcases hw with (rfl | rfl | rfl | rfl) | hw
            · exact g1
            · exact g2
            · exact g3
            · exact g4
            · exact ix_wsT hok w hw)) rfl rfl rfl ⟨g6, hok.2.2.2.2.2.2.1.1, hok.2.2.2.2.2.2.1.2, by
              cases hpd : parseMethodDescriptor yn.desc with
              | none => rw [hpd] at g7; cases g7
              | some sg =>
                rw [hpd] at g7
                have : sg.parameters.length + 1 = na := Option.some.inj g7
                have h0 : As.length + 1 = na := hlen
                exact congrArg some (show sg.parameters.length = As.length by omega)⟩ ⟨hfr.1, by have := hok.2.2.2.1; have := hfr.2; show 8 + (mL + 11) + 64 * (d + 1) ≤ _; omega⟩) ⟨ix_blind, va_recv hK.1 (ix_one h9) (ix_clsv cls g5) (q0 := 0) rfl, hpre⟩ rfl (by rw [List.length_map]) hat.2.1.1 (by rw [hst]; simp [ix_yg, ix_g, va_rf]) (lv_room hcs) hd ⟨Nat.le_trans h4 hR.1, Nat.le_trans h5 hR.2⟩
          exact ix_back F hat hrun
        · obtain ⟨h7, h8, rfl⟩ := h2
          have hrun := va_runV (b := y.2.2.2.1 v0) (As := As.map (ix_g y.2.2.1 y.2.2.2.1)) (rest := r.map (ix_yg y)) (g := F0 (ix_mi b) pc ls (st.map (ix_yg y))) (H := H) (locs := locs) (cells := k) (slots := n) (below := b.2.2.2.2.2.2.2.1) (e := b.2.2.1) (meth := ix_me b) ⟨hx, hb, hml, hown, hts⟩ hM (cwV As.length hts (ix_GoodIn (fun w hw => by
            simp only [wsV, List.mem_append, List.mem_cons, List.not_mem_nil, or_false] at hw
            rcases hw with (rfl | rfl | rfl | rfl) | hw
            · exact g1
            · exact g2
            · exact g3
            · exact g4
            · exact ix_wsT hok w hw)) rfl rfl rfl ⟨g6, hok.2.2.2.2.2.2.1.1, hok.2.2.2.2.2.2.1.2, by
              cases hpd : parseMethodDescriptor yn.desc with
              | none => rw [hpd] at g7; cases g7
              | some sg =>
                rw [hpd] at g7
                have : sg.parameters.length + 1 = na := Option.some.inj g7
                have h0 : As.length + 1 = na := hlen
                exact congrArg some (show sg.parameters.length = As.length by omega)⟩ ⟨hfr.1, by have := hok.2.2.2.1; have := hfr.2; show 8 + (mL + 11) + 64 * (d + 1) ≤ _; omega⟩) ⟨ix_blind, ix_Zrecv F hat h7 h8, hpre⟩ rfl (by rw [List.length_map]) hat.2.1.1 (by rw [hst]; simp [ix_yg, ix_g, va_rf]) (lv_room hcs) hd ⟨Nat.le_trans h4 hR.1, Nat.le_trans h5 hR.2⟩
          exact ix_back F hat hrun
      · obtain ⟨yn, c9, mL, rt, il, p9, hm, g1, g2, g3, g7⟩ := ix_ml1 hml2
        have hok := hmt hm
        have hM := hS yy _ a M _ hm h6
        have hrun := va_runS (As := a.map (ix_g y.2.2.1 y.2.2.2.1)) (rest := r.map (ix_yg y)) (g := F0 (ix_mi b) pc ls (st.map (ix_yg y))) (H := H) (locs := locs) (cells := k) (slots := n) (below := b.2.2.2.2.2.2.2.1) (e := b.2.2.1) (meth := ix_me b) ⟨hx, hb, hml, hown, hts⟩ hM (va_cwS a.length hts (ix_GoodIn (fun w hw => by
            simp only [va_wsS, List.mem_append, List.mem_cons, List.not_mem_nil, or_false] at hw
            rcases hw with (rfl | rfl | rfl) | hw
            · exact g1
            · exact g2
            · exact g3
            · exact ix_wsT hok w hw)) rfl rfl rfl ⟨hok.2.2.2.2.2.2.1.1, hok.2.2.2.2.2.2.1.2, by rw [g7, hlen]⟩ ⟨hfr.1, by have := hok.2.2.2.1; have := hfr.2; show 8 + (mL + 11) + 64 * (d + 1) ≤ _; omega⟩) ⟨ix_blind, hpre⟩ rfl (by rw [List.length_map]) hat.2.1.1 (by rw [hst]; simp [ix_yg]) (lv_room hcs) hd ⟨Nat.le_trans h4 hR.1, Nat.le_trans h5 hR.2⟩
        exact ix_back F hat hrun
      · obtain ⟨yn, c9, mL, il, p9, hm, g1, g2, g3, g4, g7⟩ := ix_ml2 hml2
        have hok := hmt hm
        have hM := hS yy _ a M _ hm h6
        rcases a with - | ⟨v0 | v0 | (- | rr) | v0, As⟩ <;> try exact h2.elim
        have hrun := va_runIN (host := RX11) (b := y.2.2.1 + rr) (As := As.map (ix_g y.2.2.1 y.2.2.2.1)) (rest := r.map (ix_yg y)) (g := F0 (ix_mi b) pc ls (st.map (ix_yg y))) (H := H) (locs := locs) (cells := k) (slots := n) (below := b.2.2.2.2.2.2.2.1) (e := b.2.2.1) (meth := ix_me b) ⟨hx, hb, hml, hown, hts⟩ hM ⟨va_cnB As.length hts (ix_GoodIn (ix_wsT hok)) rfl rfl rfl (hK.2.1 _ g1) (hts _ g3) ⟨hok.2.2.2.2.2.2.1.1, hok.2.2.2.2.2.2.1.2, by
              cases hpd : parseMethodDescriptor yn.desc with
              | none => rw [hpd] at g7; cases g7
              | some sg =>
                rw [hpd] at g7
                have : sg.parameters.length + 1 = na := Option.some.inj g7
                have h0 : As.length + 1 = na := hlen
                exact congrArg some (show sg.parameters.length = As.length by omega)⟩ ⟨hfr.1, by have := hok.2.2.2.1; have := hfr.2; show 8 + (mL + 11) + 64 * (d + 1) ≤ _; omega⟩, g4, hts _ g2⟩ ⟨ix_blind, hpre⟩ rfl (by rw [List.length_map]) hat.2.1.1 (by rw [hst]; simp [ix_yg, ix_g, va_rf]) (lv_room hcs) hd ⟨Nat.le_trans h4 hR.1, Nat.le_trans h5 hR.2⟩
        exact ix_back F hat hrun
      · obtain ⟨yn, c9, mL, il, p9, hm, g1, g2, g3, g4, g7⟩ := ix_ml3 hml2
        have hok := hmt hm
        have hM := hS yy _ a M _ hm h6
        rcases a with - | ⟨v0 | v0 | (- | rr) | v0, As⟩ <;> try exact h2.elim
        have hrun := va_runI (b := y.2.2.1 + rr) (As := As.map (ix_g y.2.2.1 y.2.2.2.1)) (rest := r.map (ix_yg y)) (g := F0 (ix_mi b) pc ls (st.map (ix_yg y))) (H := H) (locs := locs) (cells := k) (slots := n) (below := b.2.2.2.2.2.2.2.1) (e := b.2.2.1) (meth := ix_me b) ⟨hx, hb, hml, hown, hts⟩ hM (cwI As.length hts (ix_GoodIn (ix_wsT hok)) rfl rfl rfl (hts _ g3) (hts _ g1) (hts _ g2) g4 ⟨hok.2.2.2.2.2.2.1.1, hok.2.2.2.2.2.2.1.2, by
              cases hpd : parseMethodDescriptor yn.desc with
              | none => rw [hpd] at g7; cases g7
              | some sg =>
                rw [hpd] at g7
                have : sg.parameters.length + 1 = na := Option.some.inj g7
                have h0 : As.length + 1 = na := hlen
                exact congrArg some (show sg.parameters.length = As.length by omega)⟩ ⟨hfr.1, by have := hok.2.2.2.1; have := hfr.2; show 8 + (mL + 11) + 64 * (d + 1) ≤ _; omega⟩) ⟨ix_blind, hpre⟩ rfl (by rw [List.length_map]) hat.2.1.1 (by rw [hst]; simp [ix_yg, ix_g, va_rf]) (lv_room hcs) hd ⟨Nat.le_trans h4 hR.1, Nat.le_trans h5 hR.2⟩
        exact ix_back F hat hrun
    · exact h.elim
  · exact h.elim
end SOUND
