/-! how the interpreter is reasoned about -/
theorem ix_call_mono {C C' : ix_CT} {ik own mc ms idx : Nat} {P P' : ix_X → Prop} {x : ix_X} (hC : ∀ y a M (Q Q' : ix_Q), (∀ r M, Q r M → Q' r M) → C y a M Q → C' y a M Q') (hP : ∀ x, P x → P' x) (h : ix_call C ik own mc ms idx P x) : ix_call C' ik own mc ms idx P' x := by
  obtain ⟨pc, ls, st, k, n, M⟩ := x
  unfold ix_call at h ⊢
  dsimp only at h ⊢
  split at h
  · split at h
    · exact ⟨h.1, hP _ h.2⟩
    · exact h.elim
  · split at h
    · exact ⟨h.1, h.2.1, h.2.2.1, hP _ h.2.2.2⟩
    · exact ⟨h.1, h.2.1, hP _ h.2.2⟩
    · exact h.elim
  · split at h
    · exact ⟨h.1, h.2.1, h.2.2.1, h.2.2.2.1, h.2.2.2.2.1, hC _ _ _ _ _ (fun r M q => hP _ q) h.2.2.2.2.2⟩
    · exact h.elim
  · exact h.elim
def ix_nsp (i : Instr) : Bool := match i with
  | .invokevirtual _ => false
  | .invokestatic _ => false
  | .invokespecial _ => false
  | .ireturn => false
  | .lreturn => false
  | .areturn => false
  | .return_ => false
  | .tableswitch _ _ _ _ => false
  | .lookupswitch _ _ => false
  | _ => true
theorem ix_Op_eq {C : ix_CT} {own mc ms : Nat} {fi : Nat → Option (Instr × Nat)} {rt : Option FieldType} {ini : Bool} {sc : Option (Nat × (Nat → Int32))} {Q : ix_Q} {P : ix_X → Prop} {i : Instr} {x : ix_X} (h : ix_nsp i = true) : ix_Op C (own, fi, rt, mc, ms, ini, sc) Q P i x = (match ix_step own mc ms ini sc i x with
      | some (cs, x') => ix_all cs ∧ P x'
      | none => False) := by
  cases i <;> first | rfl | cases h
theorem ix_Phi_mono {C C' : ix_CT} {d : ix_D} {Q Q' : ix_Q} {P P' : ix_X → Prop} {x : ix_X} (hC : ∀ y a M (Q Q' : ix_Q), (∀ r M, Q r M → Q' r M) → C y a M Q → C' y a M Q') (hQ : ∀ r M, Q r M → Q' r M) (hP : ∀ x, P x → P' x) (h : ix_Phi C d Q P x) : ix_Phi C' d Q' P' x := by
  obtain ⟨own, fi, rt, mc, ms, ini, sc⟩ := d
  unfold ix_Phi at h ⊢
  dsimp only at h ⊢
  cases hf : fi x.1 with
  | none => rw [hf] at h; exact h.elim
  | some v =>
    rw [hf] at h
    obtain ⟨i, len⟩ := v
    dsimp only at h ⊢
    cases hn : ix_nsp i with
    | true =>
      rw [ix_Op_eq hn] at h ⊢
      cases hs : ix_step own mc ms ini sc i x with
      | none => rw [hs] at h; exact h
      | some q => rw [hs] at h; exact ⟨h.1, hP _ h.2⟩
    | false =>
      cases i
      case invokevirtual idx => exact ix_call_mono (own := own) (mc := mc) (ms := ms) (idx := idx) (ik := 0) hC hP h
      case invokestatic idx => exact ix_call_mono (own := own) (mc := mc) (ms := ms) (idx := idx) (ik := 1) hC hP h
      case invokespecial idx => exact ix_call_mono (own := own) (mc := mc) (ms := ms) (idx := idx) (ik := 2) hC hP h
      case ireturn =>
        obtain ⟨pc, ls, st, k, n, M⟩ := x
        rcases st with - | ⟨v | v, - | ⟨w, r⟩⟩ <;> first | exact h.elim | exact ⟨h.1, h.2.1, h.2.2.1, hQ _ _ h.2.2.2⟩
      case lreturn =>
        obtain ⟨pc, ls, st, k, n, M⟩ := x
        rcases st with - | ⟨v | v | v, - | ⟨w, r⟩⟩ <;> first | exact h.elim | exact ⟨h.1, h.2.1, h.2.2.1, hQ _ _ h.2.2.2⟩
      case areturn =>
        obtain ⟨pc, ls, st, k, n, M⟩ := x
        rcases st with - | ⟨v | v | v | v, - | ⟨w, r⟩⟩ <;> first | exact h.elim | exact ⟨h.1, h.2.1, h.2.2.1, hQ _ _ h.2.2.2⟩
      case return_ =>
        obtain ⟨pc, ls, st, k, n, M⟩ := x
        rcases st with - | ⟨v, r⟩ <;> first | exact h.elim | exact ⟨h.1, h.2.1, h.2.2.1, hQ _ _ h.2.2.2⟩
      case tableswitch dflt lo hi offs =>
        obtain ⟨pc, ls, st, k, n, M⟩ := x
        rcases st with - | ⟨v | v, r⟩ <;> try exact h.elim
        obtain ⟨t, ht, hk⟩ := h
        exact ⟨t, ht, hP _ hk⟩
      case lookupswitch dflt ps =>
        obtain ⟨pc, ls, st, k, n, M⟩ := x
        rcases st with - | ⟨v | v, r⟩ <;> try exact h.elim
        obtain ⟨t, h1, h2, hk⟩ := h
        exact ⟨t, h1, h2, hP _ hk⟩
      all_goals cases hn
theorem ix_W_mono {C C' : ix_CT} {d : ix_D} {Q Q' : ix_Q} {x : ix_X} (hC : ∀ y a M (Q Q' : ix_Q), (∀ r M, Q r M → Q' r M) → C y a M Q → C' y a M Q') (hQ : ∀ r M, Q r M → Q' r M) (h : ix_W C d Q x) : ix_W C' d Q' x := fun P hP hA => h P (fun x hx => hP x (ix_Phi_mono hC hQ (fun _ q => q) hx)) hA
theorem ix_C_mono : ∀ (d : Nat) {y : Nat} {a : List ix_V} {M : ix_M} {Q Q' : ix_Q}, (∀ r M, Q r M → Q' r M) → ix_C d y a M Q → ix_C d y a M Q'
  | 0, _, _, _, _, _, _, h => h
  | d + 1, y, a, M, Q, Q', hQ, h => by
    unfold ix_C at h ⊢
    cases hm : ix_mt y with
    | none => rw [hm] at h; exact h
    | some q =>
      rw [hm] at h
      obtain ⟨yn, c, mL, rt, o, na, mc, ms, il, p9⟩ := q
      exact ⟨h.1, h.2.1, ix_W_mono (fun y a M Q Q' hq hc => ix_C_mono d hq hc) hQ h.2.2⟩
/-- from one step to the next -/
theorem ix_fold {d : Nat} {D : ix_D} {Q : ix_Q} {x : ix_X} (h : ix_Phi (ix_C d) D Q (ix_W (ix_C d) D Q) x) : ix_W (ix_C d) D Q x := fun P hP hA => hP x (ix_Phi_mono (fun _ _ _ _ _ hq hc => ix_C_mono d hq hc) (fun _ _ q => q) (fun x hx => hx P hP hA) h)
theorem ix_Op_step {C : ix_CT} {D : ix_D} {Q : ix_Q} {P : ix_X → Prop} {i : Instr} {x x' : ix_X} {cs : List Bool} (h : ix_step D.1 D.2.2.2.1 D.2.2.2.2.1 D.2.2.2.2.2.1 D.2.2.2.2.2.2 i x = some (cs, x')) (hc : ix_all cs) (hk : P x') : ix_Op C D Q P i x := by
  obtain ⟨own, fi, rt, mc, ms, ini, sc⟩ := D
  obtain ⟨pc, ls, st, k, n, M⟩ := x
  dsimp only at h
  cases i <;> first | (cases h; done) | (unfold ix_Op; dsimp only; rw [h]; exact ⟨hc, hk⟩)
/-- a stretch of instructions -/
def ix_run : Nat → ix_D → ix_X → Option (List Bool × ix_X)
  | 0, _, x => some ([], x)
  | n + 1, D, x => match D.2.1 x.1 with
    | some (i, _) => (match ix_step D.1 D.2.2.2.1 D.2.2.2.2.1 D.2.2.2.2.2.1 D.2.2.2.2.2.2 i x with
      | some (c, x1) => (match ix_run n D x1 with
        | some (c2, x2) => some (c ++ c2, x2)
        | none => none)
      | none => none)
    | none => none
theorem ix_all_app : ∀ {a b : List Bool}, ix_all (a ++ b) → ix_all a ∧ ix_all b
  | [], b, h => ⟨trivial, h⟩
  | [c], [], h => ⟨h, trivial⟩
  | [c], e :: t, h => h
  | c :: e :: t, b, h => by
    have h2 : c ∧ ix_all ((e :: t) ++ b) := h
    obtain ⟨h3, h4⟩ := ix_all_app h2.2
    exact ⟨⟨h2.1, h3⟩, h4⟩
theorem ix_go {d : Nat} {D : ix_D} {Q : ix_Q} : ∀ (n : Nat) {x x' : ix_X} {cs : List Bool}, ix_run n D x = some (cs, x') → ix_all cs → ix_W (ix_C d) D Q x' → ix_W (ix_C d) D Q x
  | 0, x, x', cs, h, hc, hk => by cases h; exact hk
  | n + 1, x, x', cs, h, hc, hk => by
    unfold ix_run at h
    cases hf : D.2.1 x.1 with
    | none => rw [hf] at h; cases h
    | some v =>
      rw [hf] at h
      obtain ⟨i, len⟩ := v
      dsimp only at h
      cases hs : ix_step D.1 D.2.2.2.1 D.2.2.2.2.1 D.2.2.2.2.2.1 D.2.2.2.2.2.2 i x with
      | none => rw [hs] at h; cases h
      | some q =>
        rw [hs] at h
        obtain ⟨c, x1⟩ := q
        dsimp only at h
        cases hr : ix_run n D x1 with
        | none => rw [hr] at h; cases h
        | some q2 =>
          rw [hr] at h
          obtain ⟨c2, x2⟩ := q2
          cases h
          obtain ⟨h1, h2⟩ := ix_all_app hc
          refine ix_fold ?_
          unfold ix_Phi
          rw [hf]
          exact ix_Op_step hs h1 (ix_go n hr h2 hk)
/-- a branch -/
theorem ix_br {C : ix_CT} {D : ix_D} {Q : ix_Q} {c : Prop} {hc : Decidable c} {t f : Nat} {r : List (Option ix_V) × List ix_V × Nat × Nat × ix_M} (h1 : c → ix_W C D Q (t, r)) (h2 : ¬ c → ix_W C D Q (f, r)) : ix_W C D Q (ite c t f, r) := by
  by_cases h : c
  · rw [if_pos h]; exact h1 h
  · rw [if_neg h]; exact h2 h
/-- a method's entry -/
theorem ix_enter {d y : Nat} {a : List ix_V} {M : ix_M} {Q : ix_Q} {yn : MethodName} {c : ByteArray} {mL o na mc ms p : Nat} {rt : Option FieldType} {l : List ix_In} (hm : ix_mt y = some (yn, c, mL, rt, o, na, mc, ms, l, p)) (h1 : a.length = na) {ls : List (Option ix_V)} (h2 : ix_pad (ix_ent a) mL = ls) (h3 : (ix_ent a).length ≤ mL) (h : ix_W (ix_C d) (o, ix_lk l, rt, mc, ms, Nat.blt 0 mc, none) Q (0, ls, [], 0, 0, M)) : ix_C (d + 1) y a M Q := by
  subst h2
  unfold ix_C
  rw [hm]
  exact ⟨h1, h3, h⟩
/-- a special instruction -/
theorem ix_sp {d : Nat} {D : ix_D} {Q : ix_Q} {x : ix_X} {i : Instr} {len : Nat} (hf : D.2.1 x.1 = some (i, len)) (h : ix_Op (ix_C d) D Q (ix_W (ix_C d) D Q) i x) : ix_W (ix_C d) D Q x := by
  refine ix_fold ?_
  unfold ix_Phi
  rw [hf]
  exact h
theorem ix_agr_refl (M : ix_M) : ix_agr M M := by
  obtain ⟨N, tg, ln, I, J, R⟩ := M
  exact ⟨rfl, fun a _ => ⟨rfl, fun _ j _ => ⟨fun _ => rfl, fun _ => rfl, fun _ _ => rfl⟩, fun _ => ⟨rfl, fun j _ => ⟨fun _ => rfl, fun _ _ => rfl, fun _ => rfl⟩⟩⟩⟩
theorem ix_agW {C : ix_CT} {D : ix_D} {Q : ix_Q} {pc k n : Nat} {ls : List (Option ix_V)} {st : List ix_V} {M M' : ix_M} (h : ix_agr M M') (hk : ix_W C D Q (pc, ls, st, k, n, M')) : ix_W C D Q (pc, ls, st, k, n, M) := fun P hP hA => hA pc ls ls st k n M M' h ⟨rfl, fun _ _ q => q⟩ (hk P hP hA)
/-- locals may be forgotten -/
theorem ix_subW {C : ix_CT} {D : ix_D} {Q : ix_Q} {pc k n : Nat} {ls : List (Option ix_V)} (ls' : List (Option ix_V)) {st : List ix_V} {M : ix_M} (h : ix_sub ls ls') (hk : ix_W C D Q (pc, ls', st, k, n, M)) : ix_W C D Q (pc, ls, st, k, n, M) := fun P hP hA => hA pc ls ls' st k n M M (ix_agr_refl M) h (hk P hP hA)
theorem ix_sub0 : ix_sub [] [] := ⟨rfl, fun _ _ q => q⟩
theorem ix_subS {a : Option ix_V} {ls ls' : List (Option ix_V)} (h : ix_sub ls ls') : ix_sub (a :: ls) (a :: ls') := ⟨congrArg Nat.succ h.1, fun i v q => match i, q with
  | 0, q => q
  | i + 1, q => h.2 i v q⟩
theorem ix_subN {a : Option ix_V} {ls ls' : List (Option ix_V)} (h : ix_sub ls ls') : ix_sub (a :: ls) (none :: ls') := ⟨congrArg Nat.succ h.1, fun i v q => match i, q with
  | 0, q => by cases q
  | i + 1, q => h.2 i v q⟩
