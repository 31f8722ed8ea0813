theorem ix_agS {N N' : Nat} {tg tg' ln ln' : Nat → Nat} {I I' : Nat → Nat → Int32} {J J' : Nat → Nat → Int64} {R R' : Nat → Nat → Option Nat} {q : Nat} (hq : tg q = 14) (h : ix_agB (N, tg, fun a => cond (Nat.beq a q) 0 (ln a), I, J, R) (N', tg', fun a => cond (Nat.beq a q) 0 (ln' a), I', J', R') = true) (e1 : ln' q = ln q) (e3 : ∀ j, I' q j = I q j) : ix_agr (N, tg, ln, I, J, R) (N', tg', ln', I', J', R') := by
  obtain ⟨g1, g2⟩ := ix_agB_ok h
  refine ⟨g1, fun a ha => ?_⟩
  obtain ⟨q1, q2, q3⟩ := g2 a ha
  refine ⟨q1, q2, fun ht => ?_⟩
  by_cases c : a = q
  · subst c
    exact ⟨e1, fun j _ => ⟨fun z => absurd (hq.symm.trans z) (by decide), fun _ _ => e3 j, fun z => absurd z (by rw [hq]; decide)⟩⟩
  · have b : Nat.beq a q = false := by
      cases hb : Nat.beq a q with
      | false => rfl
      | true => exact absurd (ix_eq hb) c
    have := q3 ht
    dsimp only at this
    rw [b] at this
    exact this
set_option maxRecDepth 20000 in
theorem c_mod {L : Nat} {xs : Nat → Int32} {d : Nat} {Q : ix_Q} (h : ix_W (ix_C (d + 1)) (ix_D0 L xs) Q (18, [some (.inr (.inr (.inr 0))), some (.inr (.inr (.inl (some 0)))), some (.inr (.inr (.inl (some 204)))), some (.inl 0)], [], 32002, 3000124, ix_mem 276 ix_I1 ix_J1 none)) : ix_W (ix_C (d + 1)) (ix_D0 L xs) Q (7, [some (.inr (.inr (.inr 0))), none, none, none], [.inr (.inr (.inl (some 0)))], 30001, 1500016, (204, ix_TG, ix_LN, ix_I1, ix_J1, ix_RR)) := by
  refine ix_go 3 rfl ⟨rfl, rfl⟩ ?_
  refine ix_sp rfl ⟨rfl, trivial, ix_le rfl, ix_le rfl, ix_le rfl, ?_⟩
  refine ix_enter (ls := [some (.inr (.inr (.inl (some 204))))]) rfl rfl rfl (Nat.le_of_ble_eq_true rfl) ?_
  refine ix_go 1 rfl trivial ?_
  refine ix_sp rfl ⟨ix_le rfl, ?_⟩
  refine ix_go 342 rfl (by repeat' (first | exact trivial | exact rfl | refine ⟨rfl, ?_⟩)) ?_
  refine ix_sp rfl ⟨ix_le rfl, ix_le rfl, rfl, ?_⟩
  refine ix_go 3 rfl trivial ?_
  refine ix_agW (M' := ix_mem 276 ix_I1 ix_J1 none) (ix_agS (q := 271) rfl (by decide +kernel) rfl (fun j => rfl)) ?_
  exact h
