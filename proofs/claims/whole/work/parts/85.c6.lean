/-! the constructor's beginning, and the law up to its loop -/
def ix_I0 (a j : Nat) : Int32 := cond (Nat.ble 29 a && Nat.blt a 36) 0 (cond (Nat.beq a 6) 0 (ix_I1 a j))
def ix_I3 (a j : Nat) : Int32 := cond (Nat.beq a 6) 0 (ix_I1 a j)
theorem ix_agI {N : Nat} {tg ln : Nat → Nat} {I I' : Nat → Nat → Int32} {J : Nat → Nat → Int64} {R : Nat → Nat → Option Nat} (h : ∀ a j, a < N → (tg a < 13 ∨ j < ln a) → I' a j = I a j) : ix_agr (N, tg, ln, I, J, R) (N, tg, ln, I', J, R) :=
  ⟨rfl, fun a ha => ⟨rfl, fun ht j _ => ⟨fun _ => rfl, fun _ => rfl, fun _ _ => h a j ha (Or.inl ht)⟩, fun _ => ⟨rfl, fun j hj => ⟨fun _ => rfl, fun _ _ => h a j ha (Or.inr hj), fun _ => rfl⟩⟩⟩⟩
theorem ix_I0_out {a j : Nat} (h : ¬ (29 ≤ a ∧ a < 36)) : ix_I0 a j = ix_I3 a j := by
  unfold ix_I0 ix_I3
  have : (Nat.ble 29 a && Nat.blt a 36) = false := by
    rw [Bool.eq_false_iff]
    intro z
    rw [Bool.and_eq_true, Nat.ble_eq, Nat.blt_eq] at z
    exact h z
  rw [this]
  rfl
theorem ix_I3_1 {a j : Nat} (h : a ≠ 6) : ix_I3 a j = ix_I1 a j := by
  unfold ix_I3
  have : Nat.beq a 6 = false := by
    rw [Bool.eq_false_iff]
    intro z
    exact h (ix_eq z)
  rw [this]
  rfl
theorem ix_bI0 (b : Nat) (h : b + 7 ≤ 29) (h2 : 7 ≤ b) : bI ix_I0 b 7 = bI ix_I1 b 7 := by
  funext i j
  unfold bI
  split
  · rw [ix_I0_out (by omega), ix_I3_1 (by omega)]
  · rfl
theorem ix_tag29 : ∀ i : Fin 7, ix_TG (29 + i.1) = 14 ∧ ix_LN (29 + i.1) = 7 := by decide +kernel
theorem ix_fin {I2 : Nat → Nat → Int32} (o : fr_off [(29, 36, 0, 2147483648)] ix_I0 I2) (q : ∀ a b, a < 7 → b < 7 → I2 (29 + a) b = fw_v 7 (fw_0 (bI ix_I0 13 7) (bI ix_I0 21 7)) a b) : ix_agr (ix_mq I2 ix_J1 none) (ix_mq ix_I3 ix_J1 none) := by
  refine ix_agI (fun a j ha hj => ?_)
  by_cases c : 29 ≤ a ∧ a < 36
  · obtain ⟨i, hi⟩ : ∃ i, a = 29 + i := ⟨a - 29, by omega⟩
    subst hi
    obtain ⟨t1, t2⟩ := ix_tag29 ⟨i, by omega⟩
    simp only at t1 t2
    rw [t1, t2] at hj
    have hj : j < 7 := hj.resolve_left (by decide)
    have := rr_0.carr i j (by omega) hj
    rw [bI_lt (by omega)] at this
    rw [q i j (by omega) hj, ix_bI0 13 (by omega) (by omega), ix_bI0 21 (by omega) (by omega), ← this, ix_I3_1 (by omega)]
  · have : I2 a j = ix_I0 a j := o a j (by
      simp only [fr_in, fr_1, List.any_cons, List.any_nil, Bool.or_false]
      rw [Bool.eq_false_iff]
      intro z
      simp only [Bool.and_eq_true, Nat.ble_eq, Nat.blt_eq] at z
      exact c ⟨z.1, z.2.1⟩)
    rw [this, ix_I0_out c]
set_option maxRecDepth 20000 in
theorem c_law {L : Nat} {xs : Nat → Int32} {d : Nat} {Q : ix_Q} (h : ix_W (ix_C (d + 11)) (ix_D0 L xs) Q (18, [some (.inr (.inr (.inr 0))), some (.inr (.inr (.inl (some 0)))), some (.inr (.inr (.inl (some 204)))), some (.inl 0)], [], 32002, 3000124, ix_mem 276 ix_I1 ix_J1 none)) : ix_W (ix_C (d + 11)) (ix_D0 L xs) Q (0, [some (.inr (.inr (.inr 0))), none, none, none], [], 0, 0, ix_M0) := by
  refine ix_go 2 rfl ⟨rfl, rfl⟩ ?_
  refine ix_sp rfl ⟨rfl, trivial, ix_le rfl, ix_le rfl, ix_le rfl, ?_⟩
  refine ix_enter (ls := [some (.inr (.inr (.inl (some 0)))), none]) rfl rfl rfl (Nat.le_of_ble_eq_true rfl) ?_
  refine ix_go 1 rfl trivial ?_
  refine ix_sp rfl ⟨ix_le rfl, ?_⟩
  refine ix_go 19 rfl (by repeat' (first | exact trivial | exact rfl | refine ⟨rfl, ?_⟩)) ?_
  refine ix_sp rfl ⟨rfl, trivial, ix_le rfl, ix_le rfl, ix_le rfl, ?_⟩
  refine ix_enter (ls := [some (.inr (.inr (.inl (some 8))))]) rfl rfl rfl (Nat.le_of_ble_eq_true rfl) ?_
  refine ix_go 1 rfl trivial ?_
  refine ix_sp rfl ⟨ix_le rfl, ?_⟩
  refine ix_go 33 rfl (by repeat' (first | exact trivial | exact rfl | refine ⟨rfl, ?_⟩)) ?_
  refine ix_agW (M' := ix_mq ix_I0 ix_J1 none) (ix_agB_ok (by decide +kernel)) ?_
  refine ix_sp rfl ⟨rfl, ⟨ix_lt rfl, ix_eq rfl, ix_lt rfl⟩, ix_le rfl, ix_le rfl, ix_le rfl, tp_X5_findCarriagesy (P := fun I J T => J = ix_J1 ∧ T = none ∧ ix_agr (ix_mq I ix_J1 none) (ix_mq ix_I3 ix_J1 none)) (fn_find rfl (fun I2 o2 e2 => ⟨rfl, rfl, ix_fin o2 e2⟩)) (fun I J T hP => ?_)⟩
  obtain ⟨rfl, rfl, hag⟩ := hP
  refine ix_agW hag ?_
  refine ix_sp rfl ⟨ix_le rfl, ix_le rfl, rfl, ?_⟩
  refine ix_go 1 rfl ⟨rfl, rfl⟩ ?_
  refine ix_agW (M' := ix_ms 44) (ix_agB_ok (by decide +kernel)) ?_
  refine c_reader (ix_le rfl) (ix_le rfl) (c_trts (ix_le rfl) (ix_le rfl) (c_mail (ix_le rfl) (ix_le rfl) (c_ways (ix_le rfl) (ix_le rfl) (c_flows (ix_le rfl) (ix_le rfl) (c_accts (ix_le rfl) (ix_le rfl) (c_bags (ix_le rfl) (ix_le rfl) (c_books (ix_le rfl) (ix_le rfl) (c_cases (ix_le rfl) (ix_le rfl) (c_tail (ix_le rfl) (ix_le rfl) ?_ ?_)))))))))
  · exact c_mod h
  · exact fun M M' hag hq => ix_agW hag hq
