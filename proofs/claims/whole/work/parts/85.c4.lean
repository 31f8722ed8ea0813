set_option maxRecDepth 20000 in
theorem c_trts {d k n : Nat} {Q : ix_Q} (hk : k + 5000 ≤ 30000) (hn : n + 410000 ≤ 1500000) (h : ix_W (ix_C (d + 2)) (11, ix_lk ix_l153, none, 30000, 1500000, Nat.blt 0 30000, none) Q (67, [some (.inr (.inr (.inl (some 0)))), none], [], k + 4001, n + ix_NN 8 + 400000, ix_ms 95)) : ix_W (ix_C (d + 2)) (11, ix_lk ix_l153, none, 30000, 1500000, Nat.blt 0 30000, none) Q (56, [some (.inr (.inr (.inl (some 0)))), none], [], k, n, ix_ms 51) := by
  have e6 : ix_NN 8 ≤ 100 := Nat.le_of_ble_eq_true rfl
  refine ix_go 3 rfl ⟨Nat.ble_eq_true_of_le (by show k + 1 ≤ 30000; omega), Nat.ble_eq_true_of_le (by show n + ix_NN 8 ≤ 1500000; omega)⟩ ?_
  refine ix_sp rfl ⟨rfl, trivial, ix_le rfl, by omega, by omega, ?_⟩
  refine ix_enter (ls := [some (.inr (.inr (.inl (some 51)))), none]) rfl rfl rfl (Nat.le_of_ble_eq_true rfl) ?_
  refine ix_go 1 rfl trivial ?_
  refine ix_sp rfl ⟨ix_le rfl, ?_⟩
  refine ix_go 38 rfl (by repeat' (first | exact trivial | exact rfl | refine ⟨rfl, ?_⟩)) ?_
  refine ix_sp rfl ⟨rfl, trivial, ix_le rfl, ix_le rfl, ix_le rfl, ?_⟩
  refine ix_enter (ls := [some (.inr (.inr (.inl (some 59))))]) rfl rfl rfl (Nat.le_of_ble_eq_true rfl) ?_
  refine ix_go 1 rfl trivial ?_
  refine ix_sp rfl ⟨ix_le rfl, ?_⟩
  refine ix_go 32 rfl (by repeat' (first | exact trivial | exact rfl | refine ⟨rfl, ?_⟩)) ?_
  refine ix_sp rfl ⟨ix_le rfl, ix_le rfl, rfl, ?_⟩
  refine ix_go 11 rfl (by repeat' (first | exact trivial | exact rfl | refine ⟨rfl, ?_⟩)) ?_
  refine ix_sp rfl ⟨rfl, trivial, ix_le rfl, ix_le rfl, ix_le rfl, ?_⟩
  refine ix_enter (ls := [some (.inr (.inr (.inl (some 68))))]) rfl rfl rfl (Nat.le_of_ble_eq_true rfl) ?_
  refine ix_go 1 rfl trivial ?_
  refine ix_sp rfl ⟨ix_le rfl, ?_⟩
  refine ix_go 32 rfl (by repeat' (first | exact trivial | exact rfl | refine ⟨rfl, ?_⟩)) ?_
  refine ix_sp rfl ⟨ix_le rfl, ix_le rfl, rfl, ?_⟩
  refine ix_go 11 rfl (by repeat' (first | exact trivial | exact rfl | refine ⟨rfl, ?_⟩)) ?_
  refine ix_sp rfl ⟨rfl, trivial, ix_le rfl, ix_le rfl, ix_le rfl, ?_⟩
  refine ix_enter (ls := [some (.inr (.inr (.inl (some 77))))]) rfl rfl rfl (Nat.le_of_ble_eq_true rfl) ?_
  refine ix_go 1 rfl trivial ?_
  refine ix_sp rfl ⟨ix_le rfl, ?_⟩
  refine ix_go 32 rfl (by repeat' (first | exact trivial | exact rfl | refine ⟨rfl, ?_⟩)) ?_
  refine ix_sp rfl ⟨ix_le rfl, ix_le rfl, rfl, ?_⟩
  refine ix_go 11 rfl (by repeat' (first | exact trivial | exact rfl | refine ⟨rfl, ?_⟩)) ?_
  refine ix_sp rfl ⟨rfl, trivial, ix_le rfl, ix_le rfl, ix_le rfl, ?_⟩
  refine ix_enter (ls := [some (.inr (.inr (.inl (some 86))))]) rfl rfl rfl (Nat.le_of_ble_eq_true rfl) ?_
  refine ix_go 1 rfl trivial ?_
  refine ix_sp rfl ⟨ix_le rfl, ?_⟩
  refine ix_go 32 rfl (by repeat' (first | exact trivial | exact rfl | refine ⟨rfl, ?_⟩)) ?_
  refine ix_sp rfl ⟨ix_le rfl, ix_le rfl, rfl, ?_⟩
  refine ix_go 6 rfl (by repeat' (first | exact trivial | exact rfl | refine ⟨rfl, ?_⟩)) ?_
  refine ix_sp rfl ⟨ix_le rfl, ix_le rfl, rfl, ?_⟩
  refine ix_go 1 rfl ⟨rfl, rfl⟩ ?_
  exact ix_agW (M' := ix_ms 95) (ix_agB_ok (by decide +kernel)) h
set_option maxRecDepth 20000 in
theorem c_tail {d k n : Nat} {Q : ix_Q} (hk : k ≤ 30000) (hn : n ≤ 1500000) (h : Q none (204, ix_TG, ix_LN, ix_I1, ix_J1, ix_RR)) (hA : ∀ M M', ix_agr M M' → Q none M' → Q none M) : ix_W (ix_C (d + 2)) (11, ix_lk ix_l153, none, 30000, 1500000, Nat.blt 0 30000, none) Q (152, [some (.inr (.inr (.inl (some 0)))), none], [], k, n, ix_ms 204) := by
  refine ix_go 45 rfl (by repeat' (first | exact trivial | exact rfl | refine ⟨rfl, ?_⟩)) ?_
  refine ix_sp rfl ⟨hk, hn, rfl, ?_⟩
  exact hA _ _ (ix_agB_ok (by decide +kernel)) h
