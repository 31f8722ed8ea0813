def ix_ms (c : Nat) : ix_M := (c, ix_TG, ix_LN, fun a j => cond (Nat.beq a 6) 0 (ix_I1 a j), ix_J1, fun a j => cond (Nat.beq a 0) (ix_R0 c j) (ix_RR a j))
set_option maxRecDepth 20000 in
theorem c_reader {d k n : Nat} {Q : ix_Q} (hk : k + 2000 ≤ 30000) (hn : n + 50000 ≤ 1500000) (h : ix_W (ix_C (d + 1)) (11, ix_lk ix_l153, none, 30000, 1500000, Nat.blt 0 30000, none) Q (56, [some (.inr (.inr (.inl (some 0)))), none], [], k + 1001, n + ix_NN 7 + 40000, ix_ms 51)) : ix_W (ix_C (d + 1)) (11, ix_lk ix_l153, none, 30000, 1500000, Nat.blt 0 30000, none) Q (45, [some (.inr (.inr (.inl (some 0)))), none], [], k, n, ix_ms 44) := by
  have e6 : ix_NN 7 ≤ 100 := Nat.le_of_ble_eq_true rfl
  refine ix_go 3 rfl ⟨Nat.ble_eq_true_of_le (by show k + 1 ≤ 30000; omega), Nat.ble_eq_true_of_le (by show n + ix_NN 7 ≤ 1500000; omega)⟩ ?_
  refine ix_sp rfl ⟨rfl, trivial, ix_le rfl, by omega, by omega, ?_⟩
  refine ix_enter (ls := [some (.inr (.inr (.inl (some 44))))]) rfl rfl rfl (Nat.le_of_ble_eq_true rfl) ?_
  refine ix_go 1 rfl trivial ?_
  refine ix_sp rfl ⟨ix_le rfl, ?_⟩
  refine ix_go 30 rfl (by repeat' (first | exact trivial | exact rfl | refine ⟨rfl, ?_⟩)) ?_
  refine ix_sp rfl ⟨ix_le rfl, ix_le rfl, rfl, ?_⟩
  refine ix_go 1 rfl ⟨rfl, rfl⟩ ?_
  exact ix_agW (M' := ix_ms 51) (ix_agB_ok (by decide +kernel)) h
set_option maxRecDepth 20000 in
theorem c_mail {d k n : Nat} {Q : ix_Q} (hk : k + 2000 ≤ 30000) (hn : n + 50000 ≤ 1500000) (h : ix_W (ix_C (d + 1)) (11, ix_lk ix_l153, none, 30000, 1500000, Nat.blt 0 30000, none) Q (78, [some (.inr (.inr (.inl (some 0)))), none], [], k + 1001, n + ix_NN 6 + 40000, ix_ms 97)) : ix_W (ix_C (d + 1)) (11, ix_lk ix_l153, none, 30000, 1500000, Nat.blt 0 30000, none) Q (67, [some (.inr (.inr (.inl (some 0)))), none], [], k, n, ix_ms 95) := by
  have e6 : ix_NN 6 ≤ 100 := Nat.le_of_ble_eq_true rfl
  refine ix_go 3 rfl ⟨Nat.ble_eq_true_of_le (by show k + 1 ≤ 30000; omega), Nat.ble_eq_true_of_le (by show n + ix_NN 6 ≤ 1500000; omega)⟩ ?_
  refine ix_sp rfl ⟨rfl, trivial, ix_le rfl, by omega, by omega, ?_⟩
  refine ix_enter (ls := [some (.inr (.inr (.inl (some 95))))]) rfl rfl rfl (Nat.le_of_ble_eq_true rfl) ?_
  refine ix_go 1 rfl trivial ?_
  refine ix_sp rfl ⟨ix_le rfl, ?_⟩
  refine ix_go 4 rfl (by repeat' (first | exact trivial | exact rfl | refine ⟨rfl, ?_⟩)) ?_
  refine ix_sp rfl ⟨ix_le rfl, ix_le rfl, rfl, ?_⟩
  refine ix_go 1 rfl ⟨rfl, rfl⟩ ?_
  exact ix_agW (M' := ix_ms 97) (ix_agB_ok (by decide +kernel)) h
set_option maxRecDepth 20000 in
theorem c_flows {d k n : Nat} {Q : ix_Q} (hk : k + 2000 ≤ 30000) (hn : n + 50000 ≤ 1500000) (h : ix_W (ix_C (d + 1)) (11, ix_lk ix_l153, none, 30000, 1500000, Nat.blt 0 30000, none) Q (108, [some (.inr (.inr (.inl (some 0)))), none], [], k + 1001, n + ix_NN 4 + 40000, ix_ms 124)) : ix_W (ix_C (d + 1)) (11, ix_lk ix_l153, none, 30000, 1500000, Nat.blt 0 30000, none) Q (97, [some (.inr (.inr (.inl (some 0)))), none], [], k, n, ix_ms 106) := by
  have e6 : ix_NN 4 ≤ 100 := Nat.le_of_ble_eq_true rfl
  refine ix_go 3 rfl ⟨Nat.ble_eq_true_of_le (by show k + 1 ≤ 30000; omega), Nat.ble_eq_true_of_le (by show n + ix_NN 4 ≤ 1500000; omega)⟩ ?_
  refine ix_sp rfl ⟨rfl, trivial, ix_le rfl, by omega, by omega, ?_⟩
  refine ix_enter (ls := [some (.inr (.inr (.inl (some 106))))]) rfl rfl rfl (Nat.le_of_ble_eq_true rfl) ?_
  refine ix_go 1 rfl trivial ?_
  refine ix_sp rfl ⟨ix_le rfl, ?_⟩
  refine ix_go 37 rfl (by repeat' (first | exact trivial | exact rfl | refine ⟨rfl, ?_⟩)) ?_
  refine ix_sp rfl ⟨ix_le rfl, ix_le rfl, rfl, ?_⟩
  refine ix_go 1 rfl ⟨rfl, rfl⟩ ?_
  exact ix_agW (M' := ix_ms 124) (ix_agB_ok (by decide +kernel)) h
set_option maxRecDepth 20000 in
theorem c_accts {d k n : Nat} {Q : ix_Q} (hk : k + 2000 ≤ 30000) (hn : n + 50000 ≤ 1500000) (h : ix_W (ix_C (d + 1)) (11, ix_lk ix_l153, none, 30000, 1500000, Nat.blt 0 30000, none) Q (119, [some (.inr (.inr (.inl (some 0)))), none], [], k + 1001, n + ix_NN 0 + 40000, ix_ms 142)) : ix_W (ix_C (d + 1)) (11, ix_lk ix_l153, none, 30000, 1500000, Nat.blt 0 30000, none) Q (108, [some (.inr (.inr (.inl (some 0)))), none], [], k, n, ix_ms 124) := by
  have e6 : ix_NN 0 ≤ 100 := Nat.le_of_ble_eq_true rfl
  refine ix_go 3 rfl ⟨Nat.ble_eq_true_of_le (by show k + 1 ≤ 30000; omega), Nat.ble_eq_true_of_le (by show n + ix_NN 0 ≤ 1500000; omega)⟩ ?_
  refine ix_sp rfl ⟨rfl, trivial, ix_le rfl, by omega, by omega, ?_⟩
  refine ix_enter (ls := [some (.inr (.inr (.inl (some 124))))]) rfl rfl rfl (Nat.le_of_ble_eq_true rfl) ?_
  refine ix_go 1 rfl trivial ?_
  refine ix_sp rfl ⟨ix_le rfl, ?_⟩
  refine ix_go 14 rfl (by repeat' (first | exact trivial | exact rfl | refine ⟨rfl, ?_⟩)) ?_
  refine ix_sp rfl ⟨ix_le rfl, ix_le rfl, rfl, ?_⟩
  refine ix_go 1 rfl ⟨rfl, rfl⟩ ?_
  exact ix_agW (M' := ix_ms 142) (ix_agB_ok (by decide +kernel)) h
set_option maxRecDepth 20000 in
theorem c_bags {d k n : Nat} {Q : ix_Q} (hk : k + 2000 ≤ 30000) (hn : n + 50000 ≤ 1500000) (h : ix_W (ix_C (d + 1)) (11, ix_lk ix_l153, none, 30000, 1500000, Nat.blt 0 30000, none) Q (130, [some (.inr (.inr (.inl (some 0)))), none], [], k + 1001, n + ix_NN 1 + 40000, ix_ms 181)) : ix_W (ix_C (d + 1)) (11, ix_lk ix_l153, none, 30000, 1500000, Nat.blt 0 30000, none) Q (119, [some (.inr (.inr (.inl (some 0)))), none], [], k, n, ix_ms 142) := by
  have e6 : ix_NN 1 ≤ 100 := Nat.le_of_ble_eq_true rfl
  refine ix_go 3 rfl ⟨Nat.ble_eq_true_of_le (by show k + 1 ≤ 30000; omega), Nat.ble_eq_true_of_le (by show n + ix_NN 1 ≤ 1500000; omega)⟩ ?_
  refine ix_sp rfl ⟨rfl, trivial, ix_le rfl, by omega, by omega, ?_⟩
  refine ix_enter (ls := [some (.inr (.inr (.inl (some 142))))]) rfl rfl rfl (Nat.le_of_ble_eq_true rfl) ?_
  refine ix_go 1 rfl trivial ?_
  refine ix_sp rfl ⟨ix_le rfl, ?_⟩
  refine ix_go 42 rfl (by repeat' (first | exact trivial | exact rfl | refine ⟨rfl, ?_⟩)) ?_
  refine ix_sp rfl ⟨ix_le rfl, ix_le rfl, rfl, ?_⟩
  refine ix_go 1 rfl ⟨rfl, rfl⟩ ?_
  exact ix_agW (M' := ix_ms 181) (ix_agB_ok (by decide +kernel)) h
