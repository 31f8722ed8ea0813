set_option maxRecDepth 20000 in
theorem c_books {d k n : Nat} {Q : ix_Q} (hk : k + 2000 ≤ 30000) (hn : n + 50000 ≤ 1500000) (h : ix_W (ix_C (d + 1)) (11, ix_lk ix_l153, none, 30000, 1500000, Nat.blt 0 30000, none) Q (141, [some (.inr (.inr (.inl (some 0)))), none], [], k + 1001, n + ix_NN 2 + 40000, ix_ms 200)) : ix_W (ix_C (d + 1)) (11, ix_lk ix_l153, none, 30000, 1500000, Nat.blt 0 30000, none) Q (130, [some (.inr (.inr (.inl (some 0)))), none], [], k, n, ix_ms 181) := by
  have e6 : ix_NN 2 ≤ 100 := Nat.le_of_ble_eq_true rfl
  refine ix_go 3 rfl ⟨Nat.ble_eq_true_of_le (by show k + 1 ≤ 30000; omega), Nat.ble_eq_true_of_le (by show n + ix_NN 2 ≤ 1500000; omega)⟩ ?_
  refine ix_sp rfl ⟨rfl, trivial, ix_le rfl, by omega, by omega, ?_⟩
  refine ix_enter (ls := [some (.inr (.inr (.inl (some 181)))), none, none, none]) rfl rfl rfl (Nat.le_of_ble_eq_true rfl) ?_
  refine ix_go 1 rfl trivial ?_
  refine ix_sp rfl ⟨ix_le rfl, ?_⟩
  refine ix_go 213 rfl (by repeat' (first | exact trivial | exact rfl | refine ⟨rfl, ?_⟩)) ?_
  refine ix_sp rfl ⟨ix_le rfl, ix_le rfl, rfl, ?_⟩
  refine ix_go 1 rfl ⟨rfl, rfl⟩ ?_
  exact ix_agW (M' := ix_ms 200) (ix_agB_ok (by decide +kernel)) h
set_option maxRecDepth 20000 in
theorem c_cases {d k n : Nat} {Q : ix_Q} (hk : k + 2000 ≤ 30000) (hn : n + 50000 ≤ 1500000) (h : ix_W (ix_C (d + 1)) (11, ix_lk ix_l153, none, 30000, 1500000, Nat.blt 0 30000, none) Q (152, [some (.inr (.inr (.inl (some 0)))), none], [], k + 1001, n + ix_NN 3 + 40000, ix_ms 204)) : ix_W (ix_C (d + 1)) (11, ix_lk ix_l153, none, 30000, 1500000, Nat.blt 0 30000, none) Q (141, [some (.inr (.inr (.inl (some 0)))), none], [], k, n, ix_ms 200) := by
  have e6 : ix_NN 3 ≤ 100 := Nat.le_of_ble_eq_true rfl
  refine ix_go 3 rfl ⟨Nat.ble_eq_true_of_le (by show k + 1 ≤ 30000; omega), Nat.ble_eq_true_of_le (by show n + ix_NN 3 ≤ 1500000; omega)⟩ ?_
  refine ix_sp rfl ⟨rfl, trivial, ix_le rfl, by omega, by omega, ?_⟩
  refine ix_enter (ls := [some (.inr (.inr (.inl (some 200)))), none]) rfl rfl rfl (Nat.le_of_ble_eq_true rfl) ?_
  refine ix_go 1 rfl trivial ?_
  refine ix_sp rfl ⟨ix_le rfl, ?_⟩
  refine ix_go 77 rfl (by repeat' (first | exact trivial | exact rfl | refine ⟨rfl, ?_⟩)) ?_
  refine ix_sp rfl ⟨ix_le rfl, ix_le rfl, rfl, ?_⟩
  refine ix_go 1 rfl ⟨rfl, rfl⟩ ?_
  exact ix_agW (M' := ix_ms 204) (ix_agB_ok (by decide +kernel)) h
set_option maxRecDepth 20000 in
theorem c_ways {d k n : Nat} {Q : ix_Q} (hk : k + 2000 ≤ 30000) (hn : n + 50000 ≤ 1500000) (h : ix_W (ix_C (d + 1)) (11, ix_lk ix_l153, none, 30000, 1500000, Nat.blt 0 30000, none) Q (97, [some (.inr (.inr (.inl (some 0)))), none], [], k + 1001, n + ix_NN 10 + 40000, ix_ms 106)) : ix_W (ix_C (d + 1)) (11, ix_lk ix_l153, none, 30000, 1500000, Nat.blt 0 30000, none) Q (78, [some (.inr (.inr (.inl (some 0)))), none], [], k, n, ix_ms 97) := by
  have e6 : ix_NN 10 ≤ 100 := Nat.le_of_ble_eq_true rfl
  refine ix_go 7 rfl (by
    refine ⟨Nat.ble_eq_true_of_le (by show k + 1 ≤ 30000; omega), Nat.ble_eq_true_of_le (by show n + ix_NN 10 ≤ 1500000; omega), ?_⟩
    repeat' (first | exact trivial | exact rfl | refine ⟨rfl, ?_⟩)) ?_
  refine ix_sp rfl ⟨rfl, trivial, ix_le rfl, by omega, by omega, ?_⟩
  refine ix_enter (ls := [some (.inr (.inr (.inl (some 97)))), some (.inr (.inr (.inl (some 8)))), some (.inr (.inr (.inl (some 51))))]) rfl rfl rfl (Nat.le_of_ble_eq_true rfl) ?_
  refine ix_go 1 rfl trivial ?_
  refine ix_sp rfl ⟨ix_le rfl, ?_⟩
  refine ix_go 23 rfl (by repeat' (first | exact trivial | exact rfl | refine ⟨rfl, ?_⟩)) ?_
  refine ix_sp rfl ⟨ix_le rfl, ix_le rfl, rfl, ?_⟩
  refine ix_go 1 rfl ⟨rfl, rfl⟩ ?_
  exact ix_agW (M' := ix_ms 106) (ix_agB_ok (by decide +kernel)) h
