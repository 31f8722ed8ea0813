abbrev ix_row (c : Nat) (i : Int32) : Nat := (ix_RR c i.toNatClampNeg).getD 0
theorem ix_inbL {i : Int32} {c n : Nat} (e : c = n) (h : ix_inb i n = true) : ix_inb i c = true := by rw [e]; exact h
theorem ix_inb_lt {i : Int32} {n : Nat} (h : ix_inb i n = true) : i.toNatClampNeg < n := Nat.not_le.mp fun q => ix_inb_ok h (Or.inr q)
theorem ix_lkc {x k : Int32} {o : Int} {l : List (Int × Int)} (h : ¬ x = k) (ht : ∀ q ∈ l, q.1 ≠ x.toInt) : ∀ q ∈ (k.toInt, o) :: l, q.1 ≠ x.toInt := fun q hq => by
  rcases List.mem_cons.mp hq with rfl | hq
  · exact fun e => h (Int32.toInt_inj.mp e.symm)
  · exact ht q hq
theorem ix_lkd {l : List (Int × Int)} {dflt key t : Int} {p : Nat} {pc : Int} (h : ∀ q ∈ l, q.1 ≠ key) (ht : pc + dflt = t := by rfl) : pc + Op.lookupswitch.offset l dflt key = t := by
  have : Op.lookupswitch.offset l dflt key = dflt := by
    induction l with
    | nil => rfl
    | cons q t ih =>
      have h1 := h q List.mem_cons_self
      have h2 := ih (fun q hq => h q (List.mem_cons_of_mem _ hq))
      obtain ⟨a, b⟩ := q
      rw [Op.lookupswitch.offset_cons]
      simp [h1, h2]
  rw [this]
  exact ht
theorem ix_tb3 {x : Int32} (h0 : ¬ x = 0) (h1 : ¬ x = 1) (h2 : ¬ x = 2) : x.toInt < 0 ∨ 2 < x.toInt := by
  have e0 : x.toInt ≠ 0 := fun e => h0 (Int32.toInt_inj.mp (by rw [e]; rfl))
  have e1 : x.toInt ≠ 1 := fun e => h1 (Int32.toInt_inj.mp (by rw [e]; rfl))
  have e2 : x.toInt ≠ 2 := fun e => h2 (Int32.toInt_inj.mp (by rw [e]; rfl))
  omega
theorem rw_52 {i : Int32} (h : ix_inb i 4 = true) : (ix_RR 52 i.toNatClampNeg).isSome = true ∧ ix_row 52 i = 59 + 9 * i.toNatClampNeg := (by decide : ∀ j, j < 4 → (ix_RR 52 j).isSome = true ∧ (ix_RR 52 j).getD 0 = 59 + 9 * j) _ (ix_inb_lt h)
def ix_tr (v : Option Nat) : Prop := v = none ∨ v = some 59 ∨ v = some 68 ∨ v = some 77 ∨ v = some 86
def ix_tn (v : Option Nat) : Prop := v = some 59 ∨ v = some 68 ∨ v = some 77 ∨ v = some 86
theorem ix_four {i : Int32} (h : ix_inb i 4 = true) : i = 0 ∨ i = 1 ∨ i = 2 ∨ i = 3 := by
  obtain ⟨j, hj, rfl⟩ := vp_in_of (ix_inb_ok h) (by decide)
  rcases (show j = 0 ∨ j = 1 ∨ j = 2 ∨ j = 3 by omega) with rfl | rfl | rfl | rfl
  · exact Or.inl rfl
  · exact Or.inr (Or.inl rfl)
  · exact Or.inr (Or.inr (Or.inl rfl))
  · exact Or.inr (Or.inr (Or.inr rfl))
theorem u2_s {α : Type} {f : Nat → Nat → α} {k j : Nat} {v : α} : ix_u2 f k j v k j = v := by simp [ix_u2]
theorem ro_1 {f : Nat → Nat → Int32} {i v : Int32} {j a b : Nat} (h : ix_inb i 4 = true) (ha : (Nat.ble a 1 || Nat.blt 5 a) = true) : ix_u2 f (ix_row 1 i) j v a b = f a b := by
  have h1 : ix_row 1 i = 2 + i.toNatClampNeg := (by decide : ∀ j, j < 4 → (ix_RR 1 j).getD 0 = 2 + j) _ (ix_inb_lt h)
  have h2 := ix_inb_lt h
  simp only [Bool.or_eq_true, Nat.ble_eq, Nat.blt_eq] at ha
  rw [h1]
  unfold ix_u2
  rw [if_neg (by omega)]
theorem rw_1 {i : Int32} (h : ix_inb i 4 = true) : (ix_RR 1 i.toNatClampNeg).isSome = true ∧ Nat.blt (ix_row 1 i) 276 = true ∧ Nat.beq (ix_TG (ix_row 1 i)) 15 = true ∧ ix_LN (ix_row 1 i) = 60 ∧ ix_row 1 i = 2 + i.toNatClampNeg := (by decide : ∀ j, j < 4 → (ix_RR 1 j).isSome = true ∧ Nat.blt ((ix_RR 1 j).getD 0) 276 = true ∧ Nat.beq (ix_TG ((ix_RR 1 j).getD 0)) 15 = true ∧ ix_LN ((ix_RR 1 j).getD 0) = 60 ∧ (ix_RR 1 j).getD 0 = 2 + j) _ (ix_inb_lt h)
theorem ro_12 {f : Nat → Nat → Int32} {i v : Int32} {j a b : Nat} (h : ix_inb i 7 = true) (ha : (Nat.ble a 12 || Nat.blt 19 a) = true) : ix_u2 f (ix_row 12 i) j v a b = f a b := by
  have h1 : ix_row 12 i = 13 + i.toNatClampNeg := (by decide : ∀ j, j < 7 → (ix_RR 12 j).getD 0 = 13 + j) _ (ix_inb_lt h)
  have h2 := ix_inb_lt h
  simp only [Bool.or_eq_true, Nat.ble_eq, Nat.blt_eq] at ha
  rw [h1]
  unfold ix_u2
  rw [if_neg (by omega)]
theorem rw_12 {i : Int32} (h : ix_inb i 7 = true) : (ix_RR 12 i.toNatClampNeg).isSome = true ∧ Nat.blt (ix_row 12 i) 276 = true ∧ Nat.beq (ix_TG (ix_row 12 i)) 14 = true ∧ ix_LN (ix_row 12 i) = 7 ∧ ix_row 12 i = 13 + i.toNatClampNeg := (by decide : ∀ j, j < 7 → (ix_RR 12 j).isSome = true ∧ Nat.blt ((ix_RR 12 j).getD 0) 276 = true ∧ Nat.beq (ix_TG ((ix_RR 12 j).getD 0)) 14 = true ∧ ix_LN ((ix_RR 12 j).getD 0) = 7 ∧ (ix_RR 12 j).getD 0 = 13 + j) _ (ix_inb_lt h)
theorem ro_20 {f : Nat → Nat → Int32} {i v : Int32} {j a b : Nat} (h : ix_inb i 7 = true) (ha : (Nat.ble a 20 || Nat.blt 27 a) = true) : ix_u2 f (ix_row 20 i) j v a b = f a b := by
  have h1 : ix_row 20 i = 21 + i.toNatClampNeg := (by decide : ∀ j, j < 7 → (ix_RR 20 j).getD 0 = 21 + j) _ (ix_inb_lt h)
  have h2 := ix_inb_lt h
  simp only [Bool.or_eq_true, Nat.ble_eq, Nat.blt_eq] at ha
  rw [h1]
  unfold ix_u2
  rw [if_neg (by omega)]
theorem rw_20 {i : Int32} (h : ix_inb i 7 = true) : (ix_RR 20 i.toNatClampNeg).isSome = true ∧ Nat.blt (ix_row 20 i) 276 = true ∧ Nat.beq (ix_TG (ix_row 20 i)) 14 = true ∧ ix_LN (ix_row 20 i) = 7 ∧ ix_row 20 i = 21 + i.toNatClampNeg := (by decide : ∀ j, j < 7 → (ix_RR 20 j).isSome = true ∧ Nat.blt ((ix_RR 20 j).getD 0) 276 = true ∧ Nat.beq (ix_TG ((ix_RR 20 j).getD 0)) 14 = true ∧ ix_LN ((ix_RR 20 j).getD 0) = 7 ∧ (ix_RR 20 j).getD 0 = 21 + j) _ (ix_inb_lt h)
theorem ro_28 {f : Nat → Nat → Int32} {i v : Int32} {j a b : Nat} (h : ix_inb i 7 = true) (ha : (Nat.ble a 28 || Nat.blt 35 a) = true) : ix_u2 f (ix_row 28 i) j v a b = f a b := by
  have h1 : ix_row 28 i = 29 + i.toNatClampNeg := (by decide : ∀ j, j < 7 → (ix_RR 28 j).getD 0 = 29 + j) _ (ix_inb_lt h)
  have h2 := ix_inb_lt h
  simp only [Bool.or_eq_true, Nat.ble_eq, Nat.blt_eq] at ha
  rw [h1]
  unfold ix_u2
  rw [if_neg (by omega)]
theorem rw_28 {i : Int32} (h : ix_inb i 7 = true) : (ix_RR 28 i.toNatClampNeg).isSome = true ∧ Nat.blt (ix_row 28 i) 276 = true ∧ Nat.beq (ix_TG (ix_row 28 i)) 14 = true ∧ ix_LN (ix_row 28 i) = 7 ∧ ix_row 28 i = 29 + i.toNatClampNeg := (by decide : ∀ j, j < 7 → (ix_RR 28 j).isSome = true ∧ Nat.blt ((ix_RR 28 j).getD 0) 276 = true ∧ Nat.beq (ix_TG ((ix_RR 28 j).getD 0)) 14 = true ∧ ix_LN ((ix_RR 28 j).getD 0) = 7 ∧ (ix_RR 28 j).getD 0 = 29 + j) _ (ix_inb_lt h)
theorem ro_36 {f : Nat → Nat → Int32} {i v : Int32} {j a b : Nat} (h : ix_inb i 7 = true) (ha : (Nat.ble a 36 || Nat.blt 43 a) = true) : ix_u2 f (ix_row 36 i) j v a b = f a b := by
  have h1 : ix_row 36 i = 37 + i.toNatClampNeg := (by decide : ∀ j, j < 7 → (ix_RR 36 j).getD 0 = 37 + j) _ (ix_inb_lt h)
  have h2 := ix_inb_lt h
  simp only [Bool.or_eq_true, Nat.ble_eq, Nat.blt_eq] at ha
  rw [h1]
  unfold ix_u2
  rw [if_neg (by omega)]
theorem rw_36 {i : Int32} (h : ix_inb i 7 = true) : (ix_RR 36 i.toNatClampNeg).isSome = true ∧ Nat.blt (ix_row 36 i) 276 = true ∧ Nat.beq (ix_TG (ix_row 36 i)) 14 = true ∧ ix_LN (ix_row 36 i) = 7 ∧ ix_row 36 i = 37 + i.toNatClampNeg := (by decide : ∀ j, j < 7 → (ix_RR 36 j).isSome = true ∧ Nat.blt ((ix_RR 36 j).getD 0) 276 = true ∧ Nat.beq (ix_TG ((ix_RR 36 j).getD 0)) 14 = true ∧ ix_LN ((ix_RR 36 j).getD 0) = 7 ∧ (ix_RR 36 j).getD 0 = 37 + j) _ (ix_inb_lt h)
theorem ro_99 {f : Nat → Nat → Int32} {i v : Int32} {j a b : Nat} (h : ix_inb i 4 = true) (ha : (Nat.ble a 99 || Nat.blt 103 a) = true) : ix_u2 f (ix_row 99 i) j v a b = f a b := by
  have h1 : ix_row 99 i = 100 + i.toNatClampNeg := (by decide : ∀ j, j < 4 → (ix_RR 99 j).getD 0 = 100 + j) _ (ix_inb_lt h)
  have h2 := ix_inb_lt h
  simp only [Bool.or_eq_true, Nat.ble_eq, Nat.blt_eq] at ha
  rw [h1]
  unfold ix_u2
  rw [if_neg (by omega)]
theorem rw_99 {i : Int32} (h : ix_inb i 4 = true) : (ix_RR 99 i.toNatClampNeg).isSome = true ∧ Nat.blt (ix_row 99 i) 276 = true ∧ Nat.beq (ix_TG (ix_row 99 i)) 15 = true ∧ ix_LN (ix_row 99 i) = 7 ∧ ix_row 99 i = 100 + i.toNatClampNeg := (by decide : ∀ j, j < 4 → (ix_RR 99 j).isSome = true ∧ Nat.blt ((ix_RR 99 j).getD 0) 276 = true ∧ Nat.beq (ix_TG ((ix_RR 99 j).getD 0)) 15 = true ∧ ix_LN ((ix_RR 99 j).getD 0) = 7 ∧ (ix_RR 99 j).getD 0 = 100 + j) _ (ix_inb_lt h)
theorem ro_112 {f : Nat → Nat → Int32} {i v : Int32} {j a b : Nat} (h : ix_inb i 8 = true) (ha : (Nat.ble a 112 || Nat.blt 120 a) = true) : ix_u2 f (ix_row 112 i) j v a b = f a b := by
  have h1 : ix_row 112 i = 113 + i.toNatClampNeg := (by decide : ∀ j, j < 8 → (ix_RR 112 j).getD 0 = 113 + j) _ (ix_inb_lt h)
  have h2 := ix_inb_lt h
  simp only [Bool.or_eq_true, Nat.ble_eq, Nat.blt_eq] at ha
  rw [h1]
  unfold ix_u2
  rw [if_neg (by omega)]
theorem rw_112 {i : Int32} (h : ix_inb i 8 = true) : (ix_RR 112 i.toNatClampNeg).isSome = true ∧ Nat.blt (ix_row 112 i) 276 = true ∧ Nat.beq (ix_TG (ix_row 112 i)) 14 = true ∧ ix_LN (ix_row 112 i) = 52 ∧ ix_row 112 i = 113 + i.toNatClampNeg := (by decide : ∀ j, j < 8 → (ix_RR 112 j).isSome = true ∧ Nat.blt ((ix_RR 112 j).getD 0) 276 = true ∧ Nat.beq (ix_TG ((ix_RR 112 j).getD 0)) 14 = true ∧ ix_LN ((ix_RR 112 j).getD 0) = 52 ∧ (ix_RR 112 j).getD 0 = 113 + j) _ (ix_inb_lt h)
theorem ro_125 {f : Nat → Nat → Int32} {i v : Int32} {j a b : Nat} (h : ix_inb i 7 = true) (ha : (Nat.ble a 125 || Nat.blt 132 a) = true) : ix_u2 f (ix_row 125 i) j v a b = f a b := by
  have h1 : ix_row 125 i = 126 + i.toNatClampNeg := (by decide : ∀ j, j < 7 → (ix_RR 125 j).getD 0 = 126 + j) _ (ix_inb_lt h)
  have h2 := ix_inb_lt h
  simp only [Bool.or_eq_true, Nat.ble_eq, Nat.blt_eq] at ha
  rw [h1]
  unfold ix_u2
  rw [if_neg (by omega)]
theorem rw_125 {i : Int32} (h : ix_inb i 7 = true) : (ix_RR 125 i.toNatClampNeg).isSome = true ∧ Nat.blt (ix_row 125 i) 276 = true ∧ Nat.beq (ix_TG (ix_row 125 i)) 15 = true ∧ ix_LN (ix_row 125 i) = 7 ∧ ix_row 125 i = 126 + i.toNatClampNeg := (by decide : ∀ j, j < 7 → (ix_RR 125 j).isSome = true ∧ Nat.blt ((ix_RR 125 j).getD 0) 276 = true ∧ Nat.beq (ix_TG ((ix_RR 125 j).getD 0)) 15 = true ∧ ix_LN ((ix_RR 125 j).getD 0) = 7 ∧ (ix_RR 125 j).getD 0 = 126 + j) _ (ix_inb_lt h)
theorem ro_133 {f : Nat → Nat → Int32} {i v : Int32} {j a b : Nat} (h : ix_inb i 7 = true) (ha : (Nat.ble a 133 || Nat.blt 140 a) = true) : ix_u2 f (ix_row 133 i) j v a b = f a b := by
  have h1 : ix_row 133 i = 134 + i.toNatClampNeg := (by decide : ∀ j, j < 7 → (ix_RR 133 j).getD 0 = 134 + j) _ (ix_inb_lt h)
  have h2 := ix_inb_lt h
  simp only [Bool.or_eq_true, Nat.ble_eq, Nat.blt_eq] at ha
  rw [h1]
  unfold ix_u2
  rw [if_neg (by omega)]
theorem rw_133 {i : Int32} (h : ix_inb i 7 = true) : (ix_RR 133 i.toNatClampNeg).isSome = true ∧ Nat.blt (ix_row 133 i) 276 = true ∧ Nat.beq (ix_TG (ix_row 133 i)) 15 = true ∧ ix_LN (ix_row 133 i) = 7 ∧ ix_row 133 i = 134 + i.toNatClampNeg := (by decide : ∀ j, j < 7 → (ix_RR 133 j).isSome = true ∧ Nat.blt ((ix_RR 133 j).getD 0) 276 = true ∧ Nat.beq (ix_TG ((ix_RR 133 j).getD 0)) 15 = true ∧ ix_LN ((ix_RR 133 j).getD 0) = 7 ∧ (ix_RR 133 j).getD 0 = 134 + j) _ (ix_inb_lt h)
theorem ro_146 {f : Nat → Nat → Int32} {i v : Int32} {j a b : Nat} (h : ix_inb i 30 = true) (ha : (Nat.ble a 146 || Nat.blt 176 a) = true) : ix_u2 f (ix_row 146 i) j v a b = f a b := by
  have h1 : ix_row 146 i = 147 + i.toNatClampNeg := (by decide : ∀ j, j < 30 → (ix_RR 146 j).getD 0 = 147 + j) _ (ix_inb_lt h)
  have h2 := ix_inb_lt h
  simp only [Bool.or_eq_true, Nat.ble_eq, Nat.blt_eq] at ha
  rw [h1]
  unfold ix_u2
  rw [if_neg (by omega)]
theorem rw_146 {i : Int32} (h : ix_inb i 30 = true) : (ix_RR 146 i.toNatClampNeg).isSome = true ∧ Nat.blt (ix_row 146 i) 276 = true ∧ Nat.beq (ix_TG (ix_row 146 i)) 14 = true ∧ ix_LN (ix_row 146 i) = 5 ∧ ix_row 146 i = 147 + i.toNatClampNeg := (by decide : ∀ j, j < 30 → (ix_RR 146 j).isSome = true ∧ Nat.blt ((ix_RR 146 j).getD 0) 276 = true ∧ Nat.beq (ix_TG ((ix_RR 146 j).getD 0)) 14 = true ∧ ix_LN ((ix_RR 146 j).getD 0) = 5 ∧ (ix_RR 146 j).getD 0 = 147 + j) _ (ix_inb_lt h)
theorem ro_183 {f : Nat → Nat → Int32} {i v : Int32} {j a b : Nat} (h : ix_inb i 2 = true) (ha : (Nat.ble a 183 || Nat.blt 185 a) = true) : ix_u2 f (ix_row 183 i) j v a b = f a b := by
  have h1 : ix_row 183 i = 184 + i.toNatClampNeg := (by decide : ∀ j, j < 2 → (ix_RR 183 j).getD 0 = 184 + j) _ (ix_inb_lt h)
  have h2 := ix_inb_lt h
  simp only [Bool.or_eq_true, Nat.ble_eq, Nat.blt_eq] at ha
  rw [h1]
  unfold ix_u2
  rw [if_neg (by omega)]
theorem rw_183 {i : Int32} (h : ix_inb i 2 = true) : (ix_RR 183 i.toNatClampNeg).isSome = true ∧ Nat.blt (ix_row 183 i) 276 = true ∧ Nat.beq (ix_TG (ix_row 183 i)) 14 = true ∧ ix_LN (ix_row 183 i) = 12 ∧ ix_row 183 i = 184 + i.toNatClampNeg := (by decide : ∀ j, j < 2 → (ix_RR 183 j).isSome = true ∧ Nat.blt ((ix_RR 183 j).getD 0) 276 = true ∧ Nat.beq (ix_TG ((ix_RR 183 j).getD 0)) 14 = true ∧ ix_LN ((ix_RR 183 j).getD 0) = 12 ∧ (ix_RR 183 j).getD 0 = 184 + j) _ (ix_inb_lt h)
theorem ro_186 {f : Nat → Nat → Int32} {i v : Int32} {j a b : Nat} (h : ix_inb i 2 = true) (ha : (Nat.ble a 186 || Nat.blt 188 a) = true) : ix_u2 f (ix_row 186 i) j v a b = f a b := by
  have h1 : ix_row 186 i = 187 + i.toNatClampNeg := (by decide : ∀ j, j < 2 → (ix_RR 186 j).getD 0 = 187 + j) _ (ix_inb_lt h)
  have h2 := ix_inb_lt h
  simp only [Bool.or_eq_true, Nat.ble_eq, Nat.blt_eq] at ha
  rw [h1]
  unfold ix_u2
  rw [if_neg (by omega)]
theorem rw_186 {i : Int32} (h : ix_inb i 2 = true) : (ix_RR 186 i.toNatClampNeg).isSome = true ∧ Nat.blt (ix_row 186 i) 276 = true ∧ Nat.beq (ix_TG (ix_row 186 i)) 14 = true ∧ ix_LN (ix_row 186 i) = 12 ∧ ix_row 186 i = 187 + i.toNatClampNeg := (by decide : ∀ j, j < 2 → (ix_RR 186 j).isSome = true ∧ Nat.blt ((ix_RR 186 j).getD 0) 276 = true ∧ Nat.beq (ix_TG ((ix_RR 186 j).getD 0)) 14 = true ∧ ix_LN ((ix_RR 186 j).getD 0) = 12 ∧ (ix_RR 186 j).getD 0 = 187 + j) _ (ix_inb_lt h)
theorem ro_189 {f : Nat → Nat → Int32} {i v : Int32} {j a b : Nat} (h : ix_inb i 2 = true) (ha : (Nat.ble a 189 || Nat.blt 191 a) = true) : ix_u2 f (ix_row 189 i) j v a b = f a b := by
  have h1 : ix_row 189 i = 190 + i.toNatClampNeg := (by decide : ∀ j, j < 2 → (ix_RR 189 j).getD 0 = 190 + j) _ (ix_inb_lt h)
  have h2 := ix_inb_lt h
  simp only [Bool.or_eq_true, Nat.ble_eq, Nat.blt_eq] at ha
  rw [h1]
  unfold ix_u2
  rw [if_neg (by omega)]
theorem rw_189 {i : Int32} (h : ix_inb i 2 = true) : (ix_RR 189 i.toNatClampNeg).isSome = true ∧ Nat.blt (ix_row 189 i) 276 = true ∧ Nat.beq (ix_TG (ix_row 189 i)) 14 = true ∧ ix_LN (ix_row 189 i) = 12 ∧ ix_row 189 i = 190 + i.toNatClampNeg := (by decide : ∀ j, j < 2 → (ix_RR 189 j).isSome = true ∧ Nat.blt ((ix_RR 189 j).getD 0) 276 = true ∧ Nat.beq (ix_TG ((ix_RR 189 j).getD 0)) 14 = true ∧ ix_LN ((ix_RR 189 j).getD 0) = 12 ∧ (ix_RR 189 j).getD 0 = 190 + j) _ (ix_inb_lt h)
def wp_X0_isTold (I : Nat → Nat → Int32) (J : Nat → Nat → Int64) (T : Option Nat) (P : Int32 → (Nat → Nat → Int32) → (Nat → Nat → Int64) → Option Nat → Prop) : Prop := ix_01 (I 124 0) = true ∧ P (I 124 0) I J T
set_option maxRecDepth 20000 in
theorem tp_X0_isTold {d : Nat} {I : Nat → Nat → Int32} {J : Nat → Nat → Int64} {T : Option Nat} {P : Int32 → (Nat → Nat → Int32) → (Nat → Nat → Int64) → Option Nat → Prop} {Q : ix_Q} (h : wp_X0_isTold I J T P) (hQ : ∀ v I J T, P v I J T → Q (some (.inl v)) (ix_mem 276 I J T)) : ix_C (d + 1) 1 [.inr (.inr (.inl (some (124))))] (ix_mem 276 I J T) Q := by
  unfold wp_X0_isTold at h
  refine ix_enter (ls := [some (.inr (.inr (.inl (some (124)))))]) rfl rfl rfl (Nat.le_of_ble_eq_true rfl) ?_
  refine ix_go 2 (x' := (4, [some (.inr (.inr (.inl (some (124)))))], [.inl (I 124 0)], 0, 0, ix_mem 276 I J T)) rfl ⟨rfl, rfl⟩ ?_
  exact ix_sp rfl ⟨Nat.le_refl _, Nat.le_refl _, ix_01_ok h.1, hQ _ _ _ _ h.2⟩
def wb_X0_begin_10_2 (x1 : Int32) (x2 : Int32) (I : Nat → Nat → Int32) (J : Nat → Nat → Int64) (T : Option Nat) (V10 : Int32 → Int32 → (Nat → Nat → Int32) → (Nat → Nat → Int64) → Option Nat → Prop) (V2 : Int32 → (Nat → Nat → Int32) → (Nat → Nat → Int64) → Option Nat → Prop) (P : (Nat → Nat → Int32) → (Nat → Nat → Int64) → Option Nat → Prop) : Prop := ((x2 < (7 : Int32) → ix_inb (x1) 7 = true ∧ ix_inb (x2) 7 = true ∧ V10 (x1) (x2 + (1 : Int32)) I (ix_u2 J (ix_row 133 (x1)) (x2).toNatClampNeg ((0 : Int64))) T) ∧ (¬ (x2 < (7 : Int32)) → V2 (x1 + (1 : Int32)) I J T))
def wl_X0_begin_10_2 (x1 : Int32) (x2 : Int32) (I : Nat → Nat → Int32) (J : Nat → Nat → Int64) (T : Option Nat) (V2 : Int32 → (Nat → Nat → Int32) → (Nat → Nat → Int64) → Option Nat → Prop) (P : (Nat → Nat → Int32) → (Nat → Nat → Int64) → Option Nat → Prop) : Prop := ∀ V : Int32 → Int32 → (Nat → Nat → Int32) → (Nat → Nat → Int64) → Option Nat → Prop, (∀ (x1 : Int32) (x2 : Int32) (I : Nat → Nat → Int32) (J : Nat → Nat → Int64) (T : Option Nat), wb_X0_begin_10_2 x1 x2 I J T V V2 P → V x1 x2 I J T) → V x1 x2 I J T
set_option maxRecDepth 20000 in
theorem tl_X0_begin_10_2 {d : Nat} {x1 : Int32} {x2 : Int32} {I : Nat → Nat → Int32} {J : Nat → Nat → Int64} {T : Option Nat} {V2 : Int32 → (Nat → Nat → Int32) → (Nat → Nat → Int64) → Option Nat → Prop} {P : (Nat → Nat → Int32) → (Nat → Nat → Int64) → Option Nat → Prop} {Q : ix_Q} (h : wl_X0_begin_10_2 x1 x2 I J T V2 P) (hV2 : ∀ (x1 : Int32) I J T, V2 x1 I J T → ix_W (ix_C d) (0, ix_lk ix_l2, none, 0, 0, Nat.blt 0 0, none) Q (2, [some (.inr (.inr (.inl (some (124))))), some (.inl (x1)), none], [], 0, 0, ix_mem 276 I J T)) (hQ : ∀ I J T, P I J T → Q none (ix_mem 276 I J T)) : ix_W (ix_C d) (0, ix_lk ix_l2, none, 0, 0, Nat.blt 0 0, none) Q (10, [some (.inr (.inr (.inl (some (124))))), some (.inl (x1)), some (.inl (x2))], [], 0, 0, ix_mem 276 I J T) := by
  refine h (fun x1 x2 I J T => ix_W (ix_C d) (0, ix_lk ix_l2, none, 0, 0, Nat.blt 0 0, none) Q (10, [some (.inr (.inr (.inl (some (124))))), some (.inl (x1)), some (.inl (x2))], [], 0, 0, ix_mem 276 I J T)) ?_
  intro x1 x2 I J T hb
  unfold wb_X0_begin_10_2 at hb
  refine ix_go 3 (x' := (if x2 < (7 : Int32) then 16 else 31, [some (.inr (.inr (.inl (some (124))))), some (.inl (x1)), some (.inl (x2))], [], 0, 0, ix_mem 276 I J T)) rfl trivial ?_
  refine ix_br (fun c3 => ?_) (fun c3 => ?_)
  · have h4 := hb.1 c3
    obtain ⟨p5, h6⟩ := h4
    obtain ⟨p7, h8⟩ := h6
    refine ix_go 9 (x' := (10, [some (.inr (.inr (.inl (some (124))))), some (.inl (x1)), some (.inl (x2 + (1 : Int32)))], [], 0, 0, ix_mem 276 I (ix_u2 J (ix_row 133 (x1)) (x2).toNatClampNeg ((0 : Int64))) T)) rfl ⟨rfl, rfl, rfl, rfl, rfl, p5, (rw_133 p5).1, (rw_133 p5).2.1, (rw_133 p5).2.2.1, (ix_inbL (rw_133 p5).2.2.2.1 p7)⟩ ?_
    refine ix_subW ([some (.inr (.inr (.inl (some (124))))), some (.inl (x1)), some (.inl (x2 + (1 : Int32)))]) (ix_subS (ix_subS (ix_subS (ix_sub0)))) ?_
    exact h8
  · have h4 := hb.2 c3
    refine ix_go 2 (x' := (2, [some (.inr (.inr (.inl (some (124))))), some (.inl (x1 + (1 : Int32))), some (.inl (x2))], [], 0, 0, ix_mem 276 I J T)) rfl trivial ?_
    refine ix_subW ([some (.inr (.inr (.inl (some (124))))), some (.inl (x1 + (1 : Int32))), none]) (ix_subS (ix_subS (ix_subN (ix_sub0)))) ?_
    exact hV2 _ _ _ _ h4
def wb_X0_begin_2 (x1 : Int32) (I : Nat → Nat → Int32) (J : Nat → Nat → Int64) (T : Option Nat) (V2 : Int32 → (Nat → Nat → Int32) → (Nat → Nat → Int64) → Option Nat → Prop) (P : (Nat → Nat → Int32) → (Nat → Nat → Int64) → Option Nat → Prop) : Prop := ((x1 < (7 : Int32) → wl_X0_begin_10_2 (x1) ((0 : Int32)) I J T V2 P) ∧ (¬ (x1 < (7 : Int32)) → P I J T))
def wl_X0_begin_2 (x1 : Int32) (I : Nat → Nat → Int32) (J : Nat → Nat → Int64) (T : Option Nat) (P : (Nat → Nat → Int32) → (Nat → Nat → Int64) → Option Nat → Prop) : Prop := ∀ V : Int32 → (Nat → Nat → Int32) → (Nat → Nat → Int64) → Option Nat → Prop, (∀ (x1 : Int32) (I : Nat → Nat → Int32) (J : Nat → Nat → Int64) (T : Option Nat), wb_X0_begin_2 x1 I J T V P → V x1 I J T) → V x1 I J T
set_option maxRecDepth 20000 in
theorem tl_X0_begin_2 {d : Nat} {x1 : Int32} {I : Nat → Nat → Int32} {J : Nat → Nat → Int64} {T : Option Nat} {P : (Nat → Nat → Int32) → (Nat → Nat → Int64) → Option Nat → Prop} {Q : ix_Q} (h : wl_X0_begin_2 x1 I J T P) (hQ : ∀ I J T, P I J T → Q none (ix_mem 276 I J T)) : ix_W (ix_C d) (0, ix_lk ix_l2, none, 0, 0, Nat.blt 0 0, none) Q (2, [some (.inr (.inr (.inl (some (124))))), some (.inl (x1)), none], [], 0, 0, ix_mem 276 I J T) := by
  refine h (fun x1 I J T => ix_W (ix_C d) (0, ix_lk ix_l2, none, 0, 0, Nat.blt 0 0, none) Q (2, [some (.inr (.inr (.inl (some (124))))), some (.inl (x1)), none], [], 0, 0, ix_mem 276 I J T)) ?_
  intro x1 I J T hb
  unfold wb_X0_begin_2 at hb
  refine ix_go 3 (x' := (if x1 < (7 : Int32) then 8 else 37, [some (.inr (.inr (.inl (some (124))))), some (.inl (x1)), none], [], 0, 0, ix_mem 276 I J T)) rfl trivial ?_
  refine ix_br (fun c1 => ?_) (fun c1 => ?_)
  · have h2 := hb.1 c1
    refine ix_go 2 (x' := (10, [some (.inr (.inr (.inl (some (124))))), some (.inl (x1)), some (.inl ((0 : Int32)))], [], 0, 0, ix_mem 276 I J T)) rfl trivial ?_
    refine ix_subW ([some (.inr (.inr (.inl (some (124))))), some (.inl (x1)), some (.inl ((0 : Int32)))]) (ix_subS (ix_subS (ix_subS (ix_sub0)))) ?_
    exact tl_X0_begin_10_2 h2 (fun _ I J T hv => hv) hQ
  · have h2 := hb.2 c1
    exact ix_sp rfl ⟨Nat.le_refl _, Nat.le_refl _, rfl, hQ _ _ _ h2⟩
def wp_X0_begin (I : Nat → Nat → Int32) (J : Nat → Nat → Int64) (T : Option Nat) (P : (Nat → Nat → Int32) → (Nat → Nat → Int64) → Option Nat → Prop) : Prop := wl_X0_begin_2 ((0 : Int32)) I J T P
set_option maxRecDepth 20000 in
theorem tp_X0_begin {d : Nat} {I : Nat → Nat → Int32} {J : Nat → Nat → Int64} {T : Option Nat} {P : (Nat → Nat → Int32) → (Nat → Nat → Int64) → Option Nat → Prop} {Q : ix_Q} (h : wp_X0_begin I J T P) (hQ : ∀ I J T, P I J T → Q none (ix_mem 276 I J T)) : ix_C (d + 1) 2 [.inr (.inr (.inl (some (124))))] (ix_mem 276 I J T) Q := by
  unfold wp_X0_begin at h
  refine ix_enter (ls := [some (.inr (.inr (.inl (some (124))))), none, none]) rfl rfl rfl (Nat.le_of_ble_eq_true rfl) ?_
  refine ix_go 2 (x' := (2, [some (.inr (.inr (.inl (some (124))))), some (.inl ((0 : Int32))), none], [], 0, 0, ix_mem 276 I J T)) rfl trivial ?_
  refine ix_subW ([some (.inr (.inr (.inl (some (124))))), some (.inl ((0 : Int32))), none]) (ix_subS (ix_subS (ix_subS (ix_sub0)))) ?_
  exact tl_X0_begin_2 h hQ
def wp_X10_bestLength (I : Nat → Nat → Int32) (J : Nat → Nat → Int64) (T : Option Nat) (P : Int32 → (Nat → Nat → Int32) → (Nat → Nat → Int64) → Option Nat → Prop) : Prop := P (I 97 8) I J T
set_option maxRecDepth 20000 in
theorem tp_X10_bestLength {d : Nat} {I : Nat → Nat → Int32} {J : Nat → Nat → Int64} {T : Option Nat} {P : Int32 → (Nat → Nat → Int32) → (Nat → Nat → Int64) → Option Nat → Prop} {Q : ix_Q} (h : wp_X10_bestLength I J T P) (hQ : ∀ v I J T, P v I J T → Q (some (.inl v)) (ix_mem 276 I J T)) : ix_C (d + 1) 3 [.inr (.inr (.inl (some (97))))] (ix_mem 276 I J T) Q := by
  unfold wp_X10_bestLength at h
  refine ix_enter (ls := [some (.inr (.inr (.inl (some (97)))))]) rfl rfl rfl (Nat.le_of_ble_eq_true rfl) ?_
  refine ix_go 2 (x' := (4, [some (.inr (.inr (.inl (some (97)))))], [.inl (I 97 8)], 0, 0, ix_mem 276 I J T)) rfl ⟨rfl, rfl⟩ ?_
  exact ix_sp rfl ⟨Nat.le_refl _, Nat.le_refl _, trivial, hQ _ _ _ _ h⟩
def wp_X10_bestLand (a0 : Int32) (I : Nat → Nat → Int32) (J : Nat → Nat → Int64) (T : Option Nat) (P : Int32 → (Nat → Nat → Int32) → (Nat → Nat → Int64) → Option Nat → Prop) : Prop := ((a0 < 0 → P ((-1 : Int32)) I J T) ∧ (¬ (a0 < 0) → ((a0 < I 97 8 → ix_inb (a0) 5 = true ∧ P (I 105 (a0).toNatClampNeg) I J T) ∧ (¬ (a0 < I 97 8) → P ((-1 : Int32)) I J T))))
set_option maxRecDepth 20000 in
theorem tp_X10_bestLand {d : Nat} {a0 : Int32} {I : Nat → Nat → Int32} {J : Nat → Nat → Int64} {T : Option Nat} {P : Int32 → (Nat → Nat → Int32) → (Nat → Nat → Int64) → Option Nat → Prop} {Q : ix_Q} (h : wp_X10_bestLand a0 I J T P) (hQ : ∀ v I J T, P v I J T → Q (some (.inl v)) (ix_mem 276 I J T)) : ix_C (d + 1) 4 [.inr (.inr (.inl (some (97)))), .inl (a0)] (ix_mem 276 I J T) Q := by
  unfold wp_X10_bestLand at h
  refine ix_enter (ls := [some (.inr (.inr (.inl (some (97))))), some (.inl (a0))]) rfl rfl rfl (Nat.le_of_ble_eq_true rfl) ?_
  refine ix_go 2 (x' := (if a0 < 0 then 21 else 4, [some (.inr (.inr (.inl (some (97))))), some (.inl (a0))], [], 0, 0, ix_mem 276 I J T)) rfl trivial ?_
  refine ix_br (fun c1 => ?_) (fun c1 => ?_)
  · have h2 := h.1 c1
    refine ix_go 1 (x' := (22, [some (.inr (.inr (.inl (some (97))))), some (.inl (a0))], [.inl ((-1 : Int32))], 0, 0, ix_mem 276 I J T)) rfl trivial ?_
    exact ix_sp rfl ⟨Nat.le_refl _, Nat.le_refl _, trivial, hQ _ _ _ _ h2⟩
  · have h2 := h.2 c1
    refine ix_go 4 (x' := (if a0 < I 97 8 then 12 else 21, [some (.inr (.inr (.inl (some (97))))), some (.inl (a0))], [], 0, 0, ix_mem 276 I J T)) rfl ⟨rfl, rfl⟩ ?_
    refine ix_br (fun c3 => ?_) (fun c3 => ?_)
    · have h4 := h2.1 c3
      obtain ⟨p5, h6⟩ := h4
      refine ix_go 5 (x' := (22, [some (.inr (.inr (.inl (some (97))))), some (.inl (a0))], [.inl (I 105 (a0).toNatClampNeg)], 0, 0, ix_mem 276 I J T)) rfl ⟨rfl, rfl, rfl, rfl, p5⟩ ?_
      exact ix_sp rfl ⟨Nat.le_refl _, Nat.le_refl _, trivial, hQ _ _ _ _ h6⟩
    · have h4 := h2.2 c3
      refine ix_go 1 (x' := (22, [some (.inr (.inr (.inl (some (97))))), some (.inl (a0))], [.inl ((-1 : Int32))], 0, 0, ix_mem 276 I J T)) rfl trivial ?_
      exact ix_sp rfl ⟨Nat.le_refl _, Nat.le_refl _, trivial, hQ _ _ _ _ h4⟩
def wp_X10_bestDue (I : Nat → Nat → Int32) (J : Nat → Nat → Int64) (T : Option Nat) (P : Int64 → (Nat → Nat → Int32) → (Nat → Nat → Int64) → Option Nat → Prop) : Prop := ((I 97 8 < (2 : Int32) → P ((0 : Int64)) I J T) ∧ (¬ (I 97 8 < (2 : Int32)) → ix_inb ((I 97 8) - ((2 : Int32))) 4 = true ∧ P (J 98 ((I 97 8) - ((2 : Int32))).toNatClampNeg) I J T))
set_option maxRecDepth 20000 in
theorem tp_X10_bestDue {d : Nat} {I : Nat → Nat → Int32} {J : Nat → Nat → Int64} {T : Option Nat} {P : Int64 → (Nat → Nat → Int32) → (Nat → Nat → Int64) → Option Nat → Prop} {Q : ix_Q} (h : wp_X10_bestDue I J T P) (hQ : ∀ v I J T, P v I J T → Q (some (.inr (.inl v))) (ix_mem 276 I J T)) : ix_C (d + 1) 5 [.inr (.inr (.inl (some (97))))] (ix_mem 276 I J T) Q := by
  unfold wp_X10_bestDue at h
  refine ix_enter (ls := [some (.inr (.inr (.inl (some (97)))))]) rfl rfl rfl (Nat.le_of_ble_eq_true rfl) ?_
  refine ix_go 4 (x' := (if I 97 8 < (2 : Int32) then 22 else 8, [some (.inr (.inr (.inl (some (97)))))], [], 0, 0, ix_mem 276 I J T)) rfl ⟨rfl, rfl⟩ ?_
  refine ix_br (fun c1 => ?_) (fun c1 => ?_)
  · have h2 := h.1 c1
    refine ix_go 1 (x' := (23, [some (.inr (.inr (.inl (some (97)))))], [.inr (.inl ((0 : Int64)))], 0, 0, ix_mem 276 I J T)) rfl trivial ?_
    exact ix_sp rfl ⟨Nat.le_refl _, Nat.le_refl _, rfl, hQ _ _ _ _ h2⟩
  · have h2 := h.2 c1
    obtain ⟨p3, h4⟩ := h2
    refine ix_go 8 (x' := (23, [some (.inr (.inr (.inl (some (97)))))], [.inr (.inl (J 98 ((I 97 8) - ((2 : Int32))).toNatClampNeg))], 0, 0, ix_mem 276 I J T)) rfl ⟨rfl, rfl, rfl, rfl, rfl, rfl, p3⟩ ?_
    exact ix_sp rfl ⟨Nat.le_refl _, Nat.le_refl _, rfl, hQ _ _ _ _ h4⟩
def wp_X10_bestThird (a0 : Int32) (I : Nat → Nat → Int32) (J : Nat → Nat → Int64) (T : Option Nat) (P : Int64 → (Nat → Nat → Int32) → (Nat → Nat → Int64) → Option Nat → Prop) : Prop := ((I 97 8 < (2 : Int32) → P ((0 : Int64)) I J T) ∧ (¬ (I 97 8 < (2 : Int32)) → ix_inb ((I 97 8) - ((2 : Int32))) 4 = true ∧ ix_inb (a0) 7 = true ∧ P (J (ix_row 99 ((I 97 8) - ((2 : Int32)))) (a0).toNatClampNeg) I J T))
set_option maxRecDepth 20000 in
theorem tp_X10_bestThird {d : Nat} {a0 : Int32} {I : Nat → Nat → Int32} {J : Nat → Nat → Int64} {T : Option Nat} {P : Int64 → (Nat → Nat → Int32) → (Nat → Nat → Int64) → Option Nat → Prop} {Q : ix_Q} (h : wp_X10_bestThird a0 I J T P) (hQ : ∀ v I J T, P v I J T → Q (some (.inr (.inl v))) (ix_mem 276 I J T)) : ix_C (d + 1) 6 [.inr (.inr (.inl (some (97)))), .inl (a0)] (ix_mem 276 I J T) Q := by
  unfold wp_X10_bestThird at h
  refine ix_enter (ls := [some (.inr (.inr (.inl (some (97))))), some (.inl (a0))]) rfl rfl rfl (Nat.le_of_ble_eq_true rfl) ?_
  refine ix_go 4 (x' := (if I 97 8 < (2 : Int32) then 24 else 8, [some (.inr (.inr (.inl (some (97))))), some (.inl (a0))], [], 0, 0, ix_mem 276 I J T)) rfl ⟨rfl, rfl⟩ ?_
  refine ix_br (fun c1 => ?_) (fun c1 => ?_)
  · have h2 := h.1 c1
    refine ix_go 1 (x' := (25, [some (.inr (.inr (.inl (some (97))))), some (.inl (a0))], [.inr (.inl ((0 : Int64)))], 0, 0, ix_mem 276 I J T)) rfl trivial ?_
    exact ix_sp rfl ⟨Nat.le_refl _, Nat.le_refl _, rfl, hQ _ _ _ _ h2⟩
  · have h2 := h.2 c1
    obtain ⟨p3, h4⟩ := h2
    obtain ⟨p5, h6⟩ := h4
    refine ix_go 10 (x' := (25, [some (.inr (.inr (.inl (some (97))))), some (.inl (a0))], [.inr (.inl (J (ix_row 99 ((I 97 8) - ((2 : Int32)))) (a0).toNatClampNeg))], 0, 0, ix_mem 276 I J T)) rfl ⟨rfl, rfl, rfl, rfl, rfl, rfl, rfl, p3, (rw_99 p3).1, (rw_99 p3).2.1, (rw_99 p3).2.2.1, (ix_inbL (rw_99 p3).2.2.2.1 p5)⟩ ?_
    exact ix_sp rfl ⟨Nat.le_refl _, Nat.le_refl _, rfl, hQ _ _ _ _ h6⟩
def wb_X0_enter_41_c97 (x2 : Int32) (x3 : Int32) (x4 : Int32) (I : Nat → Nat → Int32) (J : Nat → Nat → Int64) (T : Option Nat) (V41 : Int32 → Int32 → Int32 → (Nat → Nat → Int32) → (Nat → Nat → Int64) → Option Nat → Prop) (P : (Nat → Nat → Int32) → (Nat → Nat → Int64) → Option Nat → Prop) : Prop := ((x4 < x2 → wp_X10_bestLand (x4) I J T (fun v15 I15 J15 T15 => ix_inb (x3) 7 = true ∧ ix_inb (v15) 7 = true ∧ wp_X10_bestThird (v15) I15 J15 T15 (fun v20 I20 J20 T20 => ix_inb (v15) 7 = true ∧ V41 (x2) (x3) (x4 + (1 : Int32)) I20 (ix_u2 J20 (ix_row 133 (x3)) (v15).toNatClampNeg ((J15 (ix_row 133 (x3)) (v15).toNatClampNeg) + (v20))) T20))) ∧ (¬ (x4 < x2) → P I J T))
def wl_X0_enter_41_c97 (x2 : Int32) (x3 : Int32) (x4 : Int32) (I : Nat → Nat → Int32) (J : Nat → Nat → Int64) (T : Option Nat) (P : (Nat → Nat → Int32) → (Nat → Nat → Int64) → Option Nat → Prop) : Prop := ∀ V : Int32 → Int32 → Int32 → (Nat → Nat → Int32) → (Nat → Nat → Int64) → Option Nat → Prop, (∀ (x2 : Int32) (x3 : Int32) (x4 : Int32) (I : Nat → Nat → Int32) (J : Nat → Nat → Int64) (T : Option Nat), wb_X0_enter_41_c97 x2 x3 x4 I J T V P → V x2 x3 x4 I J T) → V x2 x3 x4 I J T
set_option maxRecDepth 20000 in
theorem tl_X0_enter_41_c97 {d : Nat} {x2 : Int32} {x3 : Int32} {x4 : Int32} {I : Nat → Nat → Int32} {J : Nat → Nat → Int64} {T : Option Nat} {P : (Nat → Nat → Int32) → (Nat → Nat → Int64) → Option Nat → Prop} {Q : ix_Q} (h : wl_X0_enter_41_c97 x2 x3 x4 I J T P) (hQ : ∀ I J T, P I J T → Q none (ix_mem 276 I J T)) : ix_W (ix_C (d + 1)) (0, ix_lk ix_l7, none, 0, 0, Nat.blt 0 0, none) Q (41, [some (.inr (.inr (.inl (some (124))))), some (.inr (.inr (.inl (some (97))))), some (.inl (x2)), some (.inl (x3)), some (.inl (x4)), none], [], 0, 0, ix_mem 276 I J T) := by
  refine h (fun x2 x3 x4 I J T => ix_W (ix_C (d + 1)) (0, ix_lk ix_l7, none, 0, 0, Nat.blt 0 0, none) Q (41, [some (.inr (.inr (.inl (some (124))))), some (.inr (.inr (.inl (some (97))))), some (.inl (x2)), some (.inl (x3)), some (.inl (x4)), none], [], 0, 0, ix_mem 276 I J T)) ?_
  intro x2 x3 x4 I J T hb
  unfold wb_X0_enter_41_c97 at hb
  refine ix_go 3 (x' := (if x4 < x2 then 47 else 79, [some (.inr (.inr (.inl (some (124))))), some (.inr (.inr (.inl (some (97))))), some (.inl (x2)), some (.inl (x3)), some (.inl (x4)), none], [], 0, 0, ix_mem 276 I J T)) rfl trivial ?_
  refine ix_br (fun c13 => ?_) (fun c13 => ?_)
  · have h14 := hb.1 c13
    refine ix_go 2 (x' := (50, [some (.inr (.inr (.inl (some (124))))), some (.inr (.inr (.inl (some (97))))), some (.inl (x2)), some (.inl (x3)), some (.inl (x4)), none], [.inl (x4), .inr (.inr (.inl (some (97))))], 0, 0, ix_mem 276 I J T)) rfl trivial ?_
    refine ix_sp rfl ⟨rfl, ⟨ix_lt rfl, ix_eq rfl, ix_lt rfl⟩, ix_le rfl, Nat.le_refl _, Nat.le_refl _, tp_X10_bestLand h14 (fun v15 I15 J15 T15 h15 => ?_)⟩
    change ix_W _ _ _ (53, [some (.inr (.inr (.inl (some (124))))), some (.inr (.inr (.inl (some (97))))), some (.inl (x2)), some (.inl (x3)), some (.inl (x4)), none], [.inl (v15)], 0, 0, ix_mem 276 I15 J15 T15)
    obtain ⟨p16, h17⟩ := h15
    obtain ⟨p18, h19⟩ := h17
    refine ix_go 10 (x' := (68, [some (.inr (.inr (.inl (some (124))))), some (.inr (.inr (.inl (some (97))))), some (.inl (x2)), some (.inl (x3)), some (.inl (x4)), some (.inl (v15))], [.inl (v15), .inr (.inr (.inl (some (97)))), .inr (.inl (J15 (ix_row 133 (x3)) (v15).toNatClampNeg)), .inl (v15), .inr (.inr (.inl (some (ix_row 133 (x3)))))], 0, 0, ix_mem 276 I15 J15 T15)) rfl ⟨rfl, rfl, rfl, rfl, rfl, p16, (rw_133 p16).1, (rw_133 p16).2.1, (rw_133 p16).2.2.1, (ix_inbL (rw_133 p16).2.2.2.1 p18)⟩ ?_
    refine ix_sp rfl ⟨rfl, ⟨ix_lt rfl, ix_eq rfl, ix_lt rfl⟩, ix_le rfl, Nat.le_refl _, Nat.le_refl _, tp_X10_bestThird h19 (fun v20 I20 J20 T20 h20 => ?_)⟩
    change ix_W _ _ _ (71, [some (.inr (.inr (.inl (some (124))))), some (.inr (.inr (.inl (some (97))))), some (.inl (x2)), some (.inl (x3)), some (.inl (x4)), some (.inl (v15))], [.inr (.inl (v20)), .inr (.inl (J15 (ix_row 133 (x3)) (v15).toNatClampNeg)), .inl (v15), .inr (.inr (.inl (some (ix_row 133 (x3)))))], 0, 0, ix_mem 276 I20 J20 T20)
    obtain ⟨p21, h22⟩ := h20
    refine ix_go 4 (x' := (41, [some (.inr (.inr (.inl (some (124))))), some (.inr (.inr (.inl (some (97))))), some (.inl (x2)), some (.inl (x3)), some (.inl (x4 + (1 : Int32))), some (.inl (v15))], [], 0, 0, ix_mem 276 I20 (ix_u2 J20 (ix_row 133 (x3)) (v15).toNatClampNeg ((J15 (ix_row 133 (x3)) (v15).toNatClampNeg) + (v20))) T20)) rfl ⟨(rw_133 p16).2.1, (rw_133 p16).2.2.1, (ix_inbL (rw_133 p16).2.2.2.1 p21)⟩ ?_
    refine ix_subW ([some (.inr (.inr (.inl (some (124))))), some (.inr (.inr (.inl (some (97))))), some (.inl (x2)), some (.inl (x3)), some (.inl (x4 + (1 : Int32))), none]) (ix_subS (ix_subS (ix_subS (ix_subS (ix_subS (ix_subN (ix_sub0))))))) ?_
    exact h22
  · have h14 := hb.2 c13
    exact ix_sp rfl ⟨Nat.le_refl _, Nat.le_refl _, rfl, hQ _ _ _ h14⟩
def wp_X0_enter (I : Nat → Nat → Int32) (J : Nat → Nat → Int64) (T : Option Nat) (P : (Nat → Nat → Int32) → (Nat → Nat → Int64) → Option Nat → Prop) : Prop := wp_X10_bestLength I J T (fun v1 I1 J1 T1 => (((v1) - ((1 : Int32)) < (1 : Int32) → P I1 J1 T1) ∧ (¬ ((v1) - ((1 : Int32)) < (1 : Int32)) → wp_X10_bestLand ((0 : Int32)) I1 J1 T1 (fun v4 I4 J4 T4 => ix_inb (v4) 7 = true ∧ wp_X10_bestLand ((v1) - ((1 : Int32))) I4 J4 T4 (fun v7 I7 J7 T7 => ix_inb (v7) 7 = true ∧ wp_X10_bestDue I7 J7 T7 (fun v10 I10 J10 T10 => ix_inb (v7) 7 = true ∧ wl_X0_enter_41_c97 ((v1) - ((1 : Int32))) (v4) ((1 : Int32)) I10 (ix_u2 J10 (ix_row 133 (v4)) (v7).toNatClampNeg ((J7 (ix_row 133 (v4)) (v7).toNatClampNeg) + (v10))) T10 P))))))
set_option maxRecDepth 20000 in
theorem tp_X0_enter {d : Nat} {I : Nat → Nat → Int32} {J : Nat → Nat → Int64} {T : Option Nat} {P : (Nat → Nat → Int32) → (Nat → Nat → Int64) → Option Nat → Prop} {Q : ix_Q} (h : wp_X0_enter I J T P) (hQ : ∀ I J T, P I J T → Q none (ix_mem 276 I J T)) : ix_C (d + 2) 7 [.inr (.inr (.inl (some (124)))), .inr (.inr (.inl (some (97))))] (ix_mem 276 I J T) Q := by
  unfold wp_X0_enter at h
  refine ix_enter (ls := [some (.inr (.inr (.inl (some (124))))), some (.inr (.inr (.inl (some (97))))), none, none, none, none]) rfl rfl rfl (Nat.le_of_ble_eq_true rfl) ?_
  refine ix_go 1 (x' := (1, [some (.inr (.inr (.inl (some (124))))), some (.inr (.inr (.inl (some (97))))), none, none, none, none], [.inr (.inr (.inl (some (97))))], 0, 0, ix_mem 276 I J T)) rfl trivial ?_
  refine ix_sp rfl ⟨rfl, ⟨ix_lt rfl, ix_eq rfl, ix_lt rfl⟩, ix_le rfl, Nat.le_refl _, Nat.le_refl _, tp_X10_bestLength h (fun v1 I1 J1 T1 h1 => ?_)⟩
  change ix_W _ _ _ (4, [some (.inr (.inr (.inl (some (124))))), some (.inr (.inr (.inl (some (97))))), none, none, none, none], [.inl (v1)], 0, 0, ix_mem 276 I1 J1 T1)
  refine ix_go 6 (x' := (if (v1) - ((1 : Int32)) < (1 : Int32) then 12 else 13, [some (.inr (.inr (.inl (some (124))))), some (.inr (.inr (.inl (some (97))))), some (.inl ((v1) - ((1 : Int32)))), none, none, none], [], 0, 0, ix_mem 276 I1 J1 T1)) rfl trivial ?_
  refine ix_br (fun c2 => ?_) (fun c2 => ?_)
  · have h3 := h1.1 c2
    exact ix_sp rfl ⟨Nat.le_refl _, Nat.le_refl _, rfl, hQ _ _ _ h3⟩
  · have h3 := h1.2 c2
    refine ix_go 2 (x' := (15, [some (.inr (.inr (.inl (some (124))))), some (.inr (.inr (.inl (some (97))))), some (.inl ((v1) - ((1 : Int32)))), none, none, none], [.inl ((0 : Int32)), .inr (.inr (.inl (some (97))))], 0, 0, ix_mem 276 I1 J1 T1)) rfl trivial ?_
    refine ix_sp rfl ⟨rfl, ⟨ix_lt rfl, ix_eq rfl, ix_lt rfl⟩, ix_le rfl, Nat.le_refl _, Nat.le_refl _, tp_X10_bestLand h3 (fun v4 I4 J4 T4 h4 => ?_)⟩
    change ix_W _ _ _ (18, [some (.inr (.inr (.inl (some (124))))), some (.inr (.inr (.inl (some (97))))), some (.inl ((v1) - ((1 : Int32)))), none, none, none], [.inl (v4)], 0, 0, ix_mem 276 I4 J4 T4)
    obtain ⟨p5, h6⟩ := h4
    refine ix_go 7 (x' := (27, [some (.inr (.inr (.inl (some (124))))), some (.inr (.inr (.inl (some (97))))), some (.inl ((v1) - ((1 : Int32)))), some (.inl (v4)), none, none], [.inl ((v1) - ((1 : Int32))), .inr (.inr (.inl (some (97)))), .inr (.inr (.inl (some (ix_row 133 (v4)))))], 0, 0, ix_mem 276 I4 J4 T4)) rfl ⟨rfl, rfl, rfl, rfl, rfl, p5, (rw_133 p5).1⟩ ?_
    refine ix_sp rfl ⟨rfl, ⟨ix_lt rfl, ix_eq rfl, ix_lt rfl⟩, ix_le rfl, Nat.le_refl _, Nat.le_refl _, tp_X10_bestLand h6 (fun v7 I7 J7 T7 h7 => ?_)⟩
    change ix_W _ _ _ (30, [some (.inr (.inr (.inl (some (124))))), some (.inr (.inr (.inl (some (97))))), some (.inl ((v1) - ((1 : Int32)))), some (.inl (v4)), none, none], [.inl (v7), .inr (.inr (.inl (some (ix_row 133 (v4)))))], 0, 0, ix_mem 276 I7 J7 T7)
    obtain ⟨p8, h9⟩ := h7
    refine ix_go 3 (x' := (33, [some (.inr (.inr (.inl (some (124))))), some (.inr (.inr (.inl (some (97))))), some (.inl ((v1) - ((1 : Int32)))), some (.inl (v4)), none, none], [.inr (.inr (.inl (some (97)))), .inr (.inl (J7 (ix_row 133 (v4)) (v7).toNatClampNeg)), .inl (v7), .inr (.inr (.inl (some (ix_row 133 (v4)))))], 0, 0, ix_mem 276 I7 J7 T7)) rfl ⟨(rw_133 p5).2.1, (rw_133 p5).2.2.1, (ix_inbL (rw_133 p5).2.2.2.1 p8)⟩ ?_
    refine ix_sp rfl ⟨rfl, ⟨ix_lt rfl, ix_eq rfl, ix_lt rfl⟩, ix_le rfl, Nat.le_refl _, Nat.le_refl _, tp_X10_bestDue h9 (fun v10 I10 J10 T10 h10 => ?_)⟩
    change ix_W _ _ _ (36, [some (.inr (.inr (.inl (some (124))))), some (.inr (.inr (.inl (some (97))))), some (.inl ((v1) - ((1 : Int32)))), some (.inl (v4)), none, none], [.inr (.inl (v10)), .inr (.inl (J7 (ix_row 133 (v4)) (v7).toNatClampNeg)), .inl (v7), .inr (.inr (.inl (some (ix_row 133 (v4)))))], 0, 0, ix_mem 276 I10 J10 T10)
    obtain ⟨p11, h12⟩ := h10
    refine ix_go 4 (x' := (41, [some (.inr (.inr (.inl (some (124))))), some (.inr (.inr (.inl (some (97))))), some (.inl ((v1) - ((1 : Int32)))), some (.inl (v4)), some (.inl ((1 : Int32))), none], [], 0, 0, ix_mem 276 I10 (ix_u2 J10 (ix_row 133 (v4)) (v7).toNatClampNeg ((J7 (ix_row 133 (v4)) (v7).toNatClampNeg) + (v10))) T10)) rfl ⟨(rw_133 p5).2.1, (rw_133 p5).2.2.1, (ix_inbL (rw_133 p5).2.2.2.1 p11)⟩ ?_
    refine ix_subW ([some (.inr (.inr (.inl (some (124))))), some (.inr (.inr (.inl (some (97))))), some (.inl ((v1) - ((1 : Int32)))), some (.inl (v4)), some (.inl ((1 : Int32))), none]) (ix_subS (ix_subS (ix_subS (ix_subS (ix_subS (ix_subS (ix_sub0))))))) ?_
    exact tl_X0_enter_41_c97 h12 hQ
def wb_X0_settle_13_4 (x1 : Int64) (x3 : Int32) (x4 : Int32) (I : Nat → Nat → Int32) (J : Nat → Nat → Int64) (T : Option Nat) (V13 : Int64 → Int32 → Int32 → (Nat → Nat → Int32) → (Nat → Nat → Int64) → Option Nat → Prop) (V4 : Int64 → Int32 → (Nat → Nat → Int32) → (Nat → Nat → Int64) → Option Nat → Prop) (P : Int64 → (Nat → Nat → Int32) → (Nat → Nat → Int64) → Option Nat → Prop) : Prop := ((x4 < (7 : Int32) → ix_inb (x3) 7 = true ∧ ix_inb (x3) 7 = true ∧ ix_inb (x4) 7 = true ∧ ix_inb (x4) 7 = true ∧ ix_inb (x3) 7 = true ∧ ix_inb (x4) 7 = true ∧ V13 ((x1) + ((ix_u2 J (ix_row 125 (x3)) (x4).toNatClampNeg (J (ix_row 133 (x3)) (x4).toNatClampNeg)) (ix_row 133 (x3)) (x4).toNatClampNeg)) (x3) (x4 + (1 : Int32)) I (ix_u2 J (ix_row 125 (x3)) (x4).toNatClampNeg (J (ix_row 133 (x3)) (x4).toNatClampNeg)) T) ∧ (¬ (x4 < (7 : Int32)) → V4 (x1) (x3 + (1 : Int32)) I J T))
def wl_X0_settle_13_4 (x1 : Int64) (x3 : Int32) (x4 : Int32) (I : Nat → Nat → Int32) (J : Nat → Nat → Int64) (T : Option Nat) (V4 : Int64 → Int32 → (Nat → Nat → Int32) → (Nat → Nat → Int64) → Option Nat → Prop) (P : Int64 → (Nat → Nat → Int32) → (Nat → Nat → Int64) → Option Nat → Prop) : Prop := ∀ V : Int64 → Int32 → Int32 → (Nat → Nat → Int32) → (Nat → Nat → Int64) → Option Nat → Prop, (∀ (x1 : Int64) (x3 : Int32) (x4 : Int32) (I : Nat → Nat → Int32) (J : Nat → Nat → Int64) (T : Option Nat), wb_X0_settle_13_4 x1 x3 x4 I J T V V4 P → V x1 x3 x4 I J T) → V x1 x3 x4 I J T
set_option maxRecDepth 20000 in
theorem tl_X0_settle_13_4 {d : Nat} {x1 : Int64} {x3 : Int32} {x4 : Int32} {I : Nat → Nat → Int32} {J : Nat → Nat → Int64} {T : Option Nat} {V4 : Int64 → Int32 → (Nat → Nat → Int32) → (Nat → Nat → Int64) → Option Nat → Prop} {P : Int64 → (Nat → Nat → Int32) → (Nat → Nat → Int64) → Option Nat → Prop} {Q : ix_Q} (h : wl_X0_settle_13_4 x1 x3 x4 I J T V4 P) (hV4 : ∀ (x1 : Int64) (x3 : Int32) I J T, V4 x1 x3 I J T → ix_W (ix_C d) (0, ix_lk ix_l8, (some .long), 0, 0, Nat.blt 0 0, none) Q (4, [some (.inr (.inr (.inl (some (124))))), some (.inr (.inl (x1))), none, some (.inl (x3)), none], [], 0, 0, ix_mem 276 I J T)) (hQ : ∀ v I J T, P v I J T → Q (some (.inr (.inl v))) (ix_mem 276 I J T)) : ix_W (ix_C d) (0, ix_lk ix_l8, (some .long), 0, 0, Nat.blt 0 0, none) Q (13, [some (.inr (.inr (.inl (some (124))))), some (.inr (.inl (x1))), none, some (.inl (x3)), some (.inl (x4))], [], 0, 0, ix_mem 276 I J T) := by
  refine h (fun x1 x3 x4 I J T => ix_W (ix_C d) (0, ix_lk ix_l8, (some .long), 0, 0, Nat.blt 0 0, none) Q (13, [some (.inr (.inr (.inl (some (124))))), some (.inr (.inl (x1))), none, some (.inl (x3)), some (.inl (x4))], [], 0, 0, ix_mem 276 I J T)) ?_
  intro x1 x3 x4 I J T hb
  unfold wb_X0_settle_13_4 at hb
  refine ix_go 3 (x' := (if x4 < (7 : Int32) then 20 else 56, [some (.inr (.inr (.inl (some (124))))), some (.inr (.inl (x1))), none, some (.inl (x3)), some (.inl (x4))], [], 0, 0, ix_mem 276 I J T)) rfl trivial ?_
  refine ix_br (fun c3 => ?_) (fun c3 => ?_)
  · have h4 := hb.1 c3
    obtain ⟨p5, h6⟩ := h4
    obtain ⟨p7, h8⟩ := h6
    obtain ⟨p9, h10⟩ := h8
    obtain ⟨p11, h12⟩ := h10
    obtain ⟨p13, h14⟩ := h12
    obtain ⟨p15, h16⟩ := h14
    refine ix_go 23 (x' := (13, [some (.inr (.inr (.inl (some (124))))), some (.inr (.inl ((x1) + ((ix_u2 J (ix_row 125 (x3)) (x4).toNatClampNeg (J (ix_row 133 (x3)) (x4).toNatClampNeg)) (ix_row 133 (x3)) (x4).toNatClampNeg)))), none, some (.inl (x3)), some (.inl (x4 + (1 : Int32)))], [], 0, 0, ix_mem 276 I (ix_u2 J (ix_row 125 (x3)) (x4).toNatClampNeg (J (ix_row 133 (x3)) (x4).toNatClampNeg)) T)) rfl ⟨rfl, rfl, rfl, rfl, rfl, p5, (rw_125 p5).1, rfl, rfl, rfl, rfl, rfl, p7, (rw_133 p7).1, (rw_133 p7).2.1, (rw_133 p7).2.2.1, (ix_inbL (rw_133 p7).2.2.2.1 p9), (rw_125 p7).2.1, (rw_125 p7).2.2.1, (ix_inbL (rw_125 p7).2.2.2.1 p11), rfl, rfl, rfl, rfl, rfl, p13, (rw_133 p13).1, (rw_133 p13).2.1, (rw_133 p13).2.2.1, (ix_inbL (rw_133 p13).2.2.2.1 p15)⟩ ?_
    refine ix_subW ([some (.inr (.inr (.inl (some (124))))), some (.inr (.inl ((x1) + ((ix_u2 J (ix_row 125 (x3)) (x4).toNatClampNeg (J (ix_row 133 (x3)) (x4).toNatClampNeg)) (ix_row 133 (x3)) (x4).toNatClampNeg)))), none, some (.inl (x3)), some (.inl (x4 + (1 : Int32)))]) (ix_subS (ix_subS (ix_subS (ix_subS (ix_subS (ix_sub0)))))) ?_
    exact h16
  · have h4 := hb.2 c3
    refine ix_go 2 (x' := (4, [some (.inr (.inr (.inl (some (124))))), some (.inr (.inl (x1))), none, some (.inl (x3 + (1 : Int32))), some (.inl (x4))], [], 0, 0, ix_mem 276 I J T)) rfl trivial ?_
    refine ix_subW ([some (.inr (.inr (.inl (some (124))))), some (.inr (.inl (x1))), none, some (.inl (x3 + (1 : Int32))), none]) (ix_subS (ix_subS (ix_subS (ix_subS (ix_subN (ix_sub0)))))) ?_
    exact hV4 _ _ _ _ _ h4
def wb_X0_settle_4 (x1 : Int64) (x3 : Int32) (I : Nat → Nat → Int32) (J : Nat → Nat → Int64) (T : Option Nat) (V4 : Int64 → Int32 → (Nat → Nat → Int32) → (Nat → Nat → Int64) → Option Nat → Prop) (P : Int64 → (Nat → Nat → Int32) → (Nat → Nat → Int64) → Option Nat → Prop) : Prop := ((x3 < (7 : Int32) → wl_X0_settle_13_4 (x1) (x3) ((0 : Int32)) I J T V4 P) ∧ (¬ (x3 < (7 : Int32)) → P (x1) (ix_u2 I 124 0 ((1 : Int32))) J T))
def wl_X0_settle_4 (x1 : Int64) (x3 : Int32) (I : Nat → Nat → Int32) (J : Nat → Nat → Int64) (T : Option Nat) (P : Int64 → (Nat → Nat → Int32) → (Nat → Nat → Int64) → Option Nat → Prop) : Prop := ∀ V : Int64 → Int32 → (Nat → Nat → Int32) → (Nat → Nat → Int64) → Option Nat → Prop, (∀ (x1 : Int64) (x3 : Int32) (I : Nat → Nat → Int32) (J : Nat → Nat → Int64) (T : Option Nat), wb_X0_settle_4 x1 x3 I J T V P → V x1 x3 I J T) → V x1 x3 I J T
set_option maxRecDepth 20000 in
theorem tl_X0_settle_4 {d : Nat} {x1 : Int64} {x3 : Int32} {I : Nat → Nat → Int32} {J : Nat → Nat → Int64} {T : Option Nat} {P : Int64 → (Nat → Nat → Int32) → (Nat → Nat → Int64) → Option Nat → Prop} {Q : ix_Q} (h : wl_X0_settle_4 x1 x3 I J T P) (hQ : ∀ v I J T, P v I J T → Q (some (.inr (.inl v))) (ix_mem 276 I J T)) : ix_W (ix_C d) (0, ix_lk ix_l8, (some .long), 0, 0, Nat.blt 0 0, none) Q (4, [some (.inr (.inr (.inl (some (124))))), some (.inr (.inl (x1))), none, some (.inl (x3)), none], [], 0, 0, ix_mem 276 I J T) := by
  refine h (fun x1 x3 I J T => ix_W (ix_C d) (0, ix_lk ix_l8, (some .long), 0, 0, Nat.blt 0 0, none) Q (4, [some (.inr (.inr (.inl (some (124))))), some (.inr (.inl (x1))), none, some (.inl (x3)), none], [], 0, 0, ix_mem 276 I J T)) ?_
  intro x1 x3 I J T hb
  unfold wb_X0_settle_4 at hb
  refine ix_go 3 (x' := (if x3 < (7 : Int32) then 10 else 62, [some (.inr (.inr (.inl (some (124))))), some (.inr (.inl (x1))), none, some (.inl (x3)), none], [], 0, 0, ix_mem 276 I J T)) rfl trivial ?_
  refine ix_br (fun c1 => ?_) (fun c1 => ?_)
  · have h2 := hb.1 c1
    refine ix_go 2 (x' := (13, [some (.inr (.inr (.inl (some (124))))), some (.inr (.inl (x1))), none, some (.inl (x3)), some (.inl ((0 : Int32)))], [], 0, 0, ix_mem 276 I J T)) rfl trivial ?_
    refine ix_subW ([some (.inr (.inr (.inl (some (124))))), some (.inr (.inl (x1))), none, some (.inl (x3)), some (.inl ((0 : Int32)))]) (ix_subS (ix_subS (ix_subS (ix_subS (ix_subS (ix_sub0)))))) ?_
    exact tl_X0_settle_13_4 h2 (fun _ _ I J T hv => hv) hQ
  · have h2 := hb.2 c1
    refine ix_go 4 (x' := (68, [some (.inr (.inr (.inl (some (124))))), some (.inr (.inl (x1))), none, some (.inl (x3)), none], [.inr (.inl (x1))], 0, 0, ix_mem 276 (ix_u2 I 124 0 ((1 : Int32))) J T)) rfl ⟨rfl, rfl, rfl⟩ ?_
    exact ix_sp rfl ⟨Nat.le_refl _, Nat.le_refl _, rfl, hQ _ _ _ _ h2⟩
def wp_X0_settle (I : Nat → Nat → Int32) (J : Nat → Nat → Int64) (T : Option Nat) (P : Int64 → (Nat → Nat → Int32) → (Nat → Nat → Int64) → Option Nat → Prop) : Prop := wl_X0_settle_4 ((0 : Int64)) ((0 : Int32)) I J T P
set_option maxRecDepth 20000 in
theorem tp_X0_settle {d : Nat} {I : Nat → Nat → Int32} {J : Nat → Nat → Int64} {T : Option Nat} {P : Int64 → (Nat → Nat → Int32) → (Nat → Nat → Int64) → Option Nat → Prop} {Q : ix_Q} (h : wp_X0_settle I J T P) (hQ : ∀ v I J T, P v I J T → Q (some (.inr (.inl v))) (ix_mem 276 I J T)) : ix_C (d + 1) 8 [.inr (.inr (.inl (some (124))))] (ix_mem 276 I J T) Q := by
  unfold wp_X0_settle at h
  refine ix_enter (ls := [some (.inr (.inr (.inl (some (124))))), none, none, none, none]) rfl rfl rfl (Nat.le_of_ble_eq_true rfl) ?_
  refine ix_go 4 (x' := (4, [some (.inr (.inr (.inl (some (124))))), some (.inr (.inl ((0 : Int64)))), none, some (.inl ((0 : Int32))), none], [], 0, 0, ix_mem 276 I J T)) rfl trivial ?_
  refine ix_subW ([some (.inr (.inr (.inl (some (124))))), some (.inr (.inl ((0 : Int64)))), none, some (.inl ((0 : Int32))), none]) (ix_subS (ix_subS (ix_subS (ix_subS (ix_subS (ix_sub0)))))) ?_
  exact tl_X0_settle_4 h hQ
def wp_J9_max_f86c9 (a0 : Int64) (a1 : Int64) (I : Nat → Nat → Int32) (J : Nat → Nat → Int64) (T : Option Nat) (P : Int64 → (Nat → Nat → Int32) → (Nat → Nat → Int64) → Option Nat → Prop) : Prop := ((lg_cmp (a0) (a1) < 0 → P (a1) I J T) ∧ (¬ (lg_cmp (a0) (a1) < 0) → P (a0) I J T))
set_option maxRecDepth 20000 in
theorem tp_J9_max_f86c9 {d : Nat} {a0 : Int64} {a1 : Int64} {I : Nat → Nat → Int32} {J : Nat → Nat → Int64} {T : Option Nat} {P : Int64 → (Nat → Nat → Int32) → (Nat → Nat → Int64) → Option Nat → Prop} {Q : ix_Q} (h : wp_J9_max_f86c9 a0 a1 I J T P) (hQ : ∀ v I J T, P v I J T → Q (some (.inr (.inl v))) (ix_mem 276 I J T)) : ix_C (d + 1) 343 [.inr (.inl (a0)), .inr (.inl (a1))] (ix_mem 276 I J T) Q := by
  unfold wp_J9_max_f86c9 at h
  refine ix_enter (ls := [some (.inr (.inl (a0))), none, some (.inr (.inl (a1))), none]) rfl rfl rfl (Nat.le_of_ble_eq_true rfl) ?_
  refine ix_go 4 (x' := (if lg_cmp (a0) (a1) < 0 then 10 else 6, [some (.inr (.inl (a0))), none, some (.inr (.inl (a1))), none], [], 0, 0, ix_mem 276 I J T)) rfl trivial ?_
  refine ix_br (fun c1 => ?_) (fun c1 => ?_)
  · have h2 := h.1 c1
    refine ix_go 1 (x' := (11, [some (.inr (.inl (a0))), none, some (.inr (.inl (a1))), none], [.inr (.inl (a1))], 0, 0, ix_mem 276 I J T)) rfl trivial ?_
    exact ix_sp rfl ⟨Nat.le_refl _, Nat.le_refl _, rfl, hQ _ _ _ _ h2⟩
  · have h2 := h.2 c1
    refine ix_go 2 (x' := (11, [some (.inr (.inl (a0))), none, some (.inr (.inl (a1))), none], [.inr (.inl (a0))], 0, 0, ix_mem 276 I J T)) rfl trivial ?_
    exact ix_sp rfl ⟨Nat.le_refl _, Nat.le_refl _, rfl, hQ _ _ _ _ h2⟩
def wp_X0_netDebt (a0 : Int32) (a1 : Int32) (I : Nat → Nat → Int32) (J : Nat → Nat → Int64) (T : Option Nat) (P : Int64 → (Nat → Nat → Int32) → (Nat → Nat → Int64) → Option Nat → Prop) : Prop := ix_inb (a0) 7 = true ∧ ix_inb (a1) 7 = true ∧ ix_inb (a1) 7 = true ∧ ix_inb (a0) 7 = true ∧ wp_J9_max_f86c9 ((0 : Int64)) ((J (ix_row 125 (a0)) (a1).toNatClampNeg) - (J (ix_row 125 (a1)) (a0).toNatClampNeg)) I J T (fun v9 I9 J9 T9 => P (v9) I9 J9 T9)
set_option maxRecDepth 20000 in
theorem tp_X0_netDebt {d : Nat} {a0 : Int32} {a1 : Int32} {I : Nat → Nat → Int32} {J : Nat → Nat → Int64} {T : Option Nat} {P : Int64 → (Nat → Nat → Int32) → (Nat → Nat → Int64) → Option Nat → Prop} {Q : ix_Q} (h : wp_X0_netDebt a0 a1 I J T P) (hQ : ∀ v I J T, P v I J T → Q (some (.inr (.inl v))) (ix_mem 276 I J T)) : ix_C (d + 2) 9 [.inr (.inr (.inl (some (124)))), .inl (a0), .inl (a1)] (ix_mem 276 I J T) Q := by
  unfold wp_X0_netDebt at h
  refine ix_enter (ls := [some (.inr (.inr (.inl (some (124))))), some (.inl (a0)), some (.inl (a1))]) rfl rfl rfl (Nat.le_of_ble_eq_true rfl) ?_
  obtain ⟨p1, h2⟩ := h
  obtain ⟨p3, h4⟩ := h2
  obtain ⟨p5, h6⟩ := h4
  obtain ⟨p7, h8⟩ := h6
  refine ix_go 14 (x' := (18, [some (.inr (.inr (.inl (some (124))))), some (.inl (a0)), some (.inl (a1))], [.inr (.inl ((J (ix_row 125 (a0)) (a1).toNatClampNeg) - (J (ix_row 125 (a1)) (a0).toNatClampNeg))), .inr (.inl ((0 : Int64)))], 0, 0, ix_mem 276 I J T)) rfl ⟨rfl, rfl, rfl, rfl, rfl, p1, (rw_125 p1).1, (rw_125 p1).2.1, (rw_125 p1).2.2.1, (ix_inbL (rw_125 p1).2.2.2.1 p3), rfl, rfl, rfl, rfl, rfl, p5, (rw_125 p5).1, (rw_125 p5).2.1, (rw_125 p5).2.2.1, (ix_inbL (rw_125 p5).2.2.2.1 p7)⟩ ?_
  refine ix_sp rfl ⟨rfl, trivial, ix_le rfl, Nat.le_refl _, Nat.le_refl _, tp_J9_max_f86c9 h8 (fun v9 I9 J9 T9 h9 => ?_)⟩
  change ix_W _ _ _ (21, [some (.inr (.inr (.inl (some (124))))), some (.inl (a0)), some (.inl (a1))], [.inr (.inl (v9))], 0, 0, ix_mem 276 I9 J9 T9)
  exact ix_sp rfl ⟨Nat.le_refl _, Nat.le_refl _, rfl, hQ _ _ _ _ h9⟩
def wb_X0_balanceOf_5 (x1 : Int32) (x2 : Int64) (x4 : Int32) (I : Nat → Nat → Int32) (J : Nat → Nat → Int64) (T : Option Nat) (V5 : Int32 → Int64 → Int32 → (Nat → Nat → Int32) → (Nat → Nat → Int64) → Option Nat → Prop) (P : Int64 → (Nat → Nat → Int32) → (Nat → Nat → Int64) → Option Nat → Prop) : Prop := ((x4 < (7 : Int32) → ix_inb (x4) 7 = true ∧ ix_inb (x1) 7 = true ∧ ix_inb (x1) 7 = true ∧ ix_inb (x4) 7 = true ∧ V5 (x1) ((x2) + ((J (ix_row 125 (x4)) (x1).toNatClampNeg) - (J (ix_row 125 (x1)) (x4).toNatClampNeg))) (x4 + (1 : Int32)) I J T) ∧ (¬ (x4 < (7 : Int32)) → P (x2) I J T))
def wl_X0_balanceOf_5 (x1 : Int32) (x2 : Int64) (x4 : Int32) (I : Nat → Nat → Int32) (J : Nat → Nat → Int64) (T : Option Nat) (P : Int64 → (Nat → Nat → Int32) → (Nat → Nat → Int64) → Option Nat → Prop) : Prop := ∀ V : Int32 → Int64 → Int32 → (Nat → Nat → Int32) → (Nat → Nat → Int64) → Option Nat → Prop, (∀ (x1 : Int32) (x2 : Int64) (x4 : Int32) (I : Nat → Nat → Int32) (J : Nat → Nat → Int64) (T : Option Nat), wb_X0_balanceOf_5 x1 x2 x4 I J T V P → V x1 x2 x4 I J T) → V x1 x2 x4 I J T
set_option maxRecDepth 20000 in
theorem tl_X0_balanceOf_5 {d : Nat} {x1 : Int32} {x2 : Int64} {x4 : Int32} {I : Nat → Nat → Int32} {J : Nat → Nat → Int64} {T : Option Nat} {P : Int64 → (Nat → Nat → Int32) → (Nat → Nat → Int64) → Option Nat → Prop} {Q : ix_Q} (h : wl_X0_balanceOf_5 x1 x2 x4 I J T P) (hQ : ∀ v I J T, P v I J T → Q (some (.inr (.inl v))) (ix_mem 276 I J T)) : ix_W (ix_C d) (0, ix_lk ix_l10, (some .long), 0, 0, Nat.blt 0 0, none) Q (5, [some (.inr (.inr (.inl (some (124))))), some (.inl (x1)), some (.inr (.inl (x2))), none, some (.inl (x4))], [], 0, 0, ix_mem 276 I J T) := by
  refine h (fun x1 x2 x4 I J T => ix_W (ix_C d) (0, ix_lk ix_l10, (some .long), 0, 0, Nat.blt 0 0, none) Q (5, [some (.inr (.inr (.inl (some (124))))), some (.inl (x1)), some (.inr (.inl (x2))), none, some (.inl (x4))], [], 0, 0, ix_mem 276 I J T)) ?_
  intro x1 x2 x4 I J T hb
  unfold wb_X0_balanceOf_5 at hb
  refine ix_go 3 (x' := (if x4 < (7 : Int32) then 12 else 40, [some (.inr (.inr (.inl (some (124))))), some (.inl (x1)), some (.inr (.inl (x2))), none, some (.inl (x4))], [], 0, 0, ix_mem 276 I J T)) rfl trivial ?_
  refine ix_br (fun c1 => ?_) (fun c1 => ?_)
  · have h2 := hb.1 c1
    obtain ⟨p3, h4⟩ := h2
    obtain ⟨p5, h6⟩ := h4
    obtain ⟨p7, h8⟩ := h6
    obtain ⟨p9, h10⟩ := h8
    refine ix_go 18 (x' := (5, [some (.inr (.inr (.inl (some (124))))), some (.inl (x1)), some (.inr (.inl ((x2) + ((J (ix_row 125 (x4)) (x1).toNatClampNeg) - (J (ix_row 125 (x1)) (x4).toNatClampNeg))))), none, some (.inl (x4 + (1 : Int32)))], [], 0, 0, ix_mem 276 I J T)) rfl ⟨rfl, rfl, rfl, rfl, rfl, p3, (rw_125 p3).1, (rw_125 p3).2.1, (rw_125 p3).2.2.1, (ix_inbL (rw_125 p3).2.2.2.1 p5), rfl, rfl, rfl, rfl, rfl, p7, (rw_125 p7).1, (rw_125 p7).2.1, (rw_125 p7).2.2.1, (ix_inbL (rw_125 p7).2.2.2.1 p9)⟩ ?_
    refine ix_subW ([some (.inr (.inr (.inl (some (124))))), some (.inl (x1)), some (.inr (.inl ((x2) + ((J (ix_row 125 (x4)) (x1).toNatClampNeg) - (J (ix_row 125 (x1)) (x4).toNatClampNeg))))), none, some (.inl (x4 + (1 : Int32)))]) (ix_subS (ix_subS (ix_subS (ix_subS (ix_subS (ix_sub0)))))) ?_
    exact h10
  · have h2 := hb.2 c1
    refine ix_go 1 (x' := (41, [some (.inr (.inr (.inl (some (124))))), some (.inl (x1)), some (.inr (.inl (x2))), none, some (.inl (x4))], [.inr (.inl (x2))], 0, 0, ix_mem 276 I J T)) rfl trivial ?_
    exact ix_sp rfl ⟨Nat.le_refl _, Nat.le_refl _, rfl, hQ _ _ _ _ h2⟩
def wp_X0_balanceOf (a0 : Int32) (I : Nat → Nat → Int32) (J : Nat → Nat → Int64) (T : Option Nat) (P : Int64 → (Nat → Nat → Int32) → (Nat → Nat → Int64) → Option Nat → Prop) : Prop := wl_X0_balanceOf_5 (a0) ((0 : Int64)) ((0 : Int32)) I J T P
set_option maxRecDepth 20000 in
theorem tp_X0_balanceOf {d : Nat} {a0 : Int32} {I : Nat → Nat → Int32} {J : Nat → Nat → Int64} {T : Option Nat} {P : Int64 → (Nat → Nat → Int32) → (Nat → Nat → Int64) → Option Nat → Prop} {Q : ix_Q} (h : wp_X0_balanceOf a0 I J T P) (hQ : ∀ v I J T, P v I J T → Q (some (.inr (.inl v))) (ix_mem 276 I J T)) : ix_C (d + 1) 10 [.inr (.inr (.inl (some (124)))), .inl (a0)] (ix_mem 276 I J T) Q := by
  unfold wp_X0_balanceOf at h
  refine ix_enter (ls := [some (.inr (.inr (.inl (some (124))))), some (.inl (a0)), none, none, none]) rfl rfl rfl (Nat.le_of_ble_eq_true rfl) ?_
  refine ix_go 4 (x' := (5, [some (.inr (.inr (.inl (some (124))))), some (.inl (a0)), some (.inr (.inl ((0 : Int64)))), none, some (.inl ((0 : Int32)))], [], 0, 0, ix_mem 276 I J T)) rfl trivial ?_
  refine ix_subW ([some (.inr (.inr (.inl (some (124))))), some (.inl (a0)), some (.inr (.inl ((0 : Int64)))), none, some (.inl ((0 : Int32)))]) (ix_subS (ix_subS (ix_subS (ix_subS (ix_subS (ix_sub0)))))) ?_
  exact tl_X0_balanceOf_5 h hQ
def wp_J9_min_f86c9 (a0 : Int64) (a1 : Int64) (I : Nat → Nat → Int32) (J : Nat → Nat → Int64) (T : Option Nat) (P : Int64 → (Nat → Nat → Int32) → (Nat → Nat → Int64) → Option Nat → Prop) : Prop := ((lg_cmp (a0) (a1) ≤ 0 → P (a0) I J T) ∧ (¬ (lg_cmp (a0) (a1) ≤ 0) → P (a1) I J T))
set_option maxRecDepth 20000 in
theorem tp_J9_min_f86c9 {d : Nat} {a0 : Int64} {a1 : Int64} {I : Nat → Nat → Int32} {J : Nat → Nat → Int64} {T : Option Nat} {P : Int64 → (Nat → Nat → Int32) → (Nat → Nat → Int64) → Option Nat → Prop} {Q : ix_Q} (h : wp_J9_min_f86c9 a0 a1 I J T P) (hQ : ∀ v I J T, P v I J T → Q (some (.inr (.inl v))) (ix_mem 276 I J T)) : ix_C (d + 1) 345 [.inr (.inl (a0)), .inr (.inl (a1))] (ix_mem 276 I J T) Q := by
  unfold wp_J9_min_f86c9 at h
  refine ix_enter (ls := [some (.inr (.inl (a0))), none, some (.inr (.inl (a1))), none]) rfl rfl rfl (Nat.le_of_ble_eq_true rfl) ?_
  refine ix_go 4 (x' := (if lg_cmp (a0) (a1) ≤ 0 then 6 else 10, [some (.inr (.inl (a0))), none, some (.inr (.inl (a1))), none], [], 0, 0, ix_mem 276 I J T)) rfl trivial ?_
  refine ix_br (fun c1 => ?_) (fun c1 => ?_)
  · have h2 := h.1 c1
    refine ix_go 2 (x' := (11, [some (.inr (.inl (a0))), none, some (.inr (.inl (a1))), none], [.inr (.inl (a0))], 0, 0, ix_mem 276 I J T)) rfl trivial ?_
    exact ix_sp rfl ⟨Nat.le_refl _, Nat.le_refl _, rfl, hQ _ _ _ _ h2⟩
  · have h2 := h.2 c1
    refine ix_go 1 (x' := (11, [some (.inr (.inl (a0))), none, some (.inr (.inl (a1))), none], [.inr (.inl (a1))], 0, 0, ix_mem 276 I J T)) rfl trivial ?_
    exact ix_sp rfl ⟨Nat.le_refl _, Nat.le_refl _, rfl, hQ _ _ _ _ h2⟩
def wb_X0_clearedPayment_35_2_27 (x1 : Int32) (x2 : Int32) (x3 : Int32) (x4 : Int32) (I : Nat → Nat → Int32) (J : Nat → Nat → Int64) (T : Option Nat) (V35 : Int32 → Int32 → Int32 → Int32 → (Nat → Nat → Int32) → (Nat → Nat → Int64) → Option Nat → Prop) (V2 : Int32 → Int32 → Int32 → (Nat → Nat → Int32) → (Nat → Nat → Int64) → Option Nat → Prop) (V27 : Int32 → Int32 → Int32 → (Nat → Nat → Int32) → (Nat → Nat → Int64) → Option Nat → Prop) (P : Int64 → (Nat → Nat → Int32) → (Nat → Nat → Int64) → Option Nat → Prop) : Prop := ((x4 < (7 : Int32) → ix_inb (x3) 7 = true ∧ ((lg_cmp (J 141 (x3).toNatClampNeg) ((0 : Int64)) < 0 → ix_inb (x3) 7 = true ∧ ix_inb (x4) 7 = true ∧ wp_J9_max_f86c9 ((0 : Int64)) (J 141 (x4).toNatClampNeg) I J T (fun v18 I18 J18 T18 => wp_J9_min_f86c9 (-(J 141 (x3).toNatClampNeg)) (v18) I18 J18 T18 (fun v19 I19 J19 T19 => ((x3 = x1 → ((x4 = x2 → P (v19) I19 J19 T19) ∧ (¬ (x4 = x2) → ix_inb (x3) 7 = true ∧ ix_inb (x3) 7 = true ∧ ix_inb (x4) 7 = true ∧ ix_inb (x4) 7 = true ∧ V35 (x1) (x2) (x3) (x4 + (1 : Int32)) I19 (ix_u2 (ix_u2 J19 141 (x3).toNatClampNeg ((J19 141 (x3).toNatClampNeg) + (v19))) 141 (x4).toNatClampNeg (((ix_u2 J19 141 (x3).toNatClampNeg ((J19 141 (x3).toNatClampNeg) + (v19))) 141 (x4).toNatClampNeg) - (v19))) T19))) ∧ (¬ (x3 = x1) → ix_inb (x3) 7 = true ∧ ix_inb (x3) 7 = true ∧ ix_inb (x4) 7 = true ∧ ix_inb (x4) 7 = true ∧ V35 (x1) (x2) (x3) (x4 + (1 : Int32)) I19 (ix_u2 (ix_u2 J19 141 (x3).toNatClampNeg ((J19 141 (x3).toNatClampNeg) + (v19))) 141 (x4).toNatClampNeg (((ix_u2 J19 141 (x3).toNatClampNeg ((J19 141 (x3).toNatClampNeg) + (v19))) 141 (x4).toNatClampNeg) - (v19))) T19))))) ∧ (¬ (lg_cmp (J 141 (x3).toNatClampNeg) ((0 : Int64)) < 0) → V27 (x1) (x2) (x3 + (1 : Int32)) I J T))) ∧ (¬ (x4 < (7 : Int32)) → V27 (x1) (x2) (x3 + (1 : Int32)) I J T))
def wl_X0_clearedPayment_35_2_27 (x1 : Int32) (x2 : Int32) (x3 : Int32) (x4 : Int32) (I : Nat → Nat → Int32) (J : Nat → Nat → Int64) (T : Option Nat) (V2 : Int32 → Int32 → Int32 → (Nat → Nat → Int32) → (Nat → Nat → Int64) → Option Nat → Prop) (V27 : Int32 → Int32 → Int32 → (Nat → Nat → Int32) → (Nat → Nat → Int64) → Option Nat → Prop) (P : Int64 → (Nat → Nat → Int32) → (Nat → Nat → Int64) → Option Nat → Prop) : Prop := ∀ V : Int32 → Int32 → Int32 → Int32 → (Nat → Nat → Int32) → (Nat → Nat → Int64) → Option Nat → Prop, (∀ (x1 : Int32) (x2 : Int32) (x3 : Int32) (x4 : Int32) (I : Nat → Nat → Int32) (J : Nat → Nat → Int64) (T : Option Nat), wb_X0_clearedPayment_35_2_27 x1 x2 x3 x4 I J T V V2 V27 P → V x1 x2 x3 x4 I J T) → V x1 x2 x3 x4 I J T
set_option maxRecDepth 20000 in
theorem tl_X0_clearedPayment_35_2_27 {d : Nat} {x1 : Int32} {x2 : Int32} {x3 : Int32} {x4 : Int32} {I : Nat → Nat → Int32} {J : Nat → Nat → Int64} {T : Option Nat} {V2 : Int32 → Int32 → Int32 → (Nat → Nat → Int32) → (Nat → Nat → Int64) → Option Nat → Prop} {V27 : Int32 → Int32 → Int32 → (Nat → Nat → Int32) → (Nat → Nat → Int64) → Option Nat → Prop} {P : Int64 → (Nat → Nat → Int32) → (Nat → Nat → Int64) → Option Nat → Prop} {Q : ix_Q} (h : wl_X0_clearedPayment_35_2_27 x1 x2 x3 x4 I J T V2 V27 P) (hV2 : ∀ (x1 : Int32) (x2 : Int32) (x3 : Int32) I J T, V2 x1 x2 x3 I J T → ix_W (ix_C (d + 1)) (0, ix_lk ix_l11, (some .long), 0, 0, Nat.blt 0 0, none) Q (2, [some (.inr (.inr (.inl (some (124))))), some (.inl (x1)), some (.inl (x2)), some (.inl (x3)), none, none, none], [], 0, 0, ix_mem 276 I J T)) (hV27 : ∀ (x1 : Int32) (x2 : Int32) (x3 : Int32) I J T, V27 x1 x2 x3 I J T → ix_W (ix_C (d + 1)) (0, ix_lk ix_l11, (some .long), 0, 0, Nat.blt 0 0, none) Q (27, [some (.inr (.inr (.inl (some (124))))), some (.inl (x1)), some (.inl (x2)), some (.inl (x3)), none, none, none], [], 0, 0, ix_mem 276 I J T)) (hQ : ∀ v I J T, P v I J T → Q (some (.inr (.inl v))) (ix_mem 276 I J T)) : ix_W (ix_C (d + 1)) (0, ix_lk ix_l11, (some .long), 0, 0, Nat.blt 0 0, none) Q (35, [some (.inr (.inr (.inl (some (124))))), some (.inl (x1)), some (.inl (x2)), some (.inl (x3)), some (.inl (x4)), none, none], [], 0, 0, ix_mem 276 I J T) := by
  refine h (fun x1 x2 x3 x4 I J T => ix_W (ix_C (d + 1)) (0, ix_lk ix_l11, (some .long), 0, 0, Nat.blt 0 0, none) Q (35, [some (.inr (.inr (.inl (some (124))))), some (.inl (x1)), some (.inl (x2)), some (.inl (x3)), some (.inl (x4)), none, none], [], 0, 0, ix_mem 276 I J T)) ?_
  intro x1 x2 x3 x4 I J T hb
  unfold wb_X0_clearedPayment_35_2_27 at hb
  refine ix_go 3 (x' := (if x4 < (7 : Int32) then 42 else 119, [some (.inr (.inr (.inl (some (124))))), some (.inl (x1)), some (.inl (x2)), some (.inl (x3)), some (.inl (x4)), none, none], [], 0, 0, ix_mem 276 I J T)) rfl trivial ?_
  refine ix_br (fun c8 => ?_) (fun c8 => ?_)
  · have h9 := hb.1 c8
    obtain ⟨p10, h11⟩ := h9
    refine ix_go 7 (x' := (if lg_cmp (J 141 (x3).toNatClampNeg) ((0 : Int64)) < 0 then 53 else 119, [some (.inr (.inr (.inl (some (124))))), some (.inl (x1)), some (.inl (x2)), some (.inl (x3)), some (.inl (x4)), none, none], [], 0, 0, ix_mem 276 I J T)) rfl ⟨rfl, rfl, rfl, rfl, p10⟩ ?_
    refine ix_br (fun c12 => ?_) (fun c12 => ?_)
    · have h13 := h11.1 c12
      obtain ⟨p14, h15⟩ := h13
      obtain ⟨p16, h17⟩ := h15
      refine ix_go 10 (x' := (68, [some (.inr (.inr (.inl (some (124))))), some (.inl (x1)), some (.inl (x2)), some (.inl (x3)), some (.inl (x4)), none, none], [.inr (.inl (J 141 (x4).toNatClampNeg)), .inr (.inl ((0 : Int64))), .inr (.inl (-(J 141 (x3).toNatClampNeg)))], 0, 0, ix_mem 276 I J T)) rfl ⟨rfl, rfl, rfl, rfl, p14, rfl, rfl, rfl, rfl, p16⟩ ?_
      refine ix_sp rfl ⟨rfl, trivial, ix_le rfl, Nat.le_refl _, Nat.le_refl _, tp_J9_max_f86c9 h17 (fun v18 I18 J18 T18 h18 => ?_)⟩
      change ix_W _ _ _ (71, [some (.inr (.inr (.inl (some (124))))), some (.inl (x1)), some (.inl (x2)), some (.inl (x3)), some (.inl (x4)), none, none], [.inr (.inl (v18)), .inr (.inl (-(J 141 (x3).toNatClampNeg)))], 0, 0, ix_mem 276 I18 J18 T18)
      refine ix_sp rfl ⟨rfl, trivial, ix_le rfl, Nat.le_refl _, Nat.le_refl _, tp_J9_min_f86c9 h18 (fun v19 I19 J19 T19 h19 => ?_)⟩
      change ix_W _ _ _ (74, [some (.inr (.inr (.inl (some (124))))), some (.inl (x1)), some (.inl (x2)), some (.inl (x3)), some (.inl (x4)), none, none], [.inr (.inl (v19))], 0, 0, ix_mem 276 I19 J19 T19)
      refine ix_go 4 (x' := (if x3 = x1 then 81 else 90, [some (.inr (.inr (.inl (some (124))))), some (.inl (x1)), some (.inl (x2)), some (.inl (x3)), some (.inl (x4)), some (.inr (.inl (v19))), none], [], 0, 0, ix_mem 276 I19 J19 T19)) rfl trivial ?_
      refine ix_br (fun c20 => ?_) (fun c20 => ?_)
      · have h21 := h19.1 c20
        refine ix_go 3 (x' := (if x4 = x2 then 87 else 90, [some (.inr (.inr (.inl (some (124))))), some (.inl (x1)), some (.inl (x2)), some (.inl (x3)), some (.inl (x4)), some (.inr (.inl (v19))), none], [], 0, 0, ix_mem 276 I19 J19 T19)) rfl trivial ?_
        refine ix_br (fun c22 => ?_) (fun c22 => ?_)
        · have h23 := h21.1 c22
          refine ix_go 1 (x' := (89, [some (.inr (.inr (.inl (some (124))))), some (.inl (x1)), some (.inl (x2)), some (.inl (x3)), some (.inl (x4)), some (.inr (.inl (v19))), none], [.inr (.inl (v19))], 0, 0, ix_mem 276 I19 J19 T19)) rfl trivial ?_
          exact ix_sp rfl ⟨Nat.le_refl _, Nat.le_refl _, rfl, hQ _ _ _ _ h23⟩
        · have h23 := h21.2 c22
          obtain ⟨p24, h25⟩ := h23
          obtain ⟨p26, h27⟩ := h25
          obtain ⟨p28, h29⟩ := h27
          obtain ⟨p30, h31⟩ := h29
          refine ix_go 18 (x' := (35, [some (.inr (.inr (.inl (some (124))))), some (.inl (x1)), some (.inl (x2)), some (.inl (x3)), some (.inl (x4 + (1 : Int32))), some (.inr (.inl (v19))), none], [], 0, 0, ix_mem 276 I19 (ix_u2 (ix_u2 J19 141 (x3).toNatClampNeg ((J19 141 (x3).toNatClampNeg) + (v19))) 141 (x4).toNatClampNeg (((ix_u2 J19 141 (x3).toNatClampNeg ((J19 141 (x3).toNatClampNeg) + (v19))) 141 (x4).toNatClampNeg) - (v19))) T19)) rfl ⟨rfl, rfl, rfl, rfl, p24, rfl, rfl, p26, rfl, rfl, rfl, rfl, p28, rfl, rfl, p30⟩ ?_
          refine ix_subW ([some (.inr (.inr (.inl (some (124))))), some (.inl (x1)), some (.inl (x2)), some (.inl (x3)), some (.inl (x4 + (1 : Int32))), none, none]) (ix_subS (ix_subS (ix_subS (ix_subS (ix_subS (ix_subN (ix_subS (ix_sub0)))))))) ?_
          exact h31
      · have h21 := h19.2 c20
        obtain ⟨p32, h33⟩ := h21
        obtain ⟨p34, h35⟩ := h33
        obtain ⟨p36, h37⟩ := h35
        obtain ⟨p38, h39⟩ := h37
        refine ix_go 18 (x' := (35, [some (.inr (.inr (.inl (some (124))))), some (.inl (x1)), some (.inl (x2)), some (.inl (x3)), some (.inl (x4 + (1 : Int32))), some (.inr (.inl (v19))), none], [], 0, 0, ix_mem 276 I19 (ix_u2 (ix_u2 J19 141 (x3).toNatClampNeg ((J19 141 (x3).toNatClampNeg) + (v19))) 141 (x4).toNatClampNeg (((ix_u2 J19 141 (x3).toNatClampNeg ((J19 141 (x3).toNatClampNeg) + (v19))) 141 (x4).toNatClampNeg) - (v19))) T19)) rfl ⟨rfl, rfl, rfl, rfl, p32, rfl, rfl, p34, rfl, rfl, rfl, rfl, p36, rfl, rfl, p38⟩ ?_
        refine ix_subW ([some (.inr (.inr (.inl (some (124))))), some (.inl (x1)), some (.inl (x2)), some (.inl (x3)), some (.inl (x4 + (1 : Int32))), none, none]) (ix_subS (ix_subS (ix_subS (ix_subS (ix_subS (ix_subN (ix_subS (ix_sub0)))))))) ?_
        exact h39
    · have h13 := h11.2 c12
      refine ix_go 2 (x' := (27, [some (.inr (.inr (.inl (some (124))))), some (.inl (x1)), some (.inl (x2)), some (.inl (x3 + (1 : Int32))), some (.inl (x4)), none, none], [], 0, 0, ix_mem 276 I J T)) rfl trivial ?_
      refine ix_subW ([some (.inr (.inr (.inl (some (124))))), some (.inl (x1)), some (.inl (x2)), some (.inl (x3 + (1 : Int32))), none, none, none]) (ix_subS (ix_subS (ix_subS (ix_subS (ix_subN (ix_subS (ix_subS (ix_sub0)))))))) ?_
      exact hV27 _ _ _ _ _ _ h13
  · have h9 := hb.2 c8
    refine ix_go 2 (x' := (27, [some (.inr (.inr (.inl (some (124))))), some (.inl (x1)), some (.inl (x2)), some (.inl (x3 + (1 : Int32))), some (.inl (x4)), none, none], [], 0, 0, ix_mem 276 I J T)) rfl trivial ?_
    refine ix_subW ([some (.inr (.inr (.inl (some (124))))), some (.inl (x1)), some (.inl (x2)), some (.inl (x3 + (1 : Int32))), none, none, none]) (ix_subS (ix_subS (ix_subS (ix_subS (ix_subN (ix_subS (ix_subS (ix_sub0)))))))) ?_
    exact hV27 _ _ _ _ _ _ h9
def wb_X0_clearedPayment_27_2 (x1 : Int32) (x2 : Int32) (x3 : Int32) (I : Nat → Nat → Int32) (J : Nat → Nat → Int64) (T : Option Nat) (V27 : Int32 → Int32 → Int32 → (Nat → Nat → Int32) → (Nat → Nat → Int64) → Option Nat → Prop) (V2 : Int32 → Int32 → Int32 → (Nat → Nat → Int32) → (Nat → Nat → Int64) → Option Nat → Prop) (P : Int64 → (Nat → Nat → Int32) → (Nat → Nat → Int64) → Option Nat → Prop) : Prop := ((x3 ≤ x1 → wl_X0_clearedPayment_35_2_27 (x1) (x2) (x3) ((0 : Int32)) I J T V2 V27 P) ∧ (¬ (x3 ≤ x1) → P ((0 : Int64)) I J T))
def wl_X0_clearedPayment_27_2 (x1 : Int32) (x2 : Int32) (x3 : Int32) (I : Nat → Nat → Int32) (J : Nat → Nat → Int64) (T : Option Nat) (V2 : Int32 → Int32 → Int32 → (Nat → Nat → Int32) → (Nat → Nat → Int64) → Option Nat → Prop) (P : Int64 → (Nat → Nat → Int32) → (Nat → Nat → Int64) → Option Nat → Prop) : Prop := ∀ V : Int32 → Int32 → Int32 → (Nat → Nat → Int32) → (Nat → Nat → Int64) → Option Nat → Prop, (∀ (x1 : Int32) (x2 : Int32) (x3 : Int32) (I : Nat → Nat → Int32) (J : Nat → Nat → Int64) (T : Option Nat), wb_X0_clearedPayment_27_2 x1 x2 x3 I J T V V2 P → V x1 x2 x3 I J T) → V x1 x2 x3 I J T
set_option maxRecDepth 20000 in
theorem tl_X0_clearedPayment_27_2 {d : Nat} {x1 : Int32} {x2 : Int32} {x3 : Int32} {I : Nat → Nat → Int32} {J : Nat → Nat → Int64} {T : Option Nat} {V2 : Int32 → Int32 → Int32 → (Nat → Nat → Int32) → (Nat → Nat → Int64) → Option Nat → Prop} {P : Int64 → (Nat → Nat → Int32) → (Nat → Nat → Int64) → Option Nat → Prop} {Q : ix_Q} (h : wl_X0_clearedPayment_27_2 x1 x2 x3 I J T V2 P) (hV2 : ∀ (x1 : Int32) (x2 : Int32) (x3 : Int32) I J T, V2 x1 x2 x3 I J T → ix_W (ix_C (d + 1)) (0, ix_lk ix_l11, (some .long), 0, 0, Nat.blt 0 0, none) Q (2, [some (.inr (.inr (.inl (some (124))))), some (.inl (x1)), some (.inl (x2)), some (.inl (x3)), none, none, none], [], 0, 0, ix_mem 276 I J T)) (hQ : ∀ v I J T, P v I J T → Q (some (.inr (.inl v))) (ix_mem 276 I J T)) : ix_W (ix_C (d + 1)) (0, ix_lk ix_l11, (some .long), 0, 0, Nat.blt 0 0, none) Q (27, [some (.inr (.inr (.inl (some (124))))), some (.inl (x1)), some (.inl (x2)), some (.inl (x3)), none, none, none], [], 0, 0, ix_mem 276 I J T) := by
  refine h (fun x1 x2 x3 I J T => ix_W (ix_C (d + 1)) (0, ix_lk ix_l11, (some .long), 0, 0, Nat.blt 0 0, none) Q (27, [some (.inr (.inr (.inl (some (124))))), some (.inl (x1)), some (.inl (x2)), some (.inl (x3)), none, none, none], [], 0, 0, ix_mem 276 I J T)) ?_
  intro x1 x2 x3 I J T hb
  unfold wb_X0_clearedPayment_27_2 at hb
  refine ix_go 3 (x' := (if x3 ≤ x1 then 32 else 125, [some (.inr (.inr (.inl (some (124))))), some (.inl (x1)), some (.inl (x2)), some (.inl (x3)), none, none, none], [], 0, 0, ix_mem 276 I J T)) rfl trivial ?_
  refine ix_br (fun c6 => ?_) (fun c6 => ?_)
  · have h7 := hb.1 c6
    refine ix_go 2 (x' := (35, [some (.inr (.inr (.inl (some (124))))), some (.inl (x1)), some (.inl (x2)), some (.inl (x3)), some (.inl ((0 : Int32))), none, none], [], 0, 0, ix_mem 276 I J T)) rfl trivial ?_
    refine ix_subW ([some (.inr (.inr (.inl (some (124))))), some (.inl (x1)), some (.inl (x2)), some (.inl (x3)), some (.inl ((0 : Int32))), none, none]) (ix_subS (ix_subS (ix_subS (ix_subS (ix_subS (ix_subS (ix_subS (ix_sub0)))))))) ?_
    exact tl_X0_clearedPayment_35_2_27 h7 hV2 (fun _ _ _ I J T hv => hv) hQ
  · have h7 := hb.2 c6
    refine ix_go 1 (x' := (126, [some (.inr (.inr (.inl (some (124))))), some (.inl (x1)), some (.inl (x2)), some (.inl (x3)), none, none, none], [.inr (.inl ((0 : Int64)))], 0, 0, ix_mem 276 I J T)) rfl trivial ?_
    exact ix_sp rfl ⟨Nat.le_refl _, Nat.le_refl _, rfl, hQ _ _ _ _ h7⟩
def wb_X0_clearedPayment_2 (x1 : Int32) (x2 : Int32) (x3 : Int32) (I : Nat → Nat → Int32) (J : Nat → Nat → Int64) (T : Option Nat) (V2 : Int32 → Int32 → Int32 → (Nat → Nat → Int32) → (Nat → Nat → Int64) → Option Nat → Prop) (P : Int64 → (Nat → Nat → Int32) → (Nat → Nat → Int64) → Option Nat → Prop) : Prop := ((x3 < (7 : Int32) → wp_X0_balanceOf (x3) I J T (fun v3 I3 J3 T3 => ix_inb (x3) 7 = true ∧ V2 (x1) (x2) (x3 + (1 : Int32)) I3 (ix_u2 J3 141 (x3).toNatClampNeg (v3)) T3)) ∧ (¬ (x3 < (7 : Int32)) → wl_X0_clearedPayment_27_2 (x1) (x2) ((0 : Int32)) I J T V2 P))
def wl_X0_clearedPayment_2 (x1 : Int32) (x2 : Int32) (x3 : Int32) (I : Nat → Nat → Int32) (J : Nat → Nat → Int64) (T : Option Nat) (P : Int64 → (Nat → Nat → Int32) → (Nat → Nat → Int64) → Option Nat → Prop) : Prop := ∀ V : Int32 → Int32 → Int32 → (Nat → Nat → Int32) → (Nat → Nat → Int64) → Option Nat → Prop, (∀ (x1 : Int32) (x2 : Int32) (x3 : Int32) (I : Nat → Nat → Int32) (J : Nat → Nat → Int64) (T : Option Nat), wb_X0_clearedPayment_2 x1 x2 x3 I J T V P → V x1 x2 x3 I J T) → V x1 x2 x3 I J T
set_option maxRecDepth 20000 in
theorem tl_X0_clearedPayment_2 {d : Nat} {x1 : Int32} {x2 : Int32} {x3 : Int32} {I : Nat → Nat → Int32} {J : Nat → Nat → Int64} {T : Option Nat} {P : Int64 → (Nat → Nat → Int32) → (Nat → Nat → Int64) → Option Nat → Prop} {Q : ix_Q} (h : wl_X0_clearedPayment_2 x1 x2 x3 I J T P) (hQ : ∀ v I J T, P v I J T → Q (some (.inr (.inl v))) (ix_mem 276 I J T)) : ix_W (ix_C (d + 1)) (0, ix_lk ix_l11, (some .long), 0, 0, Nat.blt 0 0, none) Q (2, [some (.inr (.inr (.inl (some (124))))), some (.inl (x1)), some (.inl (x2)), some (.inl (x3)), none, none, none], [], 0, 0, ix_mem 276 I J T) := by
  refine h (fun x1 x2 x3 I J T => ix_W (ix_C (d + 1)) (0, ix_lk ix_l11, (some .long), 0, 0, Nat.blt 0 0, none) Q (2, [some (.inr (.inr (.inl (some (124))))), some (.inl (x1)), some (.inl (x2)), some (.inl (x3)), none, none, none], [], 0, 0, ix_mem 276 I J T)) ?_
  intro x1 x2 x3 I J T hb
  unfold wb_X0_clearedPayment_2 at hb
  refine ix_go 3 (x' := (if x3 < (7 : Int32) then 8 else 25, [some (.inr (.inr (.inl (some (124))))), some (.inl (x1)), some (.inl (x2)), some (.inl (x3)), none, none, none], [], 0, 0, ix_mem 276 I J T)) rfl trivial ?_
  refine ix_br (fun c1 => ?_) (fun c1 => ?_)
  · have h2 := hb.1 c1
    refine ix_go 5 (x' := (15, [some (.inr (.inr (.inl (some (124))))), some (.inl (x1)), some (.inl (x2)), some (.inl (x3)), none, none, none], [.inl (x3), .inr (.inr (.inl (some (124)))), .inl (x3), .inr (.inr (.inl (some (141))))], 0, 0, ix_mem 276 I J T)) rfl ⟨rfl, rfl⟩ ?_
    refine ix_sp rfl ⟨rfl, ⟨ix_lt rfl, ix_eq rfl, ix_lt rfl⟩, ix_le rfl, Nat.le_refl _, Nat.le_refl _, tp_X0_balanceOf h2 (fun v3 I3 J3 T3 h3 => ?_)⟩
    change ix_W _ _ _ (18, [some (.inr (.inr (.inl (some (124))))), some (.inl (x1)), some (.inl (x2)), some (.inl (x3)), none, none, none], [.inr (.inl (v3)), .inl (x3), .inr (.inr (.inl (some (141))))], 0, 0, ix_mem 276 I3 J3 T3)
    obtain ⟨p4, h5⟩ := h3
    refine ix_go 3 (x' := (2, [some (.inr (.inr (.inl (some (124))))), some (.inl (x1)), some (.inl (x2)), some (.inl (x3 + (1 : Int32))), none, none, none], [], 0, 0, ix_mem 276 I3 (ix_u2 J3 141 (x3).toNatClampNeg (v3)) T3)) rfl ⟨rfl, rfl, p4⟩ ?_
    refine ix_subW ([some (.inr (.inr (.inl (some (124))))), some (.inl (x1)), some (.inl (x2)), some (.inl (x3 + (1 : Int32))), none, none, none]) (ix_subS (ix_subS (ix_subS (ix_subS (ix_subS (ix_subS (ix_subS (ix_sub0)))))))) ?_
    exact h5
  · have h2 := hb.2 c1
    refine ix_go 2 (x' := (27, [some (.inr (.inr (.inl (some (124))))), some (.inl (x1)), some (.inl (x2)), some (.inl ((0 : Int32))), none, none, none], [], 0, 0, ix_mem 276 I J T)) rfl trivial ?_
    refine ix_subW ([some (.inr (.inr (.inl (some (124))))), some (.inl (x1)), some (.inl (x2)), some (.inl ((0 : Int32))), none, none, none]) (ix_subS (ix_subS (ix_subS (ix_subS (ix_subS (ix_subS (ix_subS (ix_sub0)))))))) ?_
    exact tl_X0_clearedPayment_27_2 h2 (fun _ _ _ I J T hv => hv) hQ
def wp_X0_clearedPayment (a0 : Int32) (a1 : Int32) (I : Nat → Nat → Int32) (J : Nat → Nat → Int64) (T : Option Nat) (P : Int64 → (Nat → Nat → Int32) → (Nat → Nat → Int64) → Option Nat → Prop) : Prop := wl_X0_clearedPayment_2 (a0) (a1) ((0 : Int32)) I J T P
set_option maxRecDepth 20000 in
theorem tp_X0_clearedPayment {d : Nat} {a0 : Int32} {a1 : Int32} {I : Nat → Nat → Int32} {J : Nat → Nat → Int64} {T : Option Nat} {P : Int64 → (Nat → Nat → Int32) → (Nat → Nat → Int64) → Option Nat → Prop} {Q : ix_Q} (h : wp_X0_clearedPayment a0 a1 I J T P) (hQ : ∀ v I J T, P v I J T → Q (some (.inr (.inl v))) (ix_mem 276 I J T)) : ix_C (d + 2) 11 [.inr (.inr (.inl (some (124)))), .inl (a0), .inl (a1)] (ix_mem 276 I J T) Q := by
  unfold wp_X0_clearedPayment at h
  refine ix_enter (ls := [some (.inr (.inr (.inl (some (124))))), some (.inl (a0)), some (.inl (a1)), none, none, none, none]) rfl rfl rfl (Nat.le_of_ble_eq_true rfl) ?_
  refine ix_go 2 (x' := (2, [some (.inr (.inr (.inl (some (124))))), some (.inl (a0)), some (.inl (a1)), some (.inl ((0 : Int32))), none, none, none], [], 0, 0, ix_mem 276 I J T)) rfl trivial ?_
  refine ix_subW ([some (.inr (.inr (.inl (some (124))))), some (.inl (a0)), some (.inl (a1)), some (.inl ((0 : Int32))), none, none, none]) (ix_subS (ix_subS (ix_subS (ix_subS (ix_subS (ix_subS (ix_subS (ix_sub0)))))))) ?_
  exact tl_X0_clearedPayment_2 h hQ
