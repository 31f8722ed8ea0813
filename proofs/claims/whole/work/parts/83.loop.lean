/-! the law's loop -/
theorem lw_case {L : Nat} {xs : Nat → Int32} {j : Nat} (hj : j < 57) {x3 : Int32} {I : Nat → Nat → Int32} {J : Nat → Nat → Int64} {T : Option Nat} {V : Int32 → (Nat → Nat → Int32) → (Nat → Nat → Int64) → Option Nat → Prop} (b1 : ix_inb (x3 + 1) L = true) (b2 : ix_inb (x3 + 2) L = true) (b3 : ix_inb (x3 + 3) L = true) (b4 : ix_inb (x3 + 4) L = true) (b5 : ix_inb (x3 + 5) L = true) (b6 : ix_inb (x3 + 6) L = true) (b7 : ix_inb (x3 + 7) L = true) (b8 : ix_inb (x3 + 8) L = true) (h : RR I J) (hV : ∀ I2 J2 T2, RR I2 J2 → V (x3 + 9) I2 J2 T2) : wc_all L xs x3 I J T V j :=
  match j, hj with
  | 0, _ => rc_0 (xs := xs) b1 b2 b3 b4 b5 b6 b7 b8 h hV
  | 1, _ => rc_1 (xs := xs) b1 b2 b3 b4 b5 b6 b7 b8 h hV
  | 2, _ => rc_2 (xs := xs) b1 b2 b3 b4 b5 b6 b7 b8 h hV
  | 3, _ => rc_3 (xs := xs) b1 b2 b3 b4 b5 b6 b7 b8 h hV
  | 4, _ => rc_4 (xs := xs) b1 b2 b3 b4 b5 b6 b7 b8 h hV
  | 5, _ => rc_5 (xs := xs) b1 b2 b3 b4 b5 b6 b7 b8 h hV
  | 6, _ => rc_6 (xs := xs) b1 b2 b3 b4 b5 b6 b7 b8 h hV
  | 7, _ => rc_7 (xs := xs) b1 b2 b3 b4 b5 b6 b7 b8 h hV
  | 8, _ => rc_8 (xs := xs) b1 b2 b3 b4 b5 b6 b7 b8 h hV
  | 9, _ => rc_9 (xs := xs) b1 b2 b3 b4 b5 b6 b7 b8 h hV
  | 10, _ => rc_10 (xs := xs) b1 b2 b3 b4 b5 b6 b7 b8 h hV
  | 11, _ => rc_11 (xs := xs) b1 b2 b3 b4 b5 b6 b7 b8 h hV
  | 12, _ => rc_12 (xs := xs) b1 b2 b3 b4 b5 b6 b7 b8 h hV
  | 13, _ => rc_13 (xs := xs) b1 b2 b3 b4 b5 b6 b7 b8 h hV
  | 14, _ => rc_14 (xs := xs) b1 b2 b3 b4 b5 b6 b7 b8 h hV
  | 15, _ => rc_15 (xs := xs) b1 b2 b3 b4 b5 b6 b7 b8 h hV
  | 16, _ => rc_16 (xs := xs) b1 b2 b3 b4 b5 b6 b7 b8 h hV
  | 17, _ => rc_17 (xs := xs) b1 b2 b3 b4 b5 b6 b7 b8 h hV
  | 18, _ => rc_18 (xs := xs) b1 b2 b3 b4 b5 b6 b7 b8 h hV
  | 19, _ => rc_19 (xs := xs) b1 b2 b3 b4 b5 b6 b7 b8 h hV
  | 20, _ => rc_20 (xs := xs) b1 b2 b3 b4 b5 b6 b7 b8 h hV
  | 21, _ => rc_21 (xs := xs) b1 b2 b3 b4 b5 b6 b7 b8 h hV
  | 22, _ => rc_22 (xs := xs) b1 b2 b3 b4 b5 b6 b7 b8 h hV
  | 23, _ => rc_23 (xs := xs) b1 b2 b3 b4 b5 b6 b7 b8 h hV
  | 24, _ => rc_24 (xs := xs) b1 b2 b3 b4 b5 b6 b7 b8 h hV
  | 25, _ => rc_25 (xs := xs) b1 b2 b3 b4 b5 b6 b7 b8 h hV
  | 26, _ => rc_26 (xs := xs) b1 b2 b3 b4 b5 b6 b7 b8 h hV
  | 27, _ => rc_27 (xs := xs) b1 b2 b3 b4 b5 b6 b7 b8 h hV
  | 28, _ => rc_28 (xs := xs) b1 b2 b3 b4 b5 b6 b7 b8 h hV
  | 29, _ => rc_29 (xs := xs) b1 b2 b3 b4 b5 b6 b7 b8 h hV
  | 30, _ => rc_30 (xs := xs) b1 b2 b3 b4 b5 b6 b7 b8 h hV
  | 31, _ => rc_31 (xs := xs) b1 b2 b3 b4 b5 b6 b7 b8 h hV
  | 32, _ => rc_32 (xs := xs) b1 b2 b3 b4 b5 b6 b7 b8 h hV
  | 33, _ => rc_33 (xs := xs) b1 b2 b3 b4 b5 b6 b7 b8 h hV
  | 34, _ => rc_34 (xs := xs) b1 b2 b3 b4 b5 b6 b7 b8 h hV
  | 35, _ => rc_35 (xs := xs) b1 b2 b3 b4 b5 b6 b7 b8 h hV
  | 36, _ => rc_36 (xs := xs) b1 b2 b3 b4 b5 b6 b7 b8 h hV
  | 37, _ => rc_37 (xs := xs) b1 b2 b3 b4 b5 b6 b7 b8 h hV
  | 38, _ => rc_38 (xs := xs) b1 b2 b3 b4 b5 b6 b7 b8 h hV
  | 39, _ => rc_39 (xs := xs) b1 b2 b3 b4 b5 b6 b7 b8 h hV
  | 40, _ => rc_40 (xs := xs) b1 b2 b3 b4 b5 b6 b7 b8 h hV
  | 41, _ => rc_41 (xs := xs) b1 b2 b3 b4 b5 b6 b7 b8 h hV
  | 42, _ => rc_42 (xs := xs) b1 b2 b3 b4 b5 b6 b7 b8 h hV
  | 43, _ => rc_43 (xs := xs) b1 b2 b3 b4 b5 b6 b7 b8 h hV
  | 44, _ => rc_44 (xs := xs) b1 b2 b3 b4 b5 b6 b7 b8 h hV
  | 45, _ => rc_45 (xs := xs) b1 b2 b3 b4 b5 b6 b7 b8 h hV
  | 46, _ => rc_46 (xs := xs) b1 b2 b3 b4 b5 b6 b7 b8 h hV
  | 47, _ => rc_47 (xs := xs) b1 b2 b3 b4 b5 b6 b7 b8 h hV
  | 48, _ => rc_48 (xs := xs) b1 b2 b3 b4 b5 b6 b7 b8 h hV
  | 49, _ => rc_49 (xs := xs) b1 b2 b3 b4 b5 b6 b7 b8 h hV
  | 50, _ => rc_50 (xs := xs) b1 b2 b3 b4 b5 b6 b7 b8 h hV
  | 51, _ => rc_51 (xs := xs) b1 b2 b3 b4 b5 b6 b7 b8 h hV
  | 52, _ => rc_52 (xs := xs) b1 b2 b3 b4 b5 b6 b7 b8 h hV
  | 53, _ => rc_53 (xs := xs) b1 b2 b3 b4 b5 b6 b7 b8 h hV
  | 54, _ => rc_54 (xs := xs) b1 b2 b3 b4 b5 b6 b7 b8 h hV
  | 55, _ => rc_55 (xs := xs) b1 b2 b3 b4 b5 b6 b7 b8 h hV
  | 56, _ => rc_56 (xs := xs) b1 b2 b3 b4 b5 b6 b7 b8 h hV
  | n + 57, hj => absurd hj (by omega)
theorem lw_le {i L : Nat} (hL : L ≤ 4608) (hi : 9 * i ≤ 9000) : nI (9 * i) ≤ Int32.ofNat L - 9 ↔ 9 * i + 9 ≤ L := by
  have e : Int32.ofNat L - 9 = iZ ((L : Int) - 9) := by
    rw [← iZ_sub]
    rfl
  rw [e, nI_iZ, iZ_le (by omega) (by omega)]
  omega
theorem lw_loop {L : Nat} {xs : Nat → Int32} {d : Nat} {Q : ix_Q} (hL : L ≤ 4608) (hQ : ∀ M, Q (some (.inl 1)) M) : ∀ m i : Nat, 9 * i ≤ 4608 + 9 → L < 9 * i + 9 * m → ∀ (I : Nat → Nat → Int32) (J : Nat → Nat → Int64) (T : Option Nat), RR I J → ix_W (ix_C (d + 11)) (ix_D0 L xs) Q (18, [some (.inr (.inr (.inr 0))), some (.inr (.inr (.inl (some (0))))), some (.inr (.inr (.inl (some (204))))), some (.inl (nI (9 * i)))], [], 32002, 3000124, ix_mem 276 I J T) := by
  intro m
  induction m with
  | zero =>
    intro i hi h1 I J T h
    refine tb_law (V := fun _ _ _ _ => False) (fun c => absurd ((lw_le hL (by omega)).mp c) (by omega)) hQ (fun _ _ _ _ z => z.elim)
  | succ m ih =>
    intro i hi h1 I J T h
    refine tb_law (V := fun x3 I J T => x3 = nI (9 * (i + 1)) ∧ RR I J ∧ 9 * i + 9 ≤ L) (fun c => ?_) hQ (fun x3 I J T z => ?_)
    · have c := (lw_le hL (by omega)).mp c
      have e9 : nI (9 * i) + 9 = nI (9 * (i + 1)) := by rw [show (9 : Int32) = nI 9 from rfl, nI_add, show 9 * i + 9 = 9 * (i + 1) by omega]
      have b : ∀ j : Nat, j ≤ 8 → ix_inb (nI (9 * i) + nI j) L = true := fun j hj => by rw [nI_add]; exact nI_in2 (by omega) (by omega)
      refine ⟨nI_in2 (by omega) (by omega), fun j hj _ => lw_case hj (b 1 (by omega)) (b 2 (by omega)) (b 3 (by omega)) (b 4 (by omega)) (b 5 (by omega)) (b 6 (by omega)) (b 7 (by omega)) (b 8 (by omega)) h (fun I2 J2 T2 r => ⟨e9, r, c⟩), fun _ => ⟨e9, h, c⟩⟩
    · obtain ⟨rfl, r, c⟩ := z
      exact ih (i + 1) (by omega) (by omega) I J T r
