theorem u2_e {α : Type} {f : Nat → Nat → α} {k j a b : Nat} {v : α} : ix_u2 f k j v a b = if a = k then (if b = j then v else f a b) else f a b := rfl
def fr_ri (D : List fr_R) (k : Nat) : Bool := D.any (fun d => Nat.ble d.1 k && (Nat.blt k d.2.1 && (Nat.beq d.2.2.1 0 && Nat.beq d.2.2.2 2147483648)))
theorem fr_ri_ok {D : List fr_R} {k j : Nat} (h : fr_ri D k = true) (hj : j < 2147483648) : fr_in D k j = true := by
  unfold fr_ri at h
  unfold fr_in
  rw [List.any_eq_true] at h ⊢
  obtain ⟨d, hd, h⟩ := h
  refine ⟨d, hd, fr_1_iff.mpr ?_⟩
  simp only [Bool.and_eq_true, Nat.ble_eq, Nat.blt_eq, Nat.beq_eq] at h
  omega
theorem clamp_lt (x : Int32) : x.toNatClampNeg < 2147483648 := by
  have := Int32.toInt_lt x
  show x.toInt.toNat < 2147483648
  omega
theorem fr_putc {α : Type} {D : List fr_R} {f g : Nat → Nat → α} {k : Nat} {x : Int32} {v : α} (hk : fr_ri D k = true) (h : fr_off D f g) : fr_off D f (ix_u2 g k x.toNatClampNeg v) := fr_put (fr_ri_ok hk (clamp_lt x)) h
theorem fr_putn {α : Type} {D : List fr_R} {f g : Nat → Nat → α} {k j : Nat} {v : α} (hk : fr_ri D k = true) (hj : j < 2147483648) (h : fr_off D f g) : fr_off D f (ix_u2 g k j v) := fr_put (fr_ri_ok hk hj) h
/-- an index that is not below 0 and inside -/
theorem ii_at {x : Int32} {n : Nat} (h0 : 0 ≤ x.toInt) (h1 : x.toInt < n) (hn : n < 2147483648) : ∃ i : Nat, i < n ∧ x = nI i := by
  refine ⟨x.toInt.toNat, by omega, ?_⟩
  apply Int32.toInt_inj.mp
  rw [nI_toInt (by omega)]
  omega
theorem nI_in2 {i n : Nat} (h : i < n) (hn : n < 2147483648) : ix_inb (nI i) n = true := ix_inb_of (vp_in_nI h hn)
