/-! the relation at the start -/
theorem i0_7 {a : Nat} (h : a < 7) : a = 0 ∨ a = 1 ∨ a = 2 ∨ a = 3 ∨ a = 4 ∨ a = 5 ∨ a = 6 := by omega
theorem i0_13 {a b : Nat} (h : a < 7) : bI ix_I1 13 7 a b = 0 := by
  rcases i0_7 h with r | r | r | r | r | r | r <;> subst r <;> rfl
theorem i0_21 {a b : Nat} (h : a < 7) : bI ix_I1 21 7 a b = 0 := by
  rcases i0_7 h with r | r | r | r | r | r | r <;> subst r <;> rfl
theorem i0_37 {a b : Nat} (h : a < 7) : bI ix_I1 37 7 a b = 0 := by
  rcases i0_7 h with r | r | r | r | r | r | r <;> subst r <;> rfl
theorem i0_126 {a b : Nat} (h : a < 7) : bJ ix_J1 126 7 a b = 0 := by
  rcases i0_7 h with r | r | r | r | r | r | r <;> subst r <;> rfl
def i0_m (a b : Nat) : Nat := if a = b then 0 else 1000000
theorem i0_29 {a b : Nat} (ha : a < 7) (hb : b < 7) : bI ix_I1 29 7 a b = nI (i0_m a b) := by
  rcases i0_7 ha with r | r | r | r | r | r | r <;> subst r <;> rcases i0_7 hb with r | r | r | r | r | r | r <;> subst r <;> rfl
theorem i0_S (v : Nat) : fwS v i0_m = i0_m := funext fun a => funext fun b => by
  unfold fwS i0_m
  by_cases c1 : a = b
  · rw [if_pos c1]; omega
  · rw [if_neg c1]
    by_cases c2 : a = v
    · rw [if_pos c2, if_neg (by omega)]; rfl
    · rw [if_neg c2]; omega
theorem i0_N : ∀ v, fwN v i0_m = i0_m
  | 0 => rfl
  | v + 1 => by rw [fwN, i0_N v, i0_S]
theorem i0_carr : RL_carr ix_I1 := fun a b ha hb => by
  rw [i0_29 ha hb, fw_v_ok (mn := i0_m) (fun a b ha hb => ?_) (fun a _ => if_pos rfl) (fun a b _ _ => ?_) 7 (by omega) a b ha hb, i0_N]
  · unfold fw_0 i0_m
    rw [i0_13 ha]
    by_cases c : a = b
    · rw [if_pos c, if_pos c]; rfl
    · rw [if_neg c, if_neg c, if_neg (by decide)]; rfl
  · unfold i0_m
    by_cases c : a = b
    · rw [if_pos c]; omega
    · rw [if_neg c]; omega
theorem i0_figs : ∀ k : Fin 12, ix_J1 193 k.val = lZ (13 ^ (11 - k.val)) := by decide +kernel
theorem rr_0 : RR ix_I1 ix_J1 := by
  refine ⟨rfl, ⟨rfl, rfl⟩, fun t ht => Or.inl ⟨rfl, rfl⟩, ⟨0, by omega, rfl, rfl⟩, ⟨0, by omega, rfl, rfl, fun k hk => absurd hk (by omega)⟩, fun a b ha hb => ⟨0, 0, by omega, by omega, i0_13 ha, i0_13 hb, rfl, i0_21 ha, i0_21 hb, fun z => absurd z (by omega)⟩, i0_carr, fun a b ha hb => ⟨0, by omega, i0_37 ha, rfl⟩, ⟨0, by omega, rfl, rfl, fun k hk => absurd hk (by omega)⟩, ⟨rfl, rfl⟩, ⟨0, by omega, rfl, rfl, fun k hk => absurd hk (by omega)⟩, ⟨0, by omega, rfl, rfl, fun k hk => absurd hk (by omega)⟩, ⟨0, by omega, rfl, rfl, fun k hk => absurd hk (by omega)⟩, ⟨0, by omega, rfl, rfl, fun k hk => absurd hk (by omega)⟩, ⟨rfl, Or.inl rfl, fun a b ha hb => ?_⟩, ⟨rfl, rfl, rfl, ⟨by decide, by decide⟩, ⟨by decide, by decide⟩, by decide, by decide⟩, ⟨0, by omega, rfl, rfl, fun k hk => absurd hk (by omega)⟩, ⟨0, by omega, rfl, rfl, fun _ => rfl, fun z => absurd z (by omega), fun k hk => absurd hk (by omega)⟩, fun s hs => ⟨0, by omega, rfl, rfl, fun k hk => absurd hk (by omega)⟩, fun k hk => i0_figs ⟨k, hk⟩, ⟨0, by omega, rfl, rfl, fun k hk => absurd hk (by omega)⟩, fun k hk => ⟨rfl, 1, by omega, rfl⟩, ⟨0, 0, 0, by omega, rfl, rfl, rfl, by omega, rfl, by omega, fun t ht => absurd ht (by omega)⟩⟩
  rw [i0_126 ha]
  exact ⟨rfl, by decide, by decide⟩
