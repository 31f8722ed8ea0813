/-- a method's ends -/
def ix_Ret (b : ix_B) (y : ix_Y) (cc : ByteArray) (rt : Option FieldType) (mc ms : Nat) (Q : ix_Q) : Prop := ∀ (pc k n : Nat) (L : List (Option ix_V)) (M : ix_M) (H : Heap) (ls : Array Slot) (locs : List Loc), ix_at y L M H ls locs → k ≤ mc → n ≤ ms →
  (∀ v : Int32, ix_rok rt v → Q (some (.inl v)) M → decode cc pc = .ok (.ireturn, 1) → ix_w b H locs k n (F0 (ix_mi b) pc ls [.int v])) ∧
  (∀ v : Int64, rt = some .long → Q (some (.inr (.inl v))) M → decode cc pc = .ok (.lreturn, 1) → ix_w b H locs k n (F0 (ix_mi b) pc ls [.long v])) ∧
  (∀ v : Option Nat, rt = some (.object RX9) → Q (some (.inr (.inr (.inl v)))) M → decode cc pc = .ok (.areturn, 1) → ix_w b H locs k n (F0 (ix_mi b) pc ls [va_rf (v.map (fun k => y.2.2.1 + k))])) ∧
  (rt = none → Q none M → decode cc pc = .ok (.return_, 1) → ix_w b H locs k n (F0 (ix_mi b) pc ls []))
section SOUND
variable {b : ix_B} {y : ix_Y} {cc : ByteArray} {own mc ms : Nat} {ini : Bool} {sc : Option (Nat × (Nat → Int32))}
set_option maxHeartbeats 4000000 in
theorem ix_Phi_ok {d : Nat} {fi : Nat → Option (Instr × Nat)} {rt : Option FieldType} {Q : ix_Q} (F : ix_F b y cc own ini sc) (hR : mc ≤ (ix_Rm b).cells ∧ ms ≤ (ix_Rm b).slots) (hfr : d + 2 ≤ (ix_Rm b).frames ∧ 64 * d + 128 ≤ (ix_Rm b).locals) (hmt : ∀ {i : Nat} {q : ix_Mt}, ix_mt i = some q → ix_mok q) (hS : ix_Snd b.2.1 y.1 y.2.1 y.2.2.1 y.2.2.2.1 d)
    (hfi : ∀ {pc : Nat} {v : Instr × Nat}, fi pc = some v → decode cc pc = .ok v ∧ ix_ilen v.1 v.2 = true) (hret : ix_Ret b y cc rt mc ms Q) : ∀ x : ix_X, ix_Phi (ix_C d) (own, fi, rt, mc, ms, ini, sc) Q (ix_Pm b y) x → ix_Pm b y x := by
  intro x h
  have hx := F.1
  have hb := F.2.1
  obtain ⟨pc, L, st, k, n, M⟩ := x
  unfold ix_Phi at h
  dsimp only at h
  cases hf : fi pc with
  | none => rw [hf] at h; exact h.elim
  | some v =>
    rw [hf] at h
    obtain ⟨i, len⟩ := v
    obtain ⟨hd, hl⟩ := hfi hf
    dsimp only at h hd hl
    have gen : ∀ i : Instr, (match ix_step own mc ms ini sc i (pc, L, st, k, n, M) with
      | some (cs, x') => ix_all cs ∧ ix_Pm b y x'
      | none => False) → decode cc pc = .ok (i, len) → ix_ilen i len = true → ix_Pm b y (pc, L, st, k, n, M) := by
      intro i h hd hl
      cases hs : ix_step own mc ms ini sc i (pc, L, st, k, n, M) with
      | none => rw [hs] at h; exact h.elim
      | some q =>
        rw [hs] at h
        obtain ⟨cs, x'⟩ := q
        exact ix_step_ok F hR hs h.1 hl hd h.2
    cases i
    case invokevirtual idx =>
      obtain rfl : len = 3 := Nat.eq_of_beq_eq_true hl
      exact ix_call_ok (ik := 0) F hR hfr hmt hS h hd
    case invokestatic idx =>
      obtain rfl : len = 3 := Nat.eq_of_beq_eq_true hl
      exact ix_call_ok (ik := 1) F hR hfr hmt hS h hd
    case invokespecial idx =>
      obtain rfl : len = 3 := Nat.eq_of_beq_eq_true hl
      exact ix_call_ok (ik := 2) F hR hfr hmt hS h hd
    case ireturn =>
      obtain rfl : len = 1 := Nat.eq_of_beq_eq_true hl
      rcases st with - | ⟨v | v, - | ⟨w, r⟩⟩ <;> try exact h.elim
      obtain ⟨h1, h2, h3, h4⟩ := h
      exact fun H ls locs hat => (hret pc k n L M H ls locs hat h1 h2).1 v h3 h4 hd
    case lreturn =>
      obtain rfl : len = 1 := Nat.eq_of_beq_eq_true hl
      rcases st with - | ⟨v | v | v, - | ⟨w, r⟩⟩ <;> try exact h.elim
      obtain ⟨h1, h2, h3, h4⟩ := h
      exact fun H ls locs hat => (hret pc k n L M H ls locs hat h1 h2).2.1 v h3 h4 hd
    case areturn =>
      obtain rfl : len = 1 := Nat.eq_of_beq_eq_true hl
      rcases st with - | ⟨v | v | v | v, - | ⟨w, r⟩⟩ <;> try exact h.elim
      obtain ⟨h1, h2, h3, h4⟩ := h
      exact fun H ls locs hat => (hret pc k n L M H ls locs hat h1 h2).2.2.1 v h3 h4 hd
    case return_ =>
      obtain rfl : len = 1 := Nat.eq_of_beq_eq_true hl
      rcases st with - | ⟨v, r⟩ <;> try exact h.elim
      obtain ⟨h1, h2, h3, h4⟩ := h
      exact fun H ls locs hat => (hret pc k n L M H ls locs hat h1 h2).2.2.2 h3 h4 hd
    case tableswitch dflt lo hi offs =>
      rcases st with - | ⟨v | v, r⟩ <;> try exact h.elim
      obtain ⟨t, ht, hk⟩ := h
      rcases ht with ⟨h1, h2⟩ | ⟨h1, off, h2, h3⟩
      · exact ix_go1 (fun H ls locs _ hw => lv_tableOut hx hb hd h1 h2 hw) hk
      · exact ix_go1 (fun H ls locs _ hw => lv_tableIn hx hb hd (fun q => h1 (Or.inl q)) (fun q => h1 (Or.inr q)) h2 h3 hw) hk
    case lookupswitch dflt ps =>
      rcases st with - | ⟨v | v, r⟩ <;> try exact h.elim
      obtain ⟨t, h1, h2, hk⟩ := h
      exact ix_go1 (fun H ls locs _ hw => lv_lookup hx hb hd h1 rfl h2 hw) hk
    all_goals exact gen _ h hd hl
end SOUND
