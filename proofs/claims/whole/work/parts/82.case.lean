/-! the law's cases, of the calls that are proved alike -/
theorem lg_self (v : Int64) : lg_cmp v v = 0 := (lgc_eq v v).mpr rfl
theorem rc_0 {L : Nat} {xs : Nat → Int32} {x3 : Int32} {I : Nat → Nat → Int32} {J : Nat → Nat → Int64} {T : Option Nat} {V : Int32 → (Nat → Nat → Int32) → (Nat → Nat → Int64) → Option Nat → Prop} (b1 : ix_inb (x3 + 1) L = true) (b2 : ix_inb (x3 + 2) L = true) (b3 : ix_inb (x3 + 3) L = true) (b4 : ix_inb (x3 + 4) L = true) (b5 : ix_inb (x3 + 5) L = true) (b6 : ix_inb (x3 + 6) L = true) (b7 : ix_inb (x3 + 7) L = true) (b8 : ix_inb (x3 + 8) L = true) (h : RR I J) (hV : ∀ I2 J2 T2, RR I2 J2 → V (x3 + 9) I2 J2 T2) : wc_0 L xs x3 I J T V := by
  unfold wc_0
  try simp only [b1, b2, b3, b4, b5, b6, b7, b8, true_and]
  exact rp_status h (fun v I2 J2 T2 r => ⟨fun _ => hV _ _ _ r, fun z => absurd rfl z⟩)
theorem rc_1 {L : Nat} {xs : Nat → Int32} {x3 : Int32} {I : Nat → Nat → Int32} {J : Nat → Nat → Int64} {T : Option Nat} {V : Int32 → (Nat → Nat → Int32) → (Nat → Nat → Int64) → Option Nat → Prop} (b1 : ix_inb (x3 + 1) L = true) (b2 : ix_inb (x3 + 2) L = true) (b3 : ix_inb (x3 + 3) L = true) (b4 : ix_inb (x3 + 4) L = true) (b5 : ix_inb (x3 + 5) L = true) (b6 : ix_inb (x3 + 6) L = true) (b7 : ix_inb (x3 + 7) L = true) (b8 : ix_inb (x3 + 8) L = true) (h : RR I J) (hV : ∀ I2 J2 T2, RR I2 J2 → V (x3 + 9) I2 J2 T2) : wc_1 L xs x3 I J T V := by
  unfold wc_1
  try simp only [b1, b2, b3, b4, b5, b6, b7, b8, true_and]
  exact rp_top h (fun v I2 J2 T2 r => ⟨fun _ => hV _ _ _ r, fun z => absurd (lg_self _) z⟩)
theorem rc_2 {L : Nat} {xs : Nat → Int32} {x3 : Int32} {I : Nat → Nat → Int32} {J : Nat → Nat → Int64} {T : Option Nat} {V : Int32 → (Nat → Nat → Int32) → (Nat → Nat → Int64) → Option Nat → Prop} (b1 : ix_inb (x3 + 1) L = true) (b2 : ix_inb (x3 + 2) L = true) (b3 : ix_inb (x3 + 3) L = true) (b4 : ix_inb (x3 + 4) L = true) (b5 : ix_inb (x3 + 5) L = true) (b6 : ix_inb (x3 + 6) L = true) (b7 : ix_inb (x3 + 7) L = true) (b8 : ix_inb (x3 + 8) L = true) (h : RR I J) (hV : ∀ I2 J2 T2, RR I2 J2 → V (x3 + 9) I2 J2 T2) : wc_2 L xs x3 I J T V := by
  unfold wc_2
  try simp only [b1, b2, b3, b4, b5, b6, b7, b8, true_and]
  exact rp_bottom h (fun v I2 J2 T2 r => ⟨fun _ => hV _ _ _ r, fun z => absurd (lg_self _) z⟩)
theorem rc_3 {L : Nat} {xs : Nat → Int32} {x3 : Int32} {I : Nat → Nat → Int32} {J : Nat → Nat → Int64} {T : Option Nat} {V : Int32 → (Nat → Nat → Int32) → (Nat → Nat → Int64) → Option Nat → Prop} (b1 : ix_inb (x3 + 1) L = true) (b2 : ix_inb (x3 + 2) L = true) (b3 : ix_inb (x3 + 3) L = true) (b4 : ix_inb (x3 + 4) L = true) (b5 : ix_inb (x3 + 5) L = true) (b6 : ix_inb (x3 + 6) L = true) (b7 : ix_inb (x3 + 7) L = true) (b8 : ix_inb (x3 + 8) L = true) (h : RR I J) (hV : ∀ I2 J2 T2, RR I2 J2 → V (x3 + 9) I2 J2 T2) : wc_3 L xs x3 I J T V := by
  unfold wc_3
  try simp only [b1, b2, b3, b4, b5, b6, b7, b8, true_and]
  exact rp_tray _ _ _ h (fun v I2 J2 T2 r => ⟨fun _ => hV _ _ _ r, fun z => absurd rfl z⟩)
theorem rc_4 {L : Nat} {xs : Nat → Int32} {x3 : Int32} {I : Nat → Nat → Int32} {J : Nat → Nat → Int64} {T : Option Nat} {V : Int32 → (Nat → Nat → Int32) → (Nat → Nat → Int64) → Option Nat → Prop} (b1 : ix_inb (x3 + 1) L = true) (b2 : ix_inb (x3 + 2) L = true) (b3 : ix_inb (x3 + 3) L = true) (b4 : ix_inb (x3 + 4) L = true) (b5 : ix_inb (x3 + 5) L = true) (b6 : ix_inb (x3 + 6) L = true) (b7 : ix_inb (x3 + 7) L = true) (b8 : ix_inb (x3 + 8) L = true) (h : RR I J) (hV : ∀ I2 J2 T2, RR I2 J2 → V (x3 + 9) I2 J2 T2) : wc_4 L xs x3 I J T V := by
  unfold wc_4
  try simp only [b1, b2, b3, b4, b5, b6, b7, b8, true_and]
  exact rp_write _ _ _ h (fun v I2 J2 T2 r => ⟨fun _ => hV _ _ _ r, fun z => absurd rfl z⟩)
theorem rc_5 {L : Nat} {xs : Nat → Int32} {x3 : Int32} {I : Nat → Nat → Int32} {J : Nat → Nat → Int64} {T : Option Nat} {V : Int32 → (Nat → Nat → Int32) → (Nat → Nat → Int64) → Option Nat → Prop} (b1 : ix_inb (x3 + 1) L = true) (b2 : ix_inb (x3 + 2) L = true) (b3 : ix_inb (x3 + 3) L = true) (b4 : ix_inb (x3 + 4) L = true) (b5 : ix_inb (x3 + 5) L = true) (b6 : ix_inb (x3 + 6) L = true) (b7 : ix_inb (x3 + 7) L = true) (b8 : ix_inb (x3 + 8) L = true) (h : RR I J) (hV : ∀ I2 J2 T2, RR I2 J2 → V (x3 + 9) I2 J2 T2) : wc_5 L xs x3 I J T V := by
  unfold wc_5
  try simp only [b1, b2, b3, b4, b5, b6, b7, b8, true_and]
  exact rp_fill _ _ _ _ _ h (fun v I2 J2 T2 r => ⟨fun _ => hV _ _ _ r, fun z => absurd rfl z⟩)
theorem rc_6 {L : Nat} {xs : Nat → Int32} {x3 : Int32} {I : Nat → Nat → Int32} {J : Nat → Nat → Int64} {T : Option Nat} {V : Int32 → (Nat → Nat → Int32) → (Nat → Nat → Int64) → Option Nat → Prop} (b1 : ix_inb (x3 + 1) L = true) (b2 : ix_inb (x3 + 2) L = true) (b3 : ix_inb (x3 + 3) L = true) (b4 : ix_inb (x3 + 4) L = true) (b5 : ix_inb (x3 + 5) L = true) (b6 : ix_inb (x3 + 6) L = true) (b7 : ix_inb (x3 + 7) L = true) (b8 : ix_inb (x3 + 8) L = true) (h : RR I J) (hV : ∀ I2 J2 T2, RR I2 J2 → V (x3 + 9) I2 J2 T2) : wc_6 L xs x3 I J T V := by
  unfold wc_6
  try simp only [b1, b2, b3, b4, b5, b6, b7, b8, true_and]
  exact rp_read _ _ h (fun v I2 J2 T2 r => ⟨fun _ => hV _ _ _ r, fun z => absurd (lg_self _) z⟩)
theorem rc_7 {L : Nat} {xs : Nat → Int32} {x3 : Int32} {I : Nat → Nat → Int32} {J : Nat → Nat → Int64} {T : Option Nat} {V : Int32 → (Nat → Nat → Int32) → (Nat → Nat → Int64) → Option Nat → Prop} (b1 : ix_inb (x3 + 1) L = true) (b2 : ix_inb (x3 + 2) L = true) (b3 : ix_inb (x3 + 3) L = true) (b4 : ix_inb (x3 + 4) L = true) (b5 : ix_inb (x3 + 5) L = true) (b6 : ix_inb (x3 + 6) L = true) (b7 : ix_inb (x3 + 7) L = true) (b8 : ix_inb (x3 + 8) L = true) (h : RR I J) (hV : ∀ I2 J2 T2, RR I2 J2 → V (x3 + 9) I2 J2 T2) : wc_7 L xs x3 I J T V := by
  unfold wc_7
  try simp only [b1, b2, b3, b4, b5, b6, b7, b8, true_and]
  exact rp_pour _ _ _ _ _ h (fun v I2 J2 T2 r => ⟨fun _ => hV _ _ _ r, fun z => absurd rfl z⟩)
theorem rc_8 {L : Nat} {xs : Nat → Int32} {x3 : Int32} {I : Nat → Nat → Int32} {J : Nat → Nat → Int64} {T : Option Nat} {V : Int32 → (Nat → Nat → Int32) → (Nat → Nat → Int64) → Option Nat → Prop} (b1 : ix_inb (x3 + 1) L = true) (b2 : ix_inb (x3 + 2) L = true) (b3 : ix_inb (x3 + 3) L = true) (b4 : ix_inb (x3 + 4) L = true) (b5 : ix_inb (x3 + 5) L = true) (b6 : ix_inb (x3 + 6) L = true) (b7 : ix_inb (x3 + 7) L = true) (b8 : ix_inb (x3 + 8) L = true) (h : RR I J) (hV : ∀ I2 J2 T2, RR I2 J2 → V (x3 + 9) I2 J2 T2) : wc_8 L xs x3 I J T V := by
  unfold wc_8
  try simp only [b1, b2, b3, b4, b5, b6, b7, b8, true_and]
  exact rp_land h (fun v I2 J2 T2 r => ⟨fun _ => hV _ _ _ r, fun z => absurd rfl z⟩)
theorem rc_9 {L : Nat} {xs : Nat → Int32} {x3 : Int32} {I : Nat → Nat → Int32} {J : Nat → Nat → Int64} {T : Option Nat} {V : Int32 → (Nat → Nat → Int32) → (Nat → Nat → Int64) → Option Nat → Prop} (b1 : ix_inb (x3 + 1) L = true) (b2 : ix_inb (x3 + 2) L = true) (b3 : ix_inb (x3 + 3) L = true) (b4 : ix_inb (x3 + 4) L = true) (b5 : ix_inb (x3 + 5) L = true) (b6 : ix_inb (x3 + 6) L = true) (b7 : ix_inb (x3 + 7) L = true) (b8 : ix_inb (x3 + 8) L = true) (h : RR I J) (hV : ∀ I2 J2 T2, RR I2 J2 → V (x3 + 9) I2 J2 T2) : wc_9 L xs x3 I J T V := by
  unfold wc_9
  try simp only [b1, b2, b3, b4, b5, b6, b7, b8, true_and]
  exact rp_gold _ _ _ h (fun v I2 J2 T2 r => ⟨fun _ => hV _ _ _ r, fun z => absurd rfl z⟩)
theorem rc_10 {L : Nat} {xs : Nat → Int32} {x3 : Int32} {I : Nat → Nat → Int32} {J : Nat → Nat → Int64} {T : Option Nat} {V : Int32 → (Nat → Nat → Int32) → (Nat → Nat → Int64) → Option Nat → Prop} (b1 : ix_inb (x3 + 1) L = true) (b2 : ix_inb (x3 + 2) L = true) (b3 : ix_inb (x3 + 3) L = true) (b4 : ix_inb (x3 + 4) L = true) (b5 : ix_inb (x3 + 5) L = true) (b6 : ix_inb (x3 + 6) L = true) (b7 : ix_inb (x3 + 7) L = true) (b8 : ix_inb (x3 + 8) L = true) (h : RR I J) (hV : ∀ I2 J2 T2, RR I2 J2 → V (x3 + 9) I2 J2 T2) : wc_10 L xs x3 I J T V := by
  unfold wc_10
  try simp only [b1, b2, b3, b4, b5, b6, b7, b8, true_and]
  exact rp_coins _ _ _ h (fun v I2 J2 T2 r => ⟨fun _ => hV _ _ _ r, fun z => absurd (lg_self _) z⟩)
theorem rc_11 {L : Nat} {xs : Nat → Int32} {x3 : Int32} {I : Nat → Nat → Int32} {J : Nat → Nat → Int64} {T : Option Nat} {V : Int32 → (Nat → Nat → Int32) → (Nat → Nat → Int64) → Option Nat → Prop} (b1 : ix_inb (x3 + 1) L = true) (b2 : ix_inb (x3 + 2) L = true) (b3 : ix_inb (x3 + 3) L = true) (b4 : ix_inb (x3 + 4) L = true) (b5 : ix_inb (x3 + 5) L = true) (b6 : ix_inb (x3 + 6) L = true) (b7 : ix_inb (x3 + 7) L = true) (b8 : ix_inb (x3 + 8) L = true) (h : RR I J) (hV : ∀ I2 J2 T2, RR I2 J2 → V (x3 + 9) I2 J2 T2) : wc_11 L xs x3 I J T V := by
  unfold wc_11
  try simp only [b1, b2, b3, b4, b5, b6, b7, b8, true_and]
  exact rp_road _ _ _ _ h (fun v I2 J2 T2 r => ⟨fun _ => hV _ _ _ r, fun z => absurd rfl z⟩)
theorem rc_12 {L : Nat} {xs : Nat → Int32} {x3 : Int32} {I : Nat → Nat → Int32} {J : Nat → Nat → Int64} {T : Option Nat} {V : Int32 → (Nat → Nat → Int32) → (Nat → Nat → Int64) → Option Nat → Prop} (b1 : ix_inb (x3 + 1) L = true) (b2 : ix_inb (x3 + 2) L = true) (b3 : ix_inb (x3 + 3) L = true) (b4 : ix_inb (x3 + 4) L = true) (b5 : ix_inb (x3 + 5) L = true) (b6 : ix_inb (x3 + 6) L = true) (b7 : ix_inb (x3 + 7) L = true) (b8 : ix_inb (x3 + 8) L = true) (h : RR I J) (hV : ∀ I2 J2 T2, RR I2 J2 → V (x3 + 9) I2 J2 T2) : wc_12 L xs x3 I J T V := by
  unfold wc_12
  try simp only [b1, b2, b3, b4, b5, b6, b7, b8, true_and]
  exact rp_feed _ _ _ _ _ h (fun v I2 J2 T2 r => ⟨fun _ => hV _ _ _ r, fun z => absurd rfl z⟩)
theorem rc_13 {L : Nat} {xs : Nat → Int32} {x3 : Int32} {I : Nat → Nat → Int32} {J : Nat → Nat → Int64} {T : Option Nat} {V : Int32 → (Nat → Nat → Int32) → (Nat → Nat → Int64) → Option Nat → Prop} (b1 : ix_inb (x3 + 1) L = true) (b2 : ix_inb (x3 + 2) L = true) (b3 : ix_inb (x3 + 3) L = true) (b4 : ix_inb (x3 + 4) L = true) (b5 : ix_inb (x3 + 5) L = true) (b6 : ix_inb (x3 + 6) L = true) (b7 : ix_inb (x3 + 7) L = true) (b8 : ix_inb (x3 + 8) L = true) (h : RR I J) (hV : ∀ I2 J2 T2, RR I2 J2 → V (x3 + 9) I2 J2 T2) : wc_13 L xs x3 I J T V := by
  unfold wc_13
  try simp only [b1, b2, b3, b4, b5, b6, b7, b8, true_and]
  exact rp_treaty _ _ h (fun v I2 J2 T2 r => ⟨fun _ => hV _ _ _ r, fun z => absurd rfl z⟩)
theorem rc_14 {L : Nat} {xs : Nat → Int32} {x3 : Int32} {I : Nat → Nat → Int32} {J : Nat → Nat → Int64} {T : Option Nat} {V : Int32 → (Nat → Nat → Int32) → (Nat → Nat → Int64) → Option Nat → Prop} (b1 : ix_inb (x3 + 1) L = true) (b2 : ix_inb (x3 + 2) L = true) (b3 : ix_inb (x3 + 3) L = true) (b4 : ix_inb (x3 + 4) L = true) (b5 : ix_inb (x3 + 5) L = true) (b6 : ix_inb (x3 + 6) L = true) (b7 : ix_inb (x3 + 7) L = true) (b8 : ix_inb (x3 + 8) L = true) (h : RR I J) (hV : ∀ I2 J2 T2, RR I2 J2 → V (x3 + 9) I2 J2 T2) : wc_14 L xs x3 I J T V := by
  unfold wc_14
  try simp only [b1, b2, b3, b4, b5, b6, b7, b8, true_and]
  exact rp_fault _ h (fun v I2 J2 T2 r => ⟨fun _ => hV _ _ _ r, fun z => absurd rfl z⟩)
theorem rc_15 {L : Nat} {xs : Nat → Int32} {x3 : Int32} {I : Nat → Nat → Int32} {J : Nat → Nat → Int64} {T : Option Nat} {V : Int32 → (Nat → Nat → Int32) → (Nat → Nat → Int64) → Option Nat → Prop} (b1 : ix_inb (x3 + 1) L = true) (b2 : ix_inb (x3 + 2) L = true) (b3 : ix_inb (x3 + 3) L = true) (b4 : ix_inb (x3 + 4) L = true) (b5 : ix_inb (x3 + 5) L = true) (b6 : ix_inb (x3 + 6) L = true) (b7 : ix_inb (x3 + 7) L = true) (b8 : ix_inb (x3 + 8) L = true) (h : RR I J) (hV : ∀ I2 J2 T2, RR I2 J2 → V (x3 + 9) I2 J2 T2) : wc_15 L xs x3 I J T V := by
  unfold wc_15
  try simp only [b1, b2, b3, b4, b5, b6, b7, b8, true_and]
  exact rp_clauses _ h (fun v I2 J2 T2 r => ⟨fun _ => hV _ _ _ r, fun z => absurd rfl z⟩)
theorem rc_16 {L : Nat} {xs : Nat → Int32} {x3 : Int32} {I : Nat → Nat → Int32} {J : Nat → Nat → Int64} {T : Option Nat} {V : Int32 → (Nat → Nat → Int32) → (Nat → Nat → Int64) → Option Nat → Prop} (b1 : ix_inb (x3 + 1) L = true) (b2 : ix_inb (x3 + 2) L = true) (b3 : ix_inb (x3 + 3) L = true) (b4 : ix_inb (x3 + 4) L = true) (b5 : ix_inb (x3 + 5) L = true) (b6 : ix_inb (x3 + 6) L = true) (b7 : ix_inb (x3 + 7) L = true) (b8 : ix_inb (x3 + 8) L = true) (h : RR I J) (hV : ∀ I2 J2 T2, RR I2 J2 → V (x3 + 9) I2 J2 T2) : wc_16 L xs x3 I J T V := by
  unfold wc_16
  try simp only [b1, b2, b3, b4, b5, b6, b7, b8, true_and]
  exact rp_inForce _ h (fun v I2 J2 T2 r => ⟨fun _ => hV _ _ _ r, fun z => absurd rfl z⟩)
theorem rc_17 {L : Nat} {xs : Nat → Int32} {x3 : Int32} {I : Nat → Nat → Int32} {J : Nat → Nat → Int64} {T : Option Nat} {V : Int32 → (Nat → Nat → Int32) → (Nat → Nat → Int64) → Option Nat → Prop} (b1 : ix_inb (x3 + 1) L = true) (b2 : ix_inb (x3 + 2) L = true) (b3 : ix_inb (x3 + 3) L = true) (b4 : ix_inb (x3 + 4) L = true) (b5 : ix_inb (x3 + 5) L = true) (b6 : ix_inb (x3 + 6) L = true) (b7 : ix_inb (x3 + 7) L = true) (b8 : ix_inb (x3 + 8) L = true) (h : RR I J) (hV : ∀ I2 J2 T2, RR I2 J2 → V (x3 + 9) I2 J2 T2) : wc_17 L xs x3 I J T V := by
  unfold wc_17
  try simp only [b1, b2, b3, b4, b5, b6, b7, b8, true_and]
  exact rp_reserve _ _ _ _ _ (by split <;> simp) h (fun v I2 J2 T2 r => ⟨fun _ => hV _ _ _ r, fun z => absurd rfl z⟩)
theorem rc_18 {L : Nat} {xs : Nat → Int32} {x3 : Int32} {I : Nat → Nat → Int32} {J : Nat → Nat → Int64} {T : Option Nat} {V : Int32 → (Nat → Nat → Int32) → (Nat → Nat → Int64) → Option Nat → Prop} (b1 : ix_inb (x3 + 1) L = true) (b2 : ix_inb (x3 + 2) L = true) (b3 : ix_inb (x3 + 3) L = true) (b4 : ix_inb (x3 + 4) L = true) (b5 : ix_inb (x3 + 5) L = true) (b6 : ix_inb (x3 + 6) L = true) (b7 : ix_inb (x3 + 7) L = true) (b8 : ix_inb (x3 + 8) L = true) (h : RR I J) (hV : ∀ I2 J2 T2, RR I2 J2 → V (x3 + 9) I2 J2 T2) : wc_18 L xs x3 I J T V := by
  unfold wc_18
  try simp only [b1, b2, b3, b4, b5, b6, b7, b8, true_and]
  exact rp_isOut _ _ _ _ h (fun v I2 J2 T2 r => ⟨fun _ => hV _ _ _ r, fun z => absurd rfl z⟩)
theorem rc_19 {L : Nat} {xs : Nat → Int32} {x3 : Int32} {I : Nat → Nat → Int32} {J : Nat → Nat → Int64} {T : Option Nat} {V : Int32 → (Nat → Nat → Int32) → (Nat → Nat → Int64) → Option Nat → Prop} (b1 : ix_inb (x3 + 1) L = true) (b2 : ix_inb (x3 + 2) L = true) (b3 : ix_inb (x3 + 3) L = true) (b4 : ix_inb (x3 + 4) L = true) (b5 : ix_inb (x3 + 5) L = true) (b6 : ix_inb (x3 + 6) L = true) (b7 : ix_inb (x3 + 7) L = true) (b8 : ix_inb (x3 + 8) L = true) (h : RR I J) (hV : ∀ I2 J2 T2, RR I2 J2 → V (x3 + 9) I2 J2 T2) : wc_19 L xs x3 I J T V := by
  unfold wc_19
  try simp only [b1, b2, b3, b4, b5, b6, b7, b8, true_and]
  exact rp_due _ _ _ _ _ _ _ h (fun v I2 J2 T2 r => ⟨fun _ => hV _ _ _ r, fun z => absurd (lg_self _) z⟩)
theorem rc_20 {L : Nat} {xs : Nat → Int32} {x3 : Int32} {I : Nat → Nat → Int32} {J : Nat → Nat → Int64} {T : Option Nat} {V : Int32 → (Nat → Nat → Int32) → (Nat → Nat → Int64) → Option Nat → Prop} (b1 : ix_inb (x3 + 1) L = true) (b2 : ix_inb (x3 + 2) L = true) (b3 : ix_inb (x3 + 3) L = true) (b4 : ix_inb (x3 + 4) L = true) (b5 : ix_inb (x3 + 5) L = true) (b6 : ix_inb (x3 + 6) L = true) (b7 : ix_inb (x3 + 7) L = true) (b8 : ix_inb (x3 + 8) L = true) (h : RR I J) (hV : ∀ I2 J2 T2, RR I2 J2 → V (x3 + 9) I2 J2 T2) : wc_20 L xs x3 I J T V := by
  unfold wc_20
  try simp only [b1, b2, b3, b4, b5, b6, b7, b8, true_and]
  exact rp_dueBy _ _ _ _ _ _ _ h (fun v I2 J2 T2 r => ⟨fun _ => hV _ _ _ r, fun z => absurd rfl z⟩)
theorem rc_21 {L : Nat} {xs : Nat → Int32} {x3 : Int32} {I : Nat → Nat → Int32} {J : Nat → Nat → Int64} {T : Option Nat} {V : Int32 → (Nat → Nat → Int32) → (Nat → Nat → Int64) → Option Nat → Prop} (b1 : ix_inb (x3 + 1) L = true) (b2 : ix_inb (x3 + 2) L = true) (b3 : ix_inb (x3 + 3) L = true) (b4 : ix_inb (x3 + 4) L = true) (b5 : ix_inb (x3 + 5) L = true) (b6 : ix_inb (x3 + 6) L = true) (b7 : ix_inb (x3 + 7) L = true) (b8 : ix_inb (x3 + 8) L = true) (h : RR I J) (hV : ∀ I2 J2 T2, RR I2 J2 → V (x3 + 9) I2 J2 T2) : wc_21 L xs x3 I J T V := by
  unfold wc_21
  try simp only [b1, b2, b3, b4, b5, b6, b7, b8, true_and]
  exact rp_third _ _ _ _ _ _ _ _ h (fun v I2 J2 T2 r => ⟨fun _ => hV _ _ _ r, fun z => absurd (lg_self _) z⟩)
theorem rc_22 {L : Nat} {xs : Nat → Int32} {x3 : Int32} {I : Nat → Nat → Int32} {J : Nat → Nat → Int64} {T : Option Nat} {V : Int32 → (Nat → Nat → Int32) → (Nat → Nat → Int64) → Option Nat → Prop} (b1 : ix_inb (x3 + 1) L = true) (b2 : ix_inb (x3 + 2) L = true) (b3 : ix_inb (x3 + 3) L = true) (b4 : ix_inb (x3 + 4) L = true) (b5 : ix_inb (x3 + 5) L = true) (b6 : ix_inb (x3 + 6) L = true) (b7 : ix_inb (x3 + 7) L = true) (b8 : ix_inb (x3 + 8) L = true) (h : RR I J) (hV : ∀ I2 J2 T2, RR I2 J2 → V (x3 + 9) I2 J2 T2) : wc_22 L xs x3 I J T V := by
  unfold wc_22
  try simp only [b1, b2, b3, b4, b5, b6, b7, b8, true_and]
  exact rp_price _ _ _ _ _ _ h (fun v I2 J2 T2 r => ⟨fun _ => hV _ _ _ r, fun z => absurd (lg_self _) z⟩)
theorem rc_23 {L : Nat} {xs : Nat → Int32} {x3 : Int32} {I : Nat → Nat → Int32} {J : Nat → Nat → Int64} {T : Option Nat} {V : Int32 → (Nat → Nat → Int32) → (Nat → Nat → Int64) → Option Nat → Prop} (b1 : ix_inb (x3 + 1) L = true) (b2 : ix_inb (x3 + 2) L = true) (b3 : ix_inb (x3 + 3) L = true) (b4 : ix_inb (x3 + 4) L = true) (b5 : ix_inb (x3 + 5) L = true) (b6 : ix_inb (x3 + 6) L = true) (b7 : ix_inb (x3 + 7) L = true) (b8 : ix_inb (x3 + 8) L = true) (h : RR I J) (hV : ∀ I2 J2 T2, RR I2 J2 → V (x3 + 9) I2 J2 T2) : wc_23 L xs x3 I J T V := by
  unfold wc_23
  try simp only [b1, b2, b3, b4, b5, b6, b7, b8, true_and]
  exact rp_way _ _ _ _ _ _ _ h (fun v I2 J2 T2 r => ⟨fun _ => hV _ _ _ r, fun z => absurd rfl z⟩)
theorem rc_24 {L : Nat} {xs : Nat → Int32} {x3 : Int32} {I : Nat → Nat → Int32} {J : Nat → Nat → Int64} {T : Option Nat} {V : Int32 → (Nat → Nat → Int32) → (Nat → Nat → Int64) → Option Nat → Prop} (b1 : ix_inb (x3 + 1) L = true) (b2 : ix_inb (x3 + 2) L = true) (b3 : ix_inb (x3 + 3) L = true) (b4 : ix_inb (x3 + 4) L = true) (b5 : ix_inb (x3 + 5) L = true) (b6 : ix_inb (x3 + 6) L = true) (b7 : ix_inb (x3 + 7) L = true) (b8 : ix_inb (x3 + 8) L = true) (h : RR I J) (hV : ∀ I2 J2 T2, RR I2 J2 → V (x3 + 9) I2 J2 T2) : wc_24 L xs x3 I J T V := by
  unfold wc_24
  try simp only [b1, b2, b3, b4, b5, b6, b7, b8, true_and]
  exact rp_carried _ _ h (fun v I2 J2 T2 r => ⟨fun _ => hV _ _ _ r, fun z => absurd rfl z⟩)
theorem rc_25 {L : Nat} {xs : Nat → Int32} {x3 : Int32} {I : Nat → Nat → Int32} {J : Nat → Nat → Int64} {T : Option Nat} {V : Int32 → (Nat → Nat → Int32) → (Nat → Nat → Int64) → Option Nat → Prop} (b1 : ix_inb (x3 + 1) L = true) (b2 : ix_inb (x3 + 2) L = true) (b3 : ix_inb (x3 + 3) L = true) (b4 : ix_inb (x3 + 4) L = true) (b5 : ix_inb (x3 + 5) L = true) (b6 : ix_inb (x3 + 6) L = true) (b7 : ix_inb (x3 + 7) L = true) (b8 : ix_inb (x3 + 8) L = true) (h : RR I J) (hV : ∀ I2 J2 T2, RR I2 J2 → V (x3 + 9) I2 J2 T2) : wc_25 L xs x3 I J T V := by
  unfold wc_25
  try simp only [b1, b2, b3, b4, b5, b6, b7, b8, true_and]
  exact rp_remailed _ _ _ _ _ _ h (fun v I2 J2 T2 r => ⟨fun _ => hV _ _ _ r, fun z => absurd (lg_self _) z⟩)
theorem rc_26 {L : Nat} {xs : Nat → Int32} {x3 : Int32} {I : Nat → Nat → Int32} {J : Nat → Nat → Int64} {T : Option Nat} {V : Int32 → (Nat → Nat → Int32) → (Nat → Nat → Int64) → Option Nat → Prop} (b1 : ix_inb (x3 + 1) L = true) (b2 : ix_inb (x3 + 2) L = true) (b3 : ix_inb (x3 + 3) L = true) (b4 : ix_inb (x3 + 4) L = true) (b5 : ix_inb (x3 + 5) L = true) (b6 : ix_inb (x3 + 6) L = true) (b7 : ix_inb (x3 + 7) L = true) (b8 : ix_inb (x3 + 8) L = true) (h : RR I J) (hV : ∀ I2 J2 T2, RR I2 J2 → V (x3 + 9) I2 J2 T2) : wc_26 L xs x3 I J T V := by
  unfold wc_26
  try simp only [b1, b2, b3, b4, b5, b6, b7, b8, true_and]
  exact rp_remailer _ _ _ _ _ _ h (fun v I2 J2 T2 r => ⟨fun _ => hV _ _ _ r, fun z => absurd rfl z⟩)
theorem rc_27 {L : Nat} {xs : Nat → Int32} {x3 : Int32} {I : Nat → Nat → Int32} {J : Nat → Nat → Int64} {T : Option Nat} {V : Int32 → (Nat → Nat → Int32) → (Nat → Nat → Int64) → Option Nat → Prop} (b1 : ix_inb (x3 + 1) L = true) (b2 : ix_inb (x3 + 2) L = true) (b3 : ix_inb (x3 + 3) L = true) (b4 : ix_inb (x3 + 4) L = true) (b5 : ix_inb (x3 + 5) L = true) (b6 : ix_inb (x3 + 6) L = true) (b7 : ix_inb (x3 + 7) L = true) (b8 : ix_inb (x3 + 8) L = true) (h : RR I J) (hV : ∀ I2 J2 T2, RR I2 J2 → V (x3 + 9) I2 J2 T2) : wc_27 L xs x3 I J T V := by
  unfold wc_27
  try simp only [b1, b2, b3, b4, b5, b6, b7, b8, true_and]
  exact rp_gain _ _ _ _ _ _ h (fun v I2 J2 T2 r => ⟨fun _ => hV _ _ _ r, fun z => absurd (lg_self _) z⟩)
theorem rc_28 {L : Nat} {xs : Nat → Int32} {x3 : Int32} {I : Nat → Nat → Int32} {J : Nat → Nat → Int64} {T : Option Nat} {V : Int32 → (Nat → Nat → Int32) → (Nat → Nat → Int64) → Option Nat → Prop} (b1 : ix_inb (x3 + 1) L = true) (b2 : ix_inb (x3 + 2) L = true) (b3 : ix_inb (x3 + 3) L = true) (b4 : ix_inb (x3 + 4) L = true) (b5 : ix_inb (x3 + 5) L = true) (b6 : ix_inb (x3 + 6) L = true) (b7 : ix_inb (x3 + 7) L = true) (b8 : ix_inb (x3 + 8) L = true) (h : RR I J) (hV : ∀ I2 J2 T2, RR I2 J2 → V (x3 + 9) I2 J2 T2) : wc_28 L xs x3 I J T V := by
  unfold wc_28
  try simp only [b1, b2, b3, b4, b5, b6, b7, b8, true_and]
  exact rp_rate _ _ _ h (fun v I2 J2 T2 r => ⟨fun _ => hV _ _ _ r, fun z => absurd rfl z⟩)
theorem rc_29 {L : Nat} {xs : Nat → Int32} {x3 : Int32} {I : Nat → Nat → Int32} {J : Nat → Nat → Int64} {T : Option Nat} {V : Int32 → (Nat → Nat → Int32) → (Nat → Nat → Int64) → Option Nat → Prop} (b1 : ix_inb (x3 + 1) L = true) (b2 : ix_inb (x3 + 2) L = true) (b3 : ix_inb (x3 + 3) L = true) (b4 : ix_inb (x3 + 4) L = true) (b5 : ix_inb (x3 + 5) L = true) (b6 : ix_inb (x3 + 6) L = true) (b7 : ix_inb (x3 + 7) L = true) (b8 : ix_inb (x3 + 8) L = true) (h : RR I J) (hV : ∀ I2 J2 T2, RR I2 J2 → V (x3 + 9) I2 J2 T2) : wc_29 L xs x3 I J T V := by
  unfold wc_29
  try simp only [b1, b2, b3, b4, b5, b6, b7, b8, true_and]
  exact rp_even _ _ h (fun v I2 J2 T2 r => ⟨fun _ => hV _ _ _ r, fun z => absurd rfl z⟩)
theorem rc_30 {L : Nat} {xs : Nat → Int32} {x3 : Int32} {I : Nat → Nat → Int32} {J : Nat → Nat → Int64} {T : Option Nat} {V : Int32 → (Nat → Nat → Int32) → (Nat → Nat → Int64) → Option Nat → Prop} (b1 : ix_inb (x3 + 1) L = true) (b2 : ix_inb (x3 + 2) L = true) (b3 : ix_inb (x3 + 3) L = true) (b4 : ix_inb (x3 + 4) L = true) (b5 : ix_inb (x3 + 5) L = true) (b6 : ix_inb (x3 + 6) L = true) (b7 : ix_inb (x3 + 7) L = true) (b8 : ix_inb (x3 + 8) L = true) (h : RR I J) (hV : ∀ I2 J2 T2, RR I2 J2 → V (x3 + 9) I2 J2 T2) : wc_30 L xs x3 I J T V := by
  unfold wc_30
  try simp only [b1, b2, b3, b4, b5, b6, b7, b8, true_and]
  exact rp_uneven h (fun v I2 J2 T2 r => ⟨fun _ => hV _ _ _ r, fun z => absurd rfl z⟩)
theorem rc_31 {L : Nat} {xs : Nat → Int32} {x3 : Int32} {I : Nat → Nat → Int32} {J : Nat → Nat → Int64} {T : Option Nat} {V : Int32 → (Nat → Nat → Int32) → (Nat → Nat → Int64) → Option Nat → Prop} (b1 : ix_inb (x3 + 1) L = true) (b2 : ix_inb (x3 + 2) L = true) (b3 : ix_inb (x3 + 3) L = true) (b4 : ix_inb (x3 + 4) L = true) (b5 : ix_inb (x3 + 5) L = true) (b6 : ix_inb (x3 + 6) L = true) (b7 : ix_inb (x3 + 7) L = true) (b8 : ix_inb (x3 + 8) L = true) (h : RR I J) (hV : ∀ I2 J2 T2, RR I2 J2 → V (x3 + 9) I2 J2 T2) : wc_31 L xs x3 I J T V := by
  unfold wc_31
  try simp only [b1, b2, b3, b4, b5, b6, b7, b8, true_and]
  exact rp_flow _ _ _ _ _ h (fun v I2 J2 T2 r => ⟨fun _ => hV _ _ _ r, fun z => absurd rfl z⟩)
theorem rc_32 {L : Nat} {xs : Nat → Int32} {x3 : Int32} {I : Nat → Nat → Int32} {J : Nat → Nat → Int64} {T : Option Nat} {V : Int32 → (Nat → Nat → Int32) → (Nat → Nat → Int64) → Option Nat → Prop} (b1 : ix_inb (x3 + 1) L = true) (b2 : ix_inb (x3 + 2) L = true) (b3 : ix_inb (x3 + 3) L = true) (b4 : ix_inb (x3 + 4) L = true) (b5 : ix_inb (x3 + 5) L = true) (b6 : ix_inb (x3 + 6) L = true) (b7 : ix_inb (x3 + 7) L = true) (b8 : ix_inb (x3 + 8) L = true) (h : RR I J) (hV : ∀ I2 J2 T2, RR I2 J2 → V (x3 + 9) I2 J2 T2) : wc_32 L xs x3 I J T V := by
  unfold wc_32
  try simp only [b1, b2, b3, b4, b5, b6, b7, b8, true_and]
  exact rp_isTrue _ h (fun v I2 J2 T2 r => ⟨fun _ => hV _ _ _ r, fun z => absurd rfl z⟩)
theorem rc_33 {L : Nat} {xs : Nat → Int32} {x3 : Int32} {I : Nat → Nat → Int32} {J : Nat → Nat → Int64} {T : Option Nat} {V : Int32 → (Nat → Nat → Int32) → (Nat → Nat → Int64) → Option Nat → Prop} (b1 : ix_inb (x3 + 1) L = true) (b2 : ix_inb (x3 + 2) L = true) (b3 : ix_inb (x3 + 3) L = true) (b4 : ix_inb (x3 + 4) L = true) (b5 : ix_inb (x3 + 5) L = true) (b6 : ix_inb (x3 + 6) L = true) (b7 : ix_inb (x3 + 7) L = true) (b8 : ix_inb (x3 + 8) L = true) (h : RR I J) (hV : ∀ I2 J2 T2, RR I2 J2 → V (x3 + 9) I2 J2 T2) : wc_33 L xs x3 I J T V := by
  unfold wc_33
  try simp only [b1, b2, b3, b4, b5, b6, b7, b8, true_and]
  exact rp_draw _ _ h (fun v I2 J2 T2 r => ⟨fun _ => hV _ _ _ r, fun z => absurd rfl z⟩)
theorem rc_34 {L : Nat} {xs : Nat → Int32} {x3 : Int32} {I : Nat → Nat → Int32} {J : Nat → Nat → Int64} {T : Option Nat} {V : Int32 → (Nat → Nat → Int32) → (Nat → Nat → Int64) → Option Nat → Prop} (b1 : ix_inb (x3 + 1) L = true) (b2 : ix_inb (x3 + 2) L = true) (b3 : ix_inb (x3 + 3) L = true) (b4 : ix_inb (x3 + 4) L = true) (b5 : ix_inb (x3 + 5) L = true) (b6 : ix_inb (x3 + 6) L = true) (b7 : ix_inb (x3 + 7) L = true) (b8 : ix_inb (x3 + 8) L = true) (h : RR I J) (hV : ∀ I2 J2 T2, RR I2 J2 → V (x3 + 9) I2 J2 T2) : wc_34 L xs x3 I J T V := by
  unfold wc_34
  try simp only [b1, b2, b3, b4, b5, b6, b7, b8, true_and]
  exact rp_drawn _ h (fun v I2 J2 T2 r => ⟨fun _ => hV _ _ _ r, fun z => absurd rfl z⟩)
theorem rc_35 {L : Nat} {xs : Nat → Int32} {x3 : Int32} {I : Nat → Nat → Int32} {J : Nat → Nat → Int64} {T : Option Nat} {V : Int32 → (Nat → Nat → Int32) → (Nat → Nat → Int64) → Option Nat → Prop} (b1 : ix_inb (x3 + 1) L = true) (b2 : ix_inb (x3 + 2) L = true) (b3 : ix_inb (x3 + 3) L = true) (b4 : ix_inb (x3 + 4) L = true) (b5 : ix_inb (x3 + 5) L = true) (b6 : ix_inb (x3 + 6) L = true) (b7 : ix_inb (x3 + 7) L = true) (b8 : ix_inb (x3 + 8) L = true) (h : RR I J) (hV : ∀ I2 J2 T2, RR I2 J2 → V (x3 + 9) I2 J2 T2) : wc_35 L xs x3 I J T V := by
  unfold wc_35
  try simp only [b1, b2, b3, b4, b5, b6, b7, b8, true_and]
  exact rp_told _ h (fun v I2 J2 T2 r => ⟨fun _ => hV _ _ _ r, fun z => absurd rfl z⟩)
theorem rc_36 {L : Nat} {xs : Nat → Int32} {x3 : Int32} {I : Nat → Nat → Int32} {J : Nat → Nat → Int64} {T : Option Nat} {V : Int32 → (Nat → Nat → Int32) → (Nat → Nat → Int64) → Option Nat → Prop} (b1 : ix_inb (x3 + 1) L = true) (b2 : ix_inb (x3 + 2) L = true) (b3 : ix_inb (x3 + 3) L = true) (b4 : ix_inb (x3 + 4) L = true) (b5 : ix_inb (x3 + 5) L = true) (b6 : ix_inb (x3 + 6) L = true) (b7 : ix_inb (x3 + 7) L = true) (b8 : ix_inb (x3 + 8) L = true) (h : RR I J) (hV : ∀ I2 J2 T2, RR I2 J2 → V (x3 + 9) I2 J2 T2) : wc_36 L xs x3 I J T V := by
  unfold wc_36
  try simp only [b1, b2, b3, b4, b5, b6, b7, b8, true_and]
  exact rp_telling _ h (fun v I2 J2 T2 r => ⟨fun _ => hV _ _ _ r, fun z => absurd rfl z⟩)
theorem rc_37 {L : Nat} {xs : Nat → Int32} {x3 : Int32} {I : Nat → Nat → Int32} {J : Nat → Nat → Int64} {T : Option Nat} {V : Int32 → (Nat → Nat → Int32) → (Nat → Nat → Int64) → Option Nat → Prop} (b1 : ix_inb (x3 + 1) L = true) (b2 : ix_inb (x3 + 2) L = true) (b3 : ix_inb (x3 + 3) L = true) (b4 : ix_inb (x3 + 4) L = true) (b5 : ix_inb (x3 + 5) L = true) (b6 : ix_inb (x3 + 6) L = true) (b7 : ix_inb (x3 + 7) L = true) (b8 : ix_inb (x3 + 8) L = true) (h : RR I J) (hV : ∀ I2 J2 T2, RR I2 J2 → V (x3 + 9) I2 J2 T2) : wc_37 L xs x3 I J T V := by
  unfold wc_37
  try simp only [b1, b2, b3, b4, b5, b6, b7, b8, true_and]
  exact rp_tells _ h (fun v I2 J2 T2 r => ⟨fun _ => hV _ _ _ r, fun z => absurd rfl z⟩)
theorem rc_38 {L : Nat} {xs : Nat → Int32} {x3 : Int32} {I : Nat → Nat → Int32} {J : Nat → Nat → Int64} {T : Option Nat} {V : Int32 → (Nat → Nat → Int32) → (Nat → Nat → Int64) → Option Nat → Prop} (b1 : ix_inb (x3 + 1) L = true) (b2 : ix_inb (x3 + 2) L = true) (b3 : ix_inb (x3 + 3) L = true) (b4 : ix_inb (x3 + 4) L = true) (b5 : ix_inb (x3 + 5) L = true) (b6 : ix_inb (x3 + 6) L = true) (b7 : ix_inb (x3 + 7) L = true) (b8 : ix_inb (x3 + 8) L = true) (h : RR I J) (hV : ∀ I2 J2 T2, RR I2 J2 → V (x3 + 9) I2 J2 T2) : wc_38 L xs x3 I J T V := by
  unfold wc_38
  try simp only [b1, b2, b3, b4, b5, b6, b7, b8, true_and]
  exact rp_account _ _ h (fun v I2 J2 T2 r => ⟨fun _ => hV _ _ _ r, fun z => absurd (lg_self _) z⟩)
theorem rc_39 {L : Nat} {xs : Nat → Int32} {x3 : Int32} {I : Nat → Nat → Int32} {J : Nat → Nat → Int64} {T : Option Nat} {V : Int32 → (Nat → Nat → Int32) → (Nat → Nat → Int64) → Option Nat → Prop} (b1 : ix_inb (x3 + 1) L = true) (b2 : ix_inb (x3 + 2) L = true) (b3 : ix_inb (x3 + 3) L = true) (b4 : ix_inb (x3 + 4) L = true) (b5 : ix_inb (x3 + 5) L = true) (b6 : ix_inb (x3 + 6) L = true) (b7 : ix_inb (x3 + 7) L = true) (b8 : ix_inb (x3 + 8) L = true) (h : RR I J) (hV : ∀ I2 J2 T2, RR I2 J2 → V (x3 + 9) I2 J2 T2) : wc_39 L xs x3 I J T V := by
  unfold wc_39
  try simp only [b1, b2, b3, b4, b5, b6, b7, b8, true_and]
  exact rp_owes _ _ h (fun v I2 J2 T2 r => ⟨fun _ => hV _ _ _ r, fun z => absurd (lg_self _) z⟩)
theorem rc_40 {L : Nat} {xs : Nat → Int32} {x3 : Int32} {I : Nat → Nat → Int32} {J : Nat → Nat → Int64} {T : Option Nat} {V : Int32 → (Nat → Nat → Int32) → (Nat → Nat → Int64) → Option Nat → Prop} (b1 : ix_inb (x3 + 1) L = true) (b2 : ix_inb (x3 + 2) L = true) (b3 : ix_inb (x3 + 3) L = true) (b4 : ix_inb (x3 + 4) L = true) (b5 : ix_inb (x3 + 5) L = true) (b6 : ix_inb (x3 + 6) L = true) (b7 : ix_inb (x3 + 7) L = true) (b8 : ix_inb (x3 + 8) L = true) (h : RR I J) (hV : ∀ I2 J2 T2, RR I2 J2 → V (x3 + 9) I2 J2 T2) : wc_40 L xs x3 I J T V := by
  unfold wc_40
  try simp only [b1, b2, b3, b4, b5, b6, b7, b8, true_and]
  exact rp_balance _ h (fun v I2 J2 T2 r => ⟨fun _ => hV _ _ _ r, fun z => absurd (lg_self _) z⟩)
theorem rc_41 {L : Nat} {xs : Nat → Int32} {x3 : Int32} {I : Nat → Nat → Int32} {J : Nat → Nat → Int64} {T : Option Nat} {V : Int32 → (Nat → Nat → Int32) → (Nat → Nat → Int64) → Option Nat → Prop} (b1 : ix_inb (x3 + 1) L = true) (b2 : ix_inb (x3 + 2) L = true) (b3 : ix_inb (x3 + 3) L = true) (b4 : ix_inb (x3 + 4) L = true) (b5 : ix_inb (x3 + 5) L = true) (b6 : ix_inb (x3 + 6) L = true) (b7 : ix_inb (x3 + 7) L = true) (b8 : ix_inb (x3 + 8) L = true) (h : RR I J) (hV : ∀ I2 J2 T2, RR I2 J2 → V (x3 + 9) I2 J2 T2) : wc_41 L xs x3 I J T V := by
  unfold wc_41
  try simp only [b1, b2, b3, b4, b5, b6, b7, b8, true_and]
  exact rp_pays _ _ h (fun v I2 J2 T2 r => ⟨fun _ => hV _ _ _ r, fun z => absurd (lg_self _) z⟩)
theorem rc_42 {L : Nat} {xs : Nat → Int32} {x3 : Int32} {I : Nat → Nat → Int32} {J : Nat → Nat → Int64} {T : Option Nat} {V : Int32 → (Nat → Nat → Int32) → (Nat → Nat → Int64) → Option Nat → Prop} (b1 : ix_inb (x3 + 1) L = true) (b2 : ix_inb (x3 + 2) L = true) (b3 : ix_inb (x3 + 3) L = true) (b4 : ix_inb (x3 + 4) L = true) (b5 : ix_inb (x3 + 5) L = true) (b6 : ix_inb (x3 + 6) L = true) (b7 : ix_inb (x3 + 7) L = true) (b8 : ix_inb (x3 + 8) L = true) (h : RR I J) (hV : ∀ I2 J2 T2, RR I2 J2 → V (x3 + 9) I2 J2 T2) : wc_42 L xs x3 I J T V := by
  unfold wc_42
  try simp only [b1, b2, b3, b4, b5, b6, b7, b8, true_and]
  exact rp_rules _ _ _ h (fun v I2 J2 T2 r => ⟨fun _ => hV _ _ _ r, fun z => absurd rfl z⟩)
theorem rc_43 {L : Nat} {xs : Nat → Int32} {x3 : Int32} {I : Nat → Nat → Int32} {J : Nat → Nat → Int64} {T : Option Nat} {V : Int32 → (Nat → Nat → Int32) → (Nat → Nat → Int64) → Option Nat → Prop} (b1 : ix_inb (x3 + 1) L = true) (b2 : ix_inb (x3 + 2) L = true) (b3 : ix_inb (x3 + 3) L = true) (b4 : ix_inb (x3 + 4) L = true) (b5 : ix_inb (x3 + 5) L = true) (b6 : ix_inb (x3 + 6) L = true) (b7 : ix_inb (x3 + 7) L = true) (b8 : ix_inb (x3 + 8) L = true) (h : RR I J) (hV : ∀ I2 J2 T2, RR I2 J2 → V (x3 + 9) I2 J2 T2) : wc_43 L xs x3 I J T V := by
  unfold wc_43
  try simp only [b1, b2, b3, b4, b5, b6, b7, b8, true_and]
  exact rp_bag _ _ _ _ h (fun v I2 J2 T2 r => ⟨fun _ => hV _ _ _ r, fun z => absurd rfl z⟩)
theorem rc_44 {L : Nat} {xs : Nat → Int32} {x3 : Int32} {I : Nat → Nat → Int32} {J : Nat → Nat → Int64} {T : Option Nat} {V : Int32 → (Nat → Nat → Int32) → (Nat → Nat → Int64) → Option Nat → Prop} (b1 : ix_inb (x3 + 1) L = true) (b2 : ix_inb (x3 + 2) L = true) (b3 : ix_inb (x3 + 3) L = true) (b4 : ix_inb (x3 + 4) L = true) (b5 : ix_inb (x3 + 5) L = true) (b6 : ix_inb (x3 + 6) L = true) (b7 : ix_inb (x3 + 7) L = true) (b8 : ix_inb (x3 + 8) L = true) (h : RR I J) (hV : ∀ I2 J2 T2, RR I2 J2 → V (x3 + 9) I2 J2 T2) : wc_44 L xs x3 I J T V := by
  unfold wc_44
  try simp only [b1, b2, b3, b4, b5, b6, b7, b8, true_and]
  exact rp_handed _ _ _ _ h (fun v I2 J2 T2 r => ⟨fun _ => hV _ _ _ r, fun z => absurd rfl z⟩)
theorem rc_45 {L : Nat} {xs : Nat → Int32} {x3 : Int32} {I : Nat → Nat → Int32} {J : Nat → Nat → Int64} {T : Option Nat} {V : Int32 → (Nat → Nat → Int32) → (Nat → Nat → Int64) → Option Nat → Prop} (b1 : ix_inb (x3 + 1) L = true) (b2 : ix_inb (x3 + 2) L = true) (b3 : ix_inb (x3 + 3) L = true) (b4 : ix_inb (x3 + 4) L = true) (b5 : ix_inb (x3 + 5) L = true) (b6 : ix_inb (x3 + 6) L = true) (b7 : ix_inb (x3 + 7) L = true) (b8 : ix_inb (x3 + 8) L = true) (h : RR I J) (hV : ∀ I2 J2 T2, RR I2 J2 → V (x3 + 9) I2 J2 T2) : wc_45 L xs x3 I J T V := by
  unfold wc_45
  try simp only [b1, b2, b3, b4, b5, b6, b7, b8, true_and]
  exact rp_where _ _ h (fun v I2 J2 T2 r => ⟨fun _ => hV _ _ _ r, fun z => absurd rfl z⟩)
theorem rc_46 {L : Nat} {xs : Nat → Int32} {x3 : Int32} {I : Nat → Nat → Int32} {J : Nat → Nat → Int64} {T : Option Nat} {V : Int32 → (Nat → Nat → Int32) → (Nat → Nat → Int64) → Option Nat → Prop} (b1 : ix_inb (x3 + 1) L = true) (b2 : ix_inb (x3 + 2) L = true) (b3 : ix_inb (x3 + 3) L = true) (b4 : ix_inb (x3 + 4) L = true) (b5 : ix_inb (x3 + 5) L = true) (b6 : ix_inb (x3 + 6) L = true) (b7 : ix_inb (x3 + 7) L = true) (b8 : ix_inb (x3 + 8) L = true) (h : RR I J) (hV : ∀ I2 J2 T2, RR I2 J2 → V (x3 + 9) I2 J2 T2) : wc_46 L xs x3 I J T V := by
  unfold wc_46
  try simp only [b1, b2, b3, b4, b5, b6, b7, b8, true_and]
  exact rp_late _ _ _ h (fun v I2 J2 T2 r => ⟨fun _ => hV _ _ _ r, fun z => absurd rfl z⟩)
theorem rc_47 {L : Nat} {xs : Nat → Int32} {x3 : Int32} {I : Nat → Nat → Int32} {J : Nat → Nat → Int64} {T : Option Nat} {V : Int32 → (Nat → Nat → Int32) → (Nat → Nat → Int64) → Option Nat → Prop} (b1 : ix_inb (x3 + 1) L = true) (b2 : ix_inb (x3 + 2) L = true) (b3 : ix_inb (x3 + 3) L = true) (b4 : ix_inb (x3 + 4) L = true) (b5 : ix_inb (x3 + 5) L = true) (b6 : ix_inb (x3 + 6) L = true) (b7 : ix_inb (x3 + 7) L = true) (b8 : ix_inb (x3 + 8) L = true) (h : RR I J) (hV : ∀ I2 J2 T2, RR I2 J2 → V (x3 + 9) I2 J2 T2) : wc_47 L xs x3 I J T V := by
  unfold wc_47
  try simp only [b1, b2, b3, b4, b5, b6, b7, b8, true_and]
  exact rp_loses _ _ h (fun v I2 J2 T2 r => ⟨fun _ => hV _ _ _ r, fun z => absurd (lg_self _) z⟩)
theorem rc_48 {L : Nat} {xs : Nat → Int32} {x3 : Int32} {I : Nat → Nat → Int32} {J : Nat → Nat → Int64} {T : Option Nat} {V : Int32 → (Nat → Nat → Int32) → (Nat → Nat → Int64) → Option Nat → Prop} (b1 : ix_inb (x3 + 1) L = true) (b2 : ix_inb (x3 + 2) L = true) (b3 : ix_inb (x3 + 3) L = true) (b4 : ix_inb (x3 + 4) L = true) (b5 : ix_inb (x3 + 5) L = true) (b6 : ix_inb (x3 + 6) L = true) (b7 : ix_inb (x3 + 7) L = true) (b8 : ix_inb (x3 + 8) L = true) (h : RR I J) (hV : ∀ I2 J2 T2, RR I2 J2 → V (x3 + 9) I2 J2 T2) : wc_48 L xs x3 I J T V := by
  unfold wc_48
  try simp only [b1, b2, b3, b4, b5, b6, b7, b8, true_and]
  exact rp_line _ _ _ _ h (fun v I2 J2 T2 r => ⟨fun _ => hV _ _ _ r, fun z => absurd rfl z⟩)
theorem rc_49 {L : Nat} {xs : Nat → Int32} {x3 : Int32} {I : Nat → Nat → Int32} {J : Nat → Nat → Int64} {T : Option Nat} {V : Int32 → (Nat → Nat → Int32) → (Nat → Nat → Int64) → Option Nat → Prop} (b1 : ix_inb (x3 + 1) L = true) (b2 : ix_inb (x3 + 2) L = true) (b3 : ix_inb (x3 + 3) L = true) (b4 : ix_inb (x3 + 4) L = true) (b5 : ix_inb (x3 + 5) L = true) (b6 : ix_inb (x3 + 6) L = true) (b7 : ix_inb (x3 + 7) L = true) (b8 : ix_inb (x3 + 8) L = true) (h : RR I J) (hV : ∀ I2 J2 T2, RR I2 J2 → V (x3 + 9) I2 J2 T2) : wc_49 L xs x3 I J T V := by
  unfold wc_49
  try simp only [b1, b2, b3, b4, b5, b6, b7, b8, true_and]
  exact rp_close h (fun v I2 J2 T2 r => ⟨fun _ => hV _ _ _ r, fun z => absurd rfl z⟩)
theorem rc_50 {L : Nat} {xs : Nat → Int32} {x3 : Int32} {I : Nat → Nat → Int32} {J : Nat → Nat → Int64} {T : Option Nat} {V : Int32 → (Nat → Nat → Int32) → (Nat → Nat → Int64) → Option Nat → Prop} (b1 : ix_inb (x3 + 1) L = true) (b2 : ix_inb (x3 + 2) L = true) (b3 : ix_inb (x3 + 3) L = true) (b4 : ix_inb (x3 + 4) L = true) (b5 : ix_inb (x3 + 5) L = true) (b6 : ix_inb (x3 + 6) L = true) (b7 : ix_inb (x3 + 7) L = true) (b8 : ix_inb (x3 + 8) L = true) (h : RR I J) (hV : ∀ I2 J2 T2, RR I2 J2 → V (x3 + 9) I2 J2 T2) : wc_50 L xs x3 I J T V := by
  unfold wc_50
  try simp only [b1, b2, b3, b4, b5, b6, b7, b8, true_and]
  exact rp_join h (fun v I2 J2 T2 r => ⟨fun _ => hV _ _ _ r, fun z => absurd rfl z⟩)
theorem rc_51 {L : Nat} {xs : Nat → Int32} {x3 : Int32} {I : Nat → Nat → Int32} {J : Nat → Nat → Int64} {T : Option Nat} {V : Int32 → (Nat → Nat → Int32) → (Nat → Nat → Int64) → Option Nat → Prop} (b1 : ix_inb (x3 + 1) L = true) (b2 : ix_inb (x3 + 2) L = true) (b3 : ix_inb (x3 + 3) L = true) (b4 : ix_inb (x3 + 4) L = true) (b5 : ix_inb (x3 + 5) L = true) (b6 : ix_inb (x3 + 6) L = true) (b7 : ix_inb (x3 + 7) L = true) (b8 : ix_inb (x3 + 8) L = true) (h : RR I J) (hV : ∀ I2 J2 T2, RR I2 J2 → V (x3 + 9) I2 J2 T2) : wc_51 L xs x3 I J T V := by
  unfold wc_51
  try simp only [b1, b2, b3, b4, b5, b6, b7, b8, true_and]
  exact rp_mate _ h (fun v I2 J2 T2 r => ⟨fun _ => hV _ _ _ r, fun z => absurd rfl z⟩)
theorem rc_52 {L : Nat} {xs : Nat → Int32} {x3 : Int32} {I : Nat → Nat → Int32} {J : Nat → Nat → Int64} {T : Option Nat} {V : Int32 → (Nat → Nat → Int32) → (Nat → Nat → Int64) → Option Nat → Prop} (b1 : ix_inb (x3 + 1) L = true) (b2 : ix_inb (x3 + 2) L = true) (b3 : ix_inb (x3 + 3) L = true) (b4 : ix_inb (x3 + 4) L = true) (b5 : ix_inb (x3 + 5) L = true) (b6 : ix_inb (x3 + 6) L = true) (b7 : ix_inb (x3 + 7) L = true) (b8 : ix_inb (x3 + 8) L = true) (h : RR I J) (hV : ∀ I2 J2 T2, RR I2 J2 → V (x3 + 9) I2 J2 T2) : wc_52 L xs x3 I J T V := by
  unfold wc_52
  try simp only [b1, b2, b3, b4, b5, b6, b7, b8, true_and]
  exact rp_leans _ h (fun v I2 J2 T2 r => ⟨fun _ => hV _ _ _ r, fun z => absurd rfl z⟩)
theorem rc_53 {L : Nat} {xs : Nat → Int32} {x3 : Int32} {I : Nat → Nat → Int32} {J : Nat → Nat → Int64} {T : Option Nat} {V : Int32 → (Nat → Nat → Int32) → (Nat → Nat → Int64) → Option Nat → Prop} (b1 : ix_inb (x3 + 1) L = true) (b2 : ix_inb (x3 + 2) L = true) (b3 : ix_inb (x3 + 3) L = true) (b4 : ix_inb (x3 + 4) L = true) (b5 : ix_inb (x3 + 5) L = true) (b6 : ix_inb (x3 + 6) L = true) (b7 : ix_inb (x3 + 7) L = true) (b8 : ix_inb (x3 + 8) L = true) (h : RR I J) (hV : ∀ I2 J2 T2, RR I2 J2 → V (x3 + 9) I2 J2 T2) : wc_53 L xs x3 I J T V := by
  unfold wc_53
  try simp only [b1, b2, b3, b4, b5, b6, b7, b8, true_and]
  exact rp_interest _ _ _ h (fun v I2 J2 T2 r => ⟨fun _ => hV _ _ _ r, fun z => absurd rfl z⟩)
theorem rc_54 {L : Nat} {xs : Nat → Int32} {x3 : Int32} {I : Nat → Nat → Int32} {J : Nat → Nat → Int64} {T : Option Nat} {V : Int32 → (Nat → Nat → Int32) → (Nat → Nat → Int64) → Option Nat → Prop} (b1 : ix_inb (x3 + 1) L = true) (b2 : ix_inb (x3 + 2) L = true) (b3 : ix_inb (x3 + 3) L = true) (b4 : ix_inb (x3 + 4) L = true) (b5 : ix_inb (x3 + 5) L = true) (b6 : ix_inb (x3 + 6) L = true) (b7 : ix_inb (x3 + 7) L = true) (b8 : ix_inb (x3 + 8) L = true) (h : RR I J) (hV : ∀ I2 J2 T2, RR I2 J2 → V (x3 + 9) I2 J2 T2) : wc_54 L xs x3 I J T V := by
  unfold wc_54
  try simp only [b1, b2, b3, b4, b5, b6, b7, b8, true_and]
  exact rp_weigh _ _ h (fun v I2 J2 T2 r => ⟨fun _ => hV _ _ _ r, fun z => absurd rfl z⟩)
theorem rc_55 {L : Nat} {xs : Nat → Int32} {x3 : Int32} {I : Nat → Nat → Int32} {J : Nat → Nat → Int64} {T : Option Nat} {V : Int32 → (Nat → Nat → Int32) → (Nat → Nat → Int64) → Option Nat → Prop} (b1 : ix_inb (x3 + 1) L = true) (b2 : ix_inb (x3 + 2) L = true) (b3 : ix_inb (x3 + 3) L = true) (b4 : ix_inb (x3 + 4) L = true) (b5 : ix_inb (x3 + 5) L = true) (b6 : ix_inb (x3 + 6) L = true) (b7 : ix_inb (x3 + 7) L = true) (b8 : ix_inb (x3 + 8) L = true) (h : RR I J) (hV : ∀ I2 J2 T2, RR I2 J2 → V (x3 + 9) I2 J2 T2) : wc_55 L xs x3 I J T V := by
  unfold wc_55
  try simp only [b1, b2, b3, b4, b5, b6, b7, b8, true_and]
  exact rp_rule _ _ h (fun v I2 J2 T2 r => ⟨fun _ => hV _ _ _ r, fun z => absurd rfl z⟩)
theorem rc_56 {L : Nat} {xs : Nat → Int32} {x3 : Int32} {I : Nat → Nat → Int32} {J : Nat → Nat → Int64} {T : Option Nat} {V : Int32 → (Nat → Nat → Int32) → (Nat → Nat → Int64) → Option Nat → Prop} (b1 : ix_inb (x3 + 1) L = true) (b2 : ix_inb (x3 + 2) L = true) (b3 : ix_inb (x3 + 3) L = true) (b4 : ix_inb (x3 + 4) L = true) (b5 : ix_inb (x3 + 5) L = true) (b6 : ix_inb (x3 + 6) L = true) (b7 : ix_inb (x3 + 7) L = true) (b8 : ix_inb (x3 + 8) L = true) (h : RR I J) (hV : ∀ I2 J2 T2, RR I2 J2 → V (x3 + 9) I2 J2 T2) : wc_56 L xs x3 I J T V := by
  unfold wc_56
  try simp only [b1, b2, b3, b4, b5, b6, b7, b8, true_and]
  exact rp_judge _ h (fun v I2 J2 T2 r => ⟨fun _ => hV _ _ _ r, fun z => absurd rfl z⟩)
