theorem fn_mailC {n : Nat} {a b s w p d : Int32} (hn : n ≤ 7) {I : Nat → Nat → Int32} {J : Nat → Nat → Int64} {T : Option Nat} {P : Int32 → (Nat → Nat → Int32) → (Nat → Nat → Int64) → Option Nat → Prop} (n1 : I 8 0 = nI n) (h : mk_ n a b s w p d) (hP : P 1 I J T) : wp_X11_isMail a b s w p d I J T P := by
  have n3 : (nI n - 1).toInt = (n : Int) - 1 := nI_pm1 (by omega)
  have n4 : (nI n).toInt = (n : Int) := nI_toInt (by omega)
  obtain ⟨⟨m1, m2, m3, m4, m5⟩, ⟨m6, m7⟩, ⟨m8, m9⟩, ⟨m10, m11⟩, m12, m13⟩ := h
  simp only [wp_X11_isMail, wp_X11_isDay, wp_X11_isPair, wp_X11_outside, wp_X11_isLand, wp_X5_count, lgc_lt, lgc_le, lgc_eq, cmp_s, cmp_t, u2_e]
  try simp only [Int32.lt_iff_toInt_lt, Int32.le_iff_toInt_le]
  simp [n1, n3, n4, m5]
  repeat' (first | with_reducible refine And.intro ?_ ?_ | with_reducible intro _)
  all_goals try first | rfl | (exfalso; omega) | exact inb_of (by omega) (by omega) | with_reducible exact nI_in2 (by omega) (by omega) | with_reducible exact hP | contradiction

theorem fn_mailM {n : Nat} {a b s w p d : Int32} (hn : n ≤ 7) {I : Nat → Nat → Int32} {J : Nat → Nat → Int64} {T : Option Nat} {P : Int32 → (Nat → Nat → Int32) → (Nat → Nat → Int64) → Option Nat → Prop} (n1 : I 204 6 = nI n) (h : mk_ n a b s w p d) (hP : P 1 I J T) : wp_X12_isMail a b s w p d I J T P := by
  have n3 : (nI n - 1).toInt = (n : Int) - 1 := nI_pm1 (by omega)
  have n4 : (nI n).toInt = (n : Int) := nI_toInt (by omega)
  obtain ⟨⟨m1, m2, m3, m4, m5⟩, ⟨m6, m7⟩, ⟨m8, m9⟩, ⟨m10, m11⟩, m12, m13⟩ := h
  simp only [wp_X12_isMail, wp_X12_areTwo, wp_X12_isDay, wp_X12_isLand, lgc_lt, lgc_le, lgc_eq, cmp_s, cmp_t, u2_e]
  try simp only [Int32.lt_iff_toInt_lt, Int32.le_iff_toInt_le]
  simp [n1, n3, n4, m5]
  repeat' (first | with_reducible refine And.intro ?_ ?_ | with_reducible intro _)
  all_goals try first | rfl | (exfalso; omega) | exact inb_of (by omega) (by omega) | with_reducible exact nI_in2 (by omega) (by omega) | with_reducible exact hP | contradiction

theorem fn_noutC {a : Int32} {lo hi : Int64} {I : Nat → Nat → Int32} {J : Nat → Nat → Int64} {T : Option Nat} {P : Int32 → (Nat → Nat → Int32) → (Nat → Nat → Int64) → Option Nat → Prop} (h1 : lo.toInt ≤ a.toInt) (h2 : a.toInt ≤ hi.toInt) (hP : P 0 I J T) : wp_X11_outside a.toInt64 lo hi I J T P := by
  simp only [wp_X11_outside, lgc_lt, lgc_le, lgc_eq, cmp_s, cmp_t, u2_e]
  try simp only [Int64.lt_iff_toInt_lt, Int64.le_iff_toInt_le, Int32.toInt_toInt64]
  simp
  repeat' (first | with_reducible refine And.intro ?_ ?_ | with_reducible intro _)
  all_goals try first | rfl | (exfalso; omega) | exact inb_of (by omega) (by omega) | with_reducible exact nI_in2 (by omega) (by omega) | with_reducible exact hP | contradiction

