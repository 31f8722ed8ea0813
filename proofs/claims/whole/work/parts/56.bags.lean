/-! bags: where one is, as known on a day -/
def sc_find (B L D K : Nat → Int32) (b kn d0 : Int32) : Nat → Int32 × Int32
  | 0 => (0, d0)
  | k + 1 => if B k = b ∧ K k ≤ kn ∧ ¬ L k < (sc_find B L D K b kn d0 k).1 then (L k, D k) else sc_find B L D K b kn d0 k
theorem sc_find_congr {B L D K B2 L2 D2 K2 : Nat → Int32} {b kn d0 : Int32} : ∀ {n : Nat}, (∀ k, k < n → B k = B2 k ∧ L k = L2 k ∧ D k = D2 k ∧ K k = K2 k) → sc_find B L D K b kn d0 n = sc_find B2 L2 D2 K2 b kn d0 n
  | 0, _ => rfl
  | n + 1, h => by
    have h1 := sc_find_congr (B := B) (L := L) (D := D) (K := K) (B2 := B2) (L2 := L2) (D2 := D2) (K2 := K2) (b := b) (kn := kn) (d0 := d0) (n := n) (fun k hk => h k (by omega))
    obtain ⟨e1, e2, e3, e4⟩ := h n (by omega)
    rw [sc_find, sc_find, h1, e1, e2, e3, e4]
theorem sc_find_ok {B L D K : Nat → Int32} {b kn d0 : Int32} {m : Nat} (hm : 0 < m) (hd : ∃ y : Nat, y ≤ 9999 ∧ d0 = nI y) : ∀ {n : Nat}, (∀ k, k < n → B k = b → ∃ q y : Nat, L k = nI q ∧ q < m ∧ D k = nI y ∧ y ≤ 9999) → ∃ q y : Nat, sc_find B L D K b kn d0 n = (nI q, nI y) ∧ q < m ∧ y ≤ 9999
  | 0, _ => by
    obtain ⟨y, hy, rfl⟩ := hd
    exact ⟨0, y, by rw [sc_find, nI_0], hm, hy⟩
  | n + 1, h => by
    rw [sc_find]
    by_cases c : B n = b ∧ K n ≤ kn ∧ ¬ L n < (sc_find B L D K b kn d0 n).1
    · rw [if_pos c]
      obtain ⟨q, y, e1, e2, e3, e4⟩ := h n (by omega) c.1
      exact ⟨q, y, by rw [e1, e3], e2, e4⟩
    · rw [if_neg c]
      exact sc_find_ok hm hd (fun k hk => h k (by omega))
theorem fn_findC {b g : Nat} {kn : Int32} (hb : b < 30) (hg : g ≤ 150) {I : Nat → Nat → Int32} {J : Nat → Nat → Int64} {T : Option Nat} {P : (Nat → Nat → Int32) → (Nat → Nat → Int64) → Option Nat → Prop} (e : I 142 8 = nI g) (hP : ∀ I2, fr_off [(142, 143, 13, 15)] I I2 → I2 142 13 = (sc_find (I 177) (I 178) (I 179) (I 180) (nI b) kn (I 144 b) g).1 → I2 142 14 = (sc_find (I 177) (I 178) (I 179) (I 180) (nI b) kn (I 144 b) g).2 → P I2 J T) : wp_X1_find (nI b) kn I J T P := by
  have b5 : (nI b).toNatClampNeg = b := nI_clamp (by omega)
  unfold wp_X1_find
  refine ⟨nI_in2 hb (by decide), ?_⟩
  intro V hV
  have key : ∀ m i : Nat, ∀ I2 : Nat → Nat → Int32, i + m = g → fr_off [(142, 143, 13, 15)] I I2 → I2 142 13 = (sc_find (I 177) (I 178) (I 179) (I 180) (nI b) kn (I 144 b) i).1 → I2 142 14 = (sc_find (I 177) (I 178) (I 179) (I 180) (nI b) kn (I 144 b) i).2 → V (nI b) kn (nI i) I2 J T := by
    intro m
    induction m with
    | zero =>
      intro i I2 hi h0 h1 h2
      have hi : i = g := by omega
      subst hi
      apply hV
      unfold wb_X1_find_17
      rw [fr_at 142 8 h0 rfl, e]
      exact ⟨fun q => absurd q (nI_nlt (Nat.le_refl _) (by omega)), fun _ => hP I2 h0 h1 h2⟩
    | succ m ih =>
      intro i I2 hi h0 h1 h2
      have hin : ix_inb (nI i) 150 = true := nI_in2 (by omega) (by decide)
      have ec : (nI i).toNatClampNeg = i := nI_clamp (by omega)
      apply hV
      unfold wb_X1_find_17
      rw [fr_at 142 8 h0 rfl, e, ec, nI_1, fr_rw1 h0 177 rfl, fr_rw1 h0 180 rfl, fr_rw1 h0 178 rfl, fr_rw1 h0 179 rfl, h1]
      refine ⟨fun _ => ⟨hin, fun q1 => ⟨hin, fun q2 => ⟨hin, fun q3 => ih (i + 1) I2 (by omega) h0 ?_ ?_, fun q3 => ⟨hin, hin, ih (i + 1) _ (by omega) (fr_put rfl (fr_put rfl h0)) ?_ ?_⟩⟩, fun q2 => ih (i + 1) I2 (by omega) h0 ?_ ?_⟩, fun q1 => ih (i + 1) I2 (by omega) h0 ?_ ?_⟩, fun q => absurd (nI_lt (by omega) (by omega)) q⟩
      · rw [sc_find, if_neg (fun z => z.2.2 q3)]; exact h1
      · rw [sc_find, if_neg (fun z => z.2.2 q3)]; exact h2
      · rw [sc_find, if_pos ⟨q1, q2, q3⟩]; simp [u2_e]
      · rw [sc_find, if_pos ⟨q1, q2, q3⟩]; simp [u2_e]
      · rw [sc_find, if_neg (fun z => q2 z.2.1)]; exact h1
      · rw [sc_find, if_neg (fun z => q2 z.2.1)]; exact h2
      · rw [sc_find, if_neg (fun z => q1 z.1)]; exact h1
      · rw [sc_find, if_neg (fun z => q1 z.1)]; exact h2
  rw [b5]
  exact key g 0 _ (by omega) (fr_put rfl (fr_put rfl fr_refl)) (by simp [u2_e, sc_find]) (by simp [u2_e, sc_find])
theorem fn_findM {b g : Nat} {kn : Int32} (hb : b < 30) (hg : g ≤ 150) {I : Nat → Nat → Int32} {J : Nat → Nat → Int64} {T : Option Nat} {P : (Nat → Nat → Int32) → (Nat → Nat → Int64) → Option Nat → Prop} (e : I 204 82 = nI g) (hP : ∀ I2, fr_off [(204, 205, 95, 97)] I I2 → I2 204 95 = (sc_find (I 263) (I 264) (I 265) (I 266) (nI b) kn (I 261 b) g).1 → I2 204 96 = (sc_find (I 263) (I 264) (I 265) (I 266) (nI b) kn (I 261 b) g).2 → P I2 J T) : wp_X12_find (nI b) kn I J T P := by
  have b5 : (nI b).toNatClampNeg = b := nI_clamp (by omega)
  unfold wp_X12_find
  refine ⟨nI_in2 hb (by decide), ?_⟩
  intro V hV
  have key : ∀ m i : Nat, ∀ I2 : Nat → Nat → Int32, i + m = g → fr_off [(204, 205, 95, 97)] I I2 → I2 204 95 = (sc_find (I 263) (I 264) (I 265) (I 266) (nI b) kn (I 261 b) i).1 → I2 204 96 = (sc_find (I 263) (I 264) (I 265) (I 266) (nI b) kn (I 261 b) i).2 → V (nI b) kn (nI i) I2 J T := by
    intro m
    induction m with
    | zero =>
      intro i I2 hi h0 h1 h2
      have hi : i = g := by omega
      subst hi
      apply hV
      unfold wb_X12_find_17
      rw [fr_at 204 82 h0 rfl, e]
      exact ⟨fun q => absurd q (nI_nlt (Nat.le_refl _) (by omega)), fun _ => hP I2 h0 h1 h2⟩
    | succ m ih =>
      intro i I2 hi h0 h1 h2
      have hin : ix_inb (nI i) 150 = true := nI_in2 (by omega) (by decide)
      have ec : (nI i).toNatClampNeg = i := nI_clamp (by omega)
      apply hV
      unfold wb_X12_find_17
      rw [fr_at 204 82 h0 rfl, e, ec, nI_1, fr_rw1 h0 263 rfl, fr_rw1 h0 266 rfl, fr_rw1 h0 264 rfl, fr_rw1 h0 265 rfl, h1]
      refine ⟨fun _ => ⟨hin, fun q1 => ⟨hin, fun q2 => ⟨hin, fun q3 => ih (i + 1) I2 (by omega) h0 ?_ ?_, fun q3 => ⟨hin, hin, ih (i + 1) _ (by omega) (fr_put rfl (fr_put rfl h0)) ?_ ?_⟩⟩, fun q2 => ih (i + 1) I2 (by omega) h0 ?_ ?_⟩, fun q1 => ih (i + 1) I2 (by omega) h0 ?_ ?_⟩, fun q => absurd (nI_lt (by omega) (by omega)) q⟩
      · rw [sc_find, if_neg (fun z => z.2.2 q3)]; exact h1
      · rw [sc_find, if_neg (fun z => z.2.2 q3)]; exact h2
      · rw [sc_find, if_pos ⟨q1, q2, q3⟩]; simp [u2_e]
      · rw [sc_find, if_pos ⟨q1, q2, q3⟩]; simp [u2_e]
      · rw [sc_find, if_neg (fun z => q2 z.2.1)]; exact h1
      · rw [sc_find, if_neg (fun z => q2 z.2.1)]; exact h2
      · rw [sc_find, if_neg (fun z => q1 z.1)]; exact h1
      · rw [sc_find, if_neg (fun z => q1 z.1)]; exact h2
  rw [b5]
  exact key g 0 _ (by omega) (fr_put rfl (fr_put rfl fr_refl)) (by simp [u2_e, sc_find]) (by simp [u2_e, sc_find])
