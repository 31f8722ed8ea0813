theorem fn_badd_r2 {n m : Nat} {a d : Int32} (hn : n < 30) (hm : m ≤ 5) {I : Nat → Nat → Int32} {J : Nat → Nat → Int64} {T : Option Nat} {P : Int32 → (Nat → Nat → Int32) → (Nat → Nat → Int64) → Option Nat → Prop} (e : I 142 3 = nI n) (hP : ∀ I2, fr_off [(142, 143, 3, 4), (143, 146, 0, 2147483648), (147, 177, 0, 2147483648)] I I2 → I2 142 3 = nI (n + 1) → (I2 143 n = a ∧ I2 144 n = d ∧ I2 145 n = nI m) → (∀ w, w < m → I2 (147 + n) w = (J 2 w).toInt32) → (∀ k, k < n → I2 143 k = I 143 k ∧ I2 144 k = I 144 k ∧ I2 145 k = I 145 k ∧ ∀ w, I2 (147 + k) w = I (147 + k) w) → P (nI n) I2 J T) : wp_X1_add_r2 a (nI m) d I J T P := by
  have n5 : (nI n).toNatClampNeg = n := nI_clamp (by omega)
  have hin : ix_inb (nI n) 30 = true := nI_in2 hn (by decide)
  unfold wp_X1_add_r2
  rw [e, n5]
  refine ⟨hin, hin, hin, ?_⟩
  intro V hV
  have key : ∀ m9 i : Nat, ∀ I1 : Nat → Nat → Int32, i + m9 = m → fr_off [(143, 146, 0, 2147483648), (147, 177, 0, 2147483648)] I I1 → (I1 143 n = a ∧ I1 144 n = d ∧ I1 145 n = nI m) → (∀ w, w < i → I1 (147 + n) w = (J 2 w).toInt32) → (∀ k, k < n → I1 143 k = I 143 k ∧ I1 144 k = I 144 k ∧ I1 145 k = I 145 k ∧ ∀ w, I1 (147 + k) w = I (147 + k) w) → V (nI m) (nI i) I1 J T := by
    intro m9
    induction m9 with
    | zero =>
      intro i I1 hi o q1 q2 q3
      have hi : i = m := by omega
      subst hi
      have e1 : I1 142 3 = nI n := by rw [fr_at 142 3 o rfl]; exact e
      apply hV
      unfold wb_X1_add_r2_34_c2
      rw [e1, nI_ap1, nI_1]
      refine ⟨fun q => absurd q (nI_nlt (Nat.le_refl _) (by omega)), fun _ => hP _ (fr_put rfl (fr_mono (by decide) o)) (by simp [u2_e, nI_1]) (by simpa [u2_e] using q1) (fun w hw => ?_) (fun k hk => ?_)⟩
      · rw [u2_c (by omega)]; exact q2 w hw
      · obtain ⟨f1, f2, f3, f6⟩ := q3 k hk
        refine ⟨by simpa [u2_e] using f1, by simpa [u2_e] using f2, by simpa [u2_e] using f3, fun w => ?_⟩
        rw [u2_c (by omega)]; exact f6 w
    | succ m9 ih =>
      intro i I1 hi o q1 q2 q3
      have e1 : I1 142 3 = nI n := by rw [fr_at 142 3 o rfl]; exact e
      apply hV
      unfold wb_X1_add_r2_34_c2
      rw [e1, re_146 hn, nI_clamp (show i < 2 ^ 31 by omega), nI_1]
      refine ⟨fun _ => ⟨fun _ => ⟨hin, nI_in2 (by omega) (by decide), nI_in2 (by omega) (by decide), ih (i + 1) _ (by omega) (fr_put (fr_in_row (a := 147) (b := 177) (List.mem_cons_of_mem _ (List.mem_cons_self ..)) (by omega) (by omega) (by omega)) o) ⟨?_, ?_, ?_⟩ (fun w hw => ?_) (fun k hk => ?_)⟩, fun q => absurd (nI_lt (a := i) (b := 5) (by omega) (by omega)) q⟩, fun q => absurd (nI_lt (by omega) (by omega)) q⟩
      · rw [u2_c (by omega)]; exact q1.1
      · rw [u2_c (by omega)]; exact q1.2.1
      · rw [u2_c (by omega)]; exact q1.2.2
      · by_cases e9 : w = i
        · subst e9; simp [u2_e]
        · rw [u2_j e9]; exact q2 w (by omega)
      · obtain ⟨f1, f2, f3, f6⟩ := q3 k hk
        refine ⟨?_, ?_, ?_, fun w => ?_⟩
        · rw [u2_c (by omega)]; exact f1
        · rw [u2_c (by omega)]; exact f2
        · rw [u2_c (by omega)]; exact f3
        · rw [u2_c (by omega)]; exact f6 w
  refine key m 0 _ (by omega) (fr_putn rfl (by omega) (fr_putn rfl (by omega) (fr_putn rfl (by omega) fr_refl))) (by simp [u2_e]) (fun w hw => by omega) (fun k hk => ?_)
  have hk : ¬ k = n := by omega
  refine ⟨by simp [u2_e, hk], by simp [u2_e, hk], by simp [u2_e, hk], fun w => ?_⟩
  rw [u2_c (by omega), u2_c (by omega), u2_c (by omega)]
theorem fn_badd_r3 {n m : Nat} {a d : Int32} (hn : n < 30) (hm : m ≤ 5) {I : Nat → Nat → Int32} {J : Nat → Nat → Int64} {T : Option Nat} {P : Int32 → (Nat → Nat → Int32) → (Nat → Nat → Int64) → Option Nat → Prop} (e : I 142 3 = nI n) (hP : ∀ I2, fr_off [(142, 143, 3, 4), (143, 146, 0, 2147483648), (147, 177, 0, 2147483648)] I I2 → I2 142 3 = nI (n + 1) → (I2 143 n = a ∧ I2 144 n = d ∧ I2 145 n = nI m) → (∀ w, w < m → I2 (147 + n) w = (J 3 w).toInt32) → (∀ k, k < n → I2 143 k = I 143 k ∧ I2 144 k = I 144 k ∧ I2 145 k = I 145 k ∧ ∀ w, I2 (147 + k) w = I (147 + k) w) → P (nI n) I2 J T) : wp_X1_add_r3 a (nI m) d I J T P := by
  have n5 : (nI n).toNatClampNeg = n := nI_clamp (by omega)
  have hin : ix_inb (nI n) 30 = true := nI_in2 hn (by decide)
  unfold wp_X1_add_r3
  rw [e, n5]
  refine ⟨hin, hin, hin, ?_⟩
  intro V hV
  have key : ∀ m9 i : Nat, ∀ I1 : Nat → Nat → Int32, i + m9 = m → fr_off [(143, 146, 0, 2147483648), (147, 177, 0, 2147483648)] I I1 → (I1 143 n = a ∧ I1 144 n = d ∧ I1 145 n = nI m) → (∀ w, w < i → I1 (147 + n) w = (J 3 w).toInt32) → (∀ k, k < n → I1 143 k = I 143 k ∧ I1 144 k = I 144 k ∧ I1 145 k = I 145 k ∧ ∀ w, I1 (147 + k) w = I (147 + k) w) → V (nI m) (nI i) I1 J T := by
    intro m9
    induction m9 with
    | zero =>
      intro i I1 hi o q1 q2 q3
      have hi : i = m := by omega
      subst hi
      have e1 : I1 142 3 = nI n := by rw [fr_at 142 3 o rfl]; exact e
      apply hV
      unfold wb_X1_add_r3_34_c3
      rw [e1, nI_ap1, nI_1]
      refine ⟨fun q => absurd q (nI_nlt (Nat.le_refl _) (by omega)), fun _ => hP _ (fr_put rfl (fr_mono (by decide) o)) (by simp [u2_e, nI_1]) (by simpa [u2_e] using q1) (fun w hw => ?_) (fun k hk => ?_)⟩
      · rw [u2_c (by omega)]; exact q2 w hw
      · obtain ⟨f1, f2, f3, f6⟩ := q3 k hk
        refine ⟨by simpa [u2_e] using f1, by simpa [u2_e] using f2, by simpa [u2_e] using f3, fun w => ?_⟩
        rw [u2_c (by omega)]; exact f6 w
    | succ m9 ih =>
      intro i I1 hi o q1 q2 q3
      have e1 : I1 142 3 = nI n := by rw [fr_at 142 3 o rfl]; exact e
      apply hV
      unfold wb_X1_add_r3_34_c3
      rw [e1, re_146 hn, nI_clamp (show i < 2 ^ 31 by omega), nI_1]
      refine ⟨fun _ => ⟨fun _ => ⟨hin, nI_in2 (by omega) (by decide), nI_in2 (by omega) (by decide), ih (i + 1) _ (by omega) (fr_put (fr_in_row (a := 147) (b := 177) (List.mem_cons_of_mem _ (List.mem_cons_self ..)) (by omega) (by omega) (by omega)) o) ⟨?_, ?_, ?_⟩ (fun w hw => ?_) (fun k hk => ?_)⟩, fun q => absurd (nI_lt (a := i) (b := 5) (by omega) (by omega)) q⟩, fun q => absurd (nI_lt (by omega) (by omega)) q⟩
      · rw [u2_c (by omega)]; exact q1.1
      · rw [u2_c (by omega)]; exact q1.2.1
      · rw [u2_c (by omega)]; exact q1.2.2
      · by_cases e9 : w = i
        · subst e9; simp [u2_e]
        · rw [u2_j e9]; exact q2 w (by omega)
      · obtain ⟨f1, f2, f3, f6⟩ := q3 k hk
        refine ⟨?_, ?_, ?_, fun w => ?_⟩
        · rw [u2_c (by omega)]; exact f1
        · rw [u2_c (by omega)]; exact f2
        · rw [u2_c (by omega)]; exact f3
        · rw [u2_c (by omega)]; exact f6 w
  refine key m 0 _ (by omega) (fr_putn rfl (by omega) (fr_putn rfl (by omega) (fr_putn rfl (by omega) fr_refl))) (by simp [u2_e]) (fun w hw => by omega) (fun k hk => ?_)
  have hk : ¬ k = n := by omega
  refine ⟨by simp [u2_e, hk], by simp [u2_e, hk], by simp [u2_e, hk], fun w => ?_⟩
  rw [u2_c (by omega), u2_c (by omega), u2_c (by omega)]
theorem fn_badd_r4 {n m : Nat} {a d : Int32} (hn : n < 30) (hm : m ≤ 5) {I : Nat → Nat → Int32} {J : Nat → Nat → Int64} {T : Option Nat} {P : Int32 → (Nat → Nat → Int32) → (Nat → Nat → Int64) → Option Nat → Prop} (e : I 142 3 = nI n) (hP : ∀ I2, fr_off [(142, 143, 3, 4), (143, 146, 0, 2147483648), (147, 177, 0, 2147483648)] I I2 → I2 142 3 = nI (n + 1) → (I2 143 n = a ∧ I2 144 n = d ∧ I2 145 n = nI m) → (∀ w, w < m → I2 (147 + n) w = (J 4 w).toInt32) → (∀ k, k < n → I2 143 k = I 143 k ∧ I2 144 k = I 144 k ∧ I2 145 k = I 145 k ∧ ∀ w, I2 (147 + k) w = I (147 + k) w) → P (nI n) I2 J T) : wp_X1_add_r4 a (nI m) d I J T P := by
  have n5 : (nI n).toNatClampNeg = n := nI_clamp (by omega)
  have hin : ix_inb (nI n) 30 = true := nI_in2 hn (by decide)
  unfold wp_X1_add_r4
  rw [e, n5]
  refine ⟨hin, hin, hin, ?_⟩
  intro V hV
  have key : ∀ m9 i : Nat, ∀ I1 : Nat → Nat → Int32, i + m9 = m → fr_off [(143, 146, 0, 2147483648), (147, 177, 0, 2147483648)] I I1 → (I1 143 n = a ∧ I1 144 n = d ∧ I1 145 n = nI m) → (∀ w, w < i → I1 (147 + n) w = (J 4 w).toInt32) → (∀ k, k < n → I1 143 k = I 143 k ∧ I1 144 k = I 144 k ∧ I1 145 k = I 145 k ∧ ∀ w, I1 (147 + k) w = I (147 + k) w) → V (nI m) (nI i) I1 J T := by
    intro m9
    induction m9 with
    | zero =>
      intro i I1 hi o q1 q2 q3
      have hi : i = m := by omega
      subst hi
      have e1 : I1 142 3 = nI n := by rw [fr_at 142 3 o rfl]; exact e
      apply hV
      unfold wb_X1_add_r4_34_c4
      rw [e1, nI_ap1, nI_1]
      refine ⟨fun q => absurd q (nI_nlt (Nat.le_refl _) (by omega)), fun _ => hP _ (fr_put rfl (fr_mono (by decide) o)) (by simp [u2_e, nI_1]) (by simpa [u2_e] using q1) (fun w hw => ?_) (fun k hk => ?_)⟩
      · rw [u2_c (by omega)]; exact q2 w hw
      · obtain ⟨f1, f2, f3, f6⟩ := q3 k hk
        refine ⟨by simpa [u2_e] using f1, by simpa [u2_e] using f2, by simpa [u2_e] using f3, fun w => ?_⟩
        rw [u2_c (by omega)]; exact f6 w
    | succ m9 ih =>
      intro i I1 hi o q1 q2 q3
      have e1 : I1 142 3 = nI n := by rw [fr_at 142 3 o rfl]; exact e
      apply hV
      unfold wb_X1_add_r4_34_c4
      rw [e1, re_146 hn, nI_clamp (show i < 2 ^ 31 by omega), nI_1]
      refine ⟨fun _ => ⟨fun _ => ⟨hin, nI_in2 (by omega) (by decide), nI_in2 (by omega) (by decide), ih (i + 1) _ (by omega) (fr_put (fr_in_row (a := 147) (b := 177) (List.mem_cons_of_mem _ (List.mem_cons_self ..)) (by omega) (by omega) (by omega)) o) ⟨?_, ?_, ?_⟩ (fun w hw => ?_) (fun k hk => ?_)⟩, fun q => absurd (nI_lt (a := i) (b := 5) (by omega) (by omega)) q⟩, fun q => absurd (nI_lt (by omega) (by omega)) q⟩
      · rw [u2_c (by omega)]; exact q1.1
      · rw [u2_c (by omega)]; exact q1.2.1
      · rw [u2_c (by omega)]; exact q1.2.2
      · by_cases e9 : w = i
        · subst e9; simp [u2_e]
        · rw [u2_j e9]; exact q2 w (by omega)
      · obtain ⟨f1, f2, f3, f6⟩ := q3 k hk
        refine ⟨?_, ?_, ?_, fun w => ?_⟩
        · rw [u2_c (by omega)]; exact f1
        · rw [u2_c (by omega)]; exact f2
        · rw [u2_c (by omega)]; exact f3
        · rw [u2_c (by omega)]; exact f6 w
  refine key m 0 _ (by omega) (fr_putn rfl (by omega) (fr_putn rfl (by omega) (fr_putn rfl (by omega) fr_refl))) (by simp [u2_e]) (fun w hw => by omega) (fun k hk => ?_)
  have hk : ¬ k = n := by omega
  refine ⟨by simp [u2_e, hk], by simp [u2_e, hk], by simp [u2_e, hk], fun w => ?_⟩
  rw [u2_c (by omega), u2_c (by omega), u2_c (by omega)]
theorem fn_badd_r5 {n m : Nat} {a d : Int32} (hn : n < 30) (hm : m ≤ 5) {I : Nat → Nat → Int32} {J : Nat → Nat → Int64} {T : Option Nat} {P : Int32 → (Nat → Nat → Int32) → (Nat → Nat → Int64) → Option Nat → Prop} (e : I 142 3 = nI n) (hP : ∀ I2, fr_off [(142, 143, 3, 4), (143, 146, 0, 2147483648), (147, 177, 0, 2147483648)] I I2 → I2 142 3 = nI (n + 1) → (I2 143 n = a ∧ I2 144 n = d ∧ I2 145 n = nI m) → (∀ w, w < m → I2 (147 + n) w = (J 5 w).toInt32) → (∀ k, k < n → I2 143 k = I 143 k ∧ I2 144 k = I 144 k ∧ I2 145 k = I 145 k ∧ ∀ w, I2 (147 + k) w = I (147 + k) w) → P (nI n) I2 J T) : wp_X1_add_r5 a (nI m) d I J T P := by
  have n5 : (nI n).toNatClampNeg = n := nI_clamp (by omega)
  have hin : ix_inb (nI n) 30 = true := nI_in2 hn (by decide)
  unfold wp_X1_add_r5
  rw [e, n5]
  refine ⟨hin, hin, hin, ?_⟩
  intro V hV
  have key : ∀ m9 i : Nat, ∀ I1 : Nat → Nat → Int32, i + m9 = m → fr_off [(143, 146, 0, 2147483648), (147, 177, 0, 2147483648)] I I1 → (I1 143 n = a ∧ I1 144 n = d ∧ I1 145 n = nI m) → (∀ w, w < i → I1 (147 + n) w = (J 5 w).toInt32) → (∀ k, k < n → I1 143 k = I 143 k ∧ I1 144 k = I 144 k ∧ I1 145 k = I 145 k ∧ ∀ w, I1 (147 + k) w = I (147 + k) w) → V (nI m) (nI i) I1 J T := by
    intro m9
    induction m9 with
    | zero =>
      intro i I1 hi o q1 q2 q3
      have hi : i = m := by omega
      subst hi
      have e1 : I1 142 3 = nI n := by rw [fr_at 142 3 o rfl]; exact e
      apply hV
      unfold wb_X1_add_r5_34_c5
      rw [e1, nI_ap1, nI_1]
      refine ⟨fun q => absurd q (nI_nlt (Nat.le_refl _) (by omega)), fun _ => hP _ (fr_put rfl (fr_mono (by decide) o)) (by simp [u2_e, nI_1]) (by simpa [u2_e] using q1) (fun w hw => ?_) (fun k hk => ?_)⟩
      · rw [u2_c (by omega)]; exact q2 w hw
      · obtain ⟨f1, f2, f3, f6⟩ := q3 k hk
        refine ⟨by simpa [u2_e] using f1, by simpa [u2_e] using f2, by simpa [u2_e] using f3, fun w => ?_⟩
        rw [u2_c (by omega)]; exact f6 w
    | succ m9 ih =>
      intro i I1 hi o q1 q2 q3
      have e1 : I1 142 3 = nI n := by rw [fr_at 142 3 o rfl]; exact e
      apply hV
      unfold wb_X1_add_r5_34_c5
      rw [e1, re_146 hn, nI_clamp (show i < 2 ^ 31 by omega), nI_1]
      refine ⟨fun _ => ⟨fun _ => ⟨hin, nI_in2 (by omega) (by decide), nI_in2 (by omega) (by decide), ih (i + 1) _ (by omega) (fr_put (fr_in_row (a := 147) (b := 177) (List.mem_cons_of_mem _ (List.mem_cons_self ..)) (by omega) (by omega) (by omega)) o) ⟨?_, ?_, ?_⟩ (fun w hw => ?_) (fun k hk => ?_)⟩, fun q => absurd (nI_lt (a := i) (b := 5) (by omega) (by omega)) q⟩, fun q => absurd (nI_lt (by omega) (by omega)) q⟩
      · rw [u2_c (by omega)]; exact q1.1
      · rw [u2_c (by omega)]; exact q1.2.1
      · rw [u2_c (by omega)]; exact q1.2.2
      · by_cases e9 : w = i
        · subst e9; simp [u2_e]
        · rw [u2_j e9]; exact q2 w (by omega)
      · obtain ⟨f1, f2, f3, f6⟩ := q3 k hk
        refine ⟨?_, ?_, ?_, fun w => ?_⟩
        · rw [u2_c (by omega)]; exact f1
        · rw [u2_c (by omega)]; exact f2
        · rw [u2_c (by omega)]; exact f3
        · rw [u2_c (by omega)]; exact f6 w
  refine key m 0 _ (by omega) (fr_putn rfl (by omega) (fr_putn rfl (by omega) (fr_putn rfl (by omega) fr_refl))) (by simp [u2_e]) (fun w hw => by omega) (fun k hk => ?_)
  have hk : ¬ k = n := by omega
  refine ⟨by simp [u2_e, hk], by simp [u2_e, hk], by simp [u2_e, hk], fun w => ?_⟩
  rw [u2_c (by omega), u2_c (by omega), u2_c (by omega)]
theorem fn_badd {t n m : Nat} {a d : Int32} (ht : t < 4) (hn : n < 30) (hm : m ≤ 5) {I : Nat → Nat → Int32} {J : Nat → Nat → Int64} {T : Option Nat} {P : Int32 → (Nat → Nat → Int32) → (Nat → Nat → Int64) → Option Nat → Prop} (e : I 142 3 = nI n) (hP : ∀ I2, fr_off [(142, 143, 3, 4), (143, 146, 0, 2147483648), (147, 177, 0, 2147483648)] I I2 → I2 142 3 = nI (n + 1) → (I2 143 n = a ∧ I2 144 n = d ∧ I2 145 n = nI m) → (∀ w, w < m → I2 (147 + n) w = (J (2 + t) w).toInt32) → (∀ k, k < n → I2 143 k = I 143 k ∧ I2 144 k = I 144 k ∧ I2 145 k = I 145 k ∧ ∀ w, I2 (147 + k) w = I (147 + k) w) → P (nI n) I2 J T) : (nI t = 0 → wp_X1_add_r2 a (nI m) d I J T P) ∧ (nI t = 1 → wp_X1_add_r3 a (nI m) d I J T P) ∧ (nI t = 2 → wp_X1_add_r4 a (nI m) d I J T P) ∧ (nI t = 3 → wp_X1_add_r5 a (nI m) d I J T P) := by
  refine ⟨fun z => ?_, fun z => ?_, fun z => ?_, fun z => ?_⟩
  · have z : t = 0 := (nI_eq (by omega) (by decide)).mp (z : nI t = nI 0)
    subst z; exact fn_badd_r2 hn hm e hP
  · have z : t = 1 := (nI_eq (by omega) (by decide)).mp (z : nI t = nI 1)
    subst z; exact fn_badd_r3 hn hm e hP
  · have z : t = 2 := (nI_eq (by omega) (by decide)).mp (z : nI t = nI 2)
    subst z; exact fn_badd_r4 hn hm e hP
  · have z : t = 3 := (nI_eq (by omega) (by decide)).mp (z : nI t = nI 3)
    subst z; exact fn_badd_r5 hn hm e hP
theorem fn_way {t m : Nat} {e : Nat → Nat} {g : Nat → Nat → Int32} (ht : t < 4) (hm : m ≤ 60) {I : Nat → Nat → Int32} {J : Nat → Nat → Int64} {T : Option Nat} {P : Int32 → (Nat → Nat → Int32) → (Nat → Nat → Int64) → Option Nat → Prop} (he : ∀ k, k < m → (J (2 + t) k).toInt32 = nI (e k) ∧ e k < 7) (hg : ∀ a b, a < 7 → b < 7 → I (13 + a) b = g a b ∧ ∃ d : Nat, d ≤ 60 ∧ g a b = nI d) (h1 : wy_ g e m → P 1 I J T) (h0 : ¬ wy_ g e m → P 0 I J T) : (nI t = 0 → wp_X5_isWay_r2 (nI m) I J T P) ∧ (nI t = 1 → wp_X5_isWay_r3 (nI m) I J T P) ∧ (nI t = 2 → wp_X5_isWay_r4 (nI m) I J T P) ∧ (nI t = 3 → wp_X5_isWay_r5 (nI m) I J T P) := by
  refine ⟨fun z => ?_, fun z => ?_, fun z => ?_, fun z => ?_⟩
  · have z : t = 0 := (nI_eq (by omega) (by decide)).mp (z : nI t = nI 0)
    subst z; exact fn_way_r2 hm he hg h1 h0
  · have z : t = 1 := (nI_eq (by omega) (by decide)).mp (z : nI t = nI 1)
    subst z; exact fn_way_r3 hm he hg h1 h0
  · have z : t = 2 := (nI_eq (by omega) (by decide)).mp (z : nI t = nI 2)
    subst z; exact fn_way_r4 hm he hg h1 h0
  · have z : t = 3 := (nI_eq (by omega) (by decide)).mp (z : nI t = nI 3)
    subst z; exact fn_way_r5 hm he hg h1 h0
theorem lp_b260 {t n m : Nat} {a d : Int32} (ht : t < 4) (hn : n < 30) (hm : m ≤ 5) {I : Nat → Nat → Int32} {J : Nat → Nat → Int64} {T : Option Nat} {P : Int32 → (Nat → Nat → Int32) → (Nat → Nat → Int64) → Option Nat → Prop} {V1 : Int32 → Int32 → Int32 → Int32 → Int32 → (Nat → Nat → Int32) → (Nat → Nat → Int64) → Option Nat → Prop} {V2 : Int32 → Int32 → Int32 → Int32 → Int32 → (Nat → Nat → Int32) → (Nat → Nat → Int64) → Option Nat → Prop} (e : I 204 81 = nI n) (hP : ∀ I2, fr_off [(204, 205, 0, 1), (204, 205, 81, 82), (259, 263, 0, 2147483648)] I I2 → I2 204 0 = 0 → I2 204 81 = nI (n + 1) → (I2 259 n = a ∧ I2 260 n = nI m ∧ I2 261 n = d) → (∀ w, w < m → I2 262 (5 * n + w) = (J 207 (60 * t + w)).toInt32) → (∀ k, k < n → I2 259 k = I 259 k ∧ I2 260 k = I 260 k ∧ I2 261 k = I 261 k) → (∀ k, k < 5 * n → I2 262 k = I 262 k) → P (nI n) I2 J T) : wl_X12_bag_260_78_137 a (nI t) (nI m) d 0 I J T V1 V2 P := by
  have n5 : (nI n).toNatClampNeg = n := nI_clamp (by omega)
  have hin : ix_inb (nI n) 30 = true := nI_in2 hn (by decide)
  intro V hV
  have key : ∀ m9 i : Nat, ∀ I1 : Nat → Nat → Int32, i + m9 = m → fr_off [(262, 263, 0, 2147483648)] I I1 → (∀ w, w < i → I1 262 (5 * n + w) = (J 207 (60 * t + w)).toInt32) → (∀ k, k < 5 * n → I1 262 k = I 262 k) → V a (nI t) (nI m) d (nI i) I1 J T := by
    intro m9
    induction m9 with
    | zero =>
      intro i I1 hi o q1 q2
      have hi : i = m := by omega
      subst hi
      have e1 : I1 204 81 = nI n := by rw [fr_at 204 81 o rfl]; exact e
      apply hV
      unfold wb_X12_bag_260_78_137 wp_X12_gives
      rw [e1, n5, nI_ap1, nI_1]
      refine ⟨fun q => absurd q (nI_nlt (Nat.le_refl _) (by omega)), fun _ => ⟨hin, hin, hin, hP _ (fr_put rfl (fr_put rfl (fr_putn rfl (by omega) (fr_putn rfl (by omega) (fr_putn rfl (by omega) (fr_mono (by decide) o)))))) (by simp [u2_e]) (by simp [u2_e, nI_1]) (by simp [u2_e]) (fun w hw => by simpa [u2_e] using q1 w hw) (fun k hk => ?_) (fun k hk => by simpa [u2_e] using q2 k hk)⟩⟩
      have hk9 : ¬ k = n := by omega
      simp [u2_e, hk9, fr_rw1 o 259 rfl, fr_rw1 o 260 rfl, fr_rw1 o 261 rfl]
    | succ m9 ih =>
      intro i I1 hi o q1 q2
      have e1 : I1 204 81 = nI n := by rw [fr_at 204 81 o rfl]; exact e
      apply hV
      unfold wb_X12_bag_260_78_137
      rw [e1, pr_60, pr_5, nI_clamp (show 60 * t + i < 2 ^ 31 by omega), nI_clamp (show 5 * n + i < 2 ^ 31 by omega), nI_1]
      refine ⟨fun _ => ⟨nI_in2 (by omega) (by decide), nI_in2 (by omega) (by decide), ih (i + 1) _ (by omega) (fr_putn rfl (by omega) o) (fun w hw => ?_) (fun k hk => ?_)⟩, fun q => absurd (nI_lt (by omega) (by omega)) q⟩
      · by_cases e9 : w = i
        · subst e9; simp [u2_e]
        · rw [u2_j (by omega)]; exact q1 w (by omega)
      · rw [u2_j (by omega)]; exact q2 k hk
  exact key m 0 I (by omega) fr_refl (fun w hw => by omega) (fun k hk => rfl)
theorem lp_b197 {t m k : Nat} {a d : Int32} {e : Nat → Nat} (ht : t < 4) (hm : m ≤ 5) (hk : k < m) {I : Nat → Nat → Int32} {J : Nat → Nat → Int64} {T : Option Nat} {P : Int32 → (Nat → Nat → Int32) → (Nat → Nat → Int64) → Option Nat → Prop} {V1 : Int32 → Int32 → Int32 → Int32 → Int32 → (Nat → Nat → Int32) → (Nat → Nat → Int64) → Option Nat → Prop} {V2 : Int32 → Int32 → Int32 → Int32 → Int32 → (Nat → Nat → Int32) → (Nat → Nat → Int64) → Option Nat → Prop} (he : ∀ k, k < m → (J 207 (60 * t + k)).toInt = (e k : Int) ∧ e k < 7) (h0 : (∃ j, j < k ∧ e j = e k) → P (-1) (ix_u2 I 204 0 6) J T) (h1 : (∀ j, j < k → e j ≠ e k) → V2 a (nI t) (nI m) d (nI (k + 1)) I J T) : wl_X12_bag_197_78_137 a (nI t) (nI m) d (nI k) (nI (e k)) 0 I J T V1 V2 P := by
  have ek := (he k hk).2
  intro V hV
  have key : ∀ m9 j : Nat, j + m9 = k → (∀ x, x < j → e x ≠ e k) → V a (nI t) (nI m) d (nI k) (nI (e k)) (nI j) I J T := by
    intro m9
    induction m9 with
    | zero =>
      intro j hj q
      have hj : j = k := by omega
      subst hj
      apply hV
      unfold wb_X12_bag_197_78_137
      simp only [nI_1]
      exact ⟨fun z => absurd z (nI_nlt (Nat.le_refl _) (by omega)), fun _ => h1 q⟩
    | succ m9 ih =>
      intro j hj q
      have ej := he j (by omega)
      have c : (J 207 (60 * t + j) = (nI (e k)).toInt64) ↔ e j = e k := by
        rw [← Int64.toInt_inj, Int32.toInt_toInt64, ej.1, nI_toInt (by omega)]
        omega
      apply hV
      unfold wb_X12_bag_197_78_137 wp_X12_refuse
      simp only [nI_1]
      rw [pr_60, nI_clamp (show 60 * t + j < 2 ^ 31 by omega), lgc_eq, c]
      exact ⟨fun _ => ⟨nI_in2 (by omega) (by decide), fun z => h0 ⟨j, by omega, z⟩, fun z => ih (j + 1) (by omega) (fun x hx => by
        by_cases c9 : x = j
        · subst c9; exact z
        · exact q x (by omega))⟩, fun z => absurd (nI_lt (by omega) (by omega)) z⟩
  exact key k 0 (by omega) (fun x hx => by omega)
theorem lp_b137 {t m n : Nat} {a d : Int32} {e : Nat → Nat} {g : Nat → Nat → Int32} (ht : t < 4) (hm : m ≤ 5) {I : Nat → Nat → Int32} {J : Nat → Nat → Int64} {T : Option Nat} {P : Int32 → (Nat → Nat → Int32) → (Nat → Nat → Int64) → Option Nat → Prop} {V1 : Int32 → Int32 → Int32 → Int32 → Int32 → (Nat → Nat → Int32) → (Nat → Nat → Int64) → Option Nat → Prop} (he : ∀ k, k < m → (J 207 (60 * t + k)).toInt = (e k : Int) ∧ e k < 7) (hg : ∀ a b, a < 7 → b < 7 → I 211 (7 * a + b) = g a b ∧ ∃ d : Nat, d ≤ 60 ∧ g a b = nI d) (en : I 204 81 = nI n) (h6 : ¬ wy_ g e m → P (-1) (ix_u2 I 204 0 6) J T) (h4 : wy_ g e m → nI n = 30 → P (-1) (ix_u2 I 204 0 4) J T) (h1 : wy_ g e m → ¬ nI n = 30 → ∀ V2, wl_X12_bag_260_78_137 a (nI t) (nI m) d 0 I J T V1 V2 P) : wl_X12_bag_137_78 a (nI t) (nI m) d 0 I J T V1 P := by
  intro V hV
  have key : ∀ m9 k : Nat, k + m9 = m → wy_ g e k → V a (nI t) (nI m) d (nI k) I J T := by
    intro m9
    induction m9 with
    | zero =>
      intro k hk hw
      have hk : k = m := by omega
      subst hk
      apply hV
      unfold wb_X12_bag_137_78 wp_X12_refuse
      rw [en]
      exact ⟨fun z => absurd z (nI_nlt (Nat.le_refl _) (by omega)), fun _ => ⟨fun z => h4 hw z, fun z => h1 hw z _⟩⟩
    | succ m9 ih =>
      intro k hk hw
      obtain ⟨ek, e7⟩ := he k (by omega)
      have k0 : nI k ≤ 0 ↔ k = 0 := by
        rw [show (0 : Int32) = nI 0 from rfl, nI_leI (by omega) (by omega)]
        omega
      have inner : (0 < k → 0 < (g (e (k - 1)) (e k)).toNatClampNeg) → wl_X12_bag_197_78_137 a (nI t) (nI m) d (nI k) (nI (e k)) 0 I J T V1 V P := fun q1 => lp_b197 ht hm (by omega) he (fun ⟨j, z1, z2⟩ => h6 (fun w => (w k (by omega)).2 j z1 z2)) (fun q2 => ih (k + 1) (by omega) (wy_s hw q1 q2))
      apply hV
      unfold wb_X12_bag_137_78 wp_X12_isRoad wp_X12_pair wp_X12_refuse
      dsimp only
      rw [pr_60, nI_clamp (show 60 * t + k < 2 ^ 31 by omega), l32 ek, k0]
      refine ⟨fun _ => ⟨nI_in2 (by omega) (by decide), fun z => inner (by omega), fun z => ?_⟩, fun z => absurd (nI_lt (by omega) (by omega)) z⟩
      obtain ⟨ep, p7⟩ := he (k - 1) (by omega)
      obtain ⟨g1, d9, gd, g2⟩ := hg (e (k - 1)) (e k) p7 e7
      have gc : (g (e (k - 1)) (e k)).toNatClampNeg = d9 := by rw [g2]; exact nI_clamp (by omega)
      have d0 : nI d9 ≤ 0 ↔ d9 = 0 := by
        rw [show (0 : Int32) = nI 0 from rfl, nI_leI (by omega) (by omega)]
        omega
      have ab : nI (e (k - 1)) = nI (e k) ↔ e (k - 1) = e k := nI_eq (by omega) (by omega)
      rw [nI_dec (by omega), show 60 * t + k - 1 = 60 * t + (k - 1) by omega, nI_clamp (show 60 * t + (k - 1) < 2 ^ 31 by omega), l32 ep, pr_7, nI_clamp (show 7 * e (k - 1) + e k < 2 ^ 31 by omega), g1, g2, d0, ab]
      refine ⟨nI_in2 (by omega) (by decide), fun y => ⟨fun _ => h6 (fun w => (w k (by omega)).2 (k - 1) (by omega) y), fun y => absurd rfl y⟩, fun y => ⟨nI_in2 (by omega) (by decide), fun x => ⟨fun _ => h6 (fun w => ?_), fun y => absurd rfl y⟩, fun x => ⟨fun y => absurd y (by decide), fun _ => inner (fun _ => by rw [gc]; omega)⟩⟩⟩
      have := (w k (by omega)).1 (by omega)
      rw [gc] at this
      omega
  exact key m 0 (by omega) (fun i hi => by omega)
theorem lp_b78 {t m n : Nat} {a d : Int32} (ht : t < 4) (hm : m ≤ 5) (hn : n ≤ 7) {I : Nat → Nat → Int32} {J : Nat → Nat → Int64} {T : Option Nat} {P : Int32 → (Nat → Nat → Int32) → (Nat → Nat → Int64) → Option Nat → Prop} (en : I 204 6 = nI n) (h0 : ¬ ok_ (fun k => J 207 (60 * t + k)) m ((n : Int) - 1) → P (-1) (ix_u2 I 204 0 1) J T) (h1 : ok_ (fun k => J 207 (60 * t + k)) m ((n : Int) - 1) → ∀ V1, wl_X12_bag_137_78 a (nI t) (nI m) d 0 I J T V1 P) : wl_X12_bag_78 a (nI t) (nI m) d 0 I J T P := by
  intro V hV
  have key : ∀ m9 i : Nat, i + m9 = m → ok_ (fun k => J 207 (60 * t + k)) i ((n : Int) - 1) → V a (nI t) (nI m) d (nI i) I J T := by
    intro m9
    induction m9 with
    | zero =>
      intro i hi ok
      have hi : i = m := by omega
      subst hi
      apply hV
      unfold wb_X12_bag_78
      exact ⟨fun q => absurd q (nI_nlt (Nat.le_refl _) (by omega)), fun _ => h1 ok _⟩
    | succ m9 ih =>
      intro i hi ok
      apply hV
      unfold wb_X12_bag_78 wp_X12_refuse
      rw [pr_60, nI_clamp (show 60 * t + i < 2 ^ 31 by omega), nI_1, en, lgc_lt, lgc_lt, Int64.lt_iff_toInt_lt, Int64.lt_iff_toInt_lt, Int32.toInt_toInt64, nI_toInt (show n < 2 ^ 31 by omega)]
      refine ⟨fun _ => ⟨nI_in2 (by omega) (by decide), fun z => ?_, fun z => ⟨nI_in2 (by omega) (by decide), fun z2 => ?_, fun z2 => ?_⟩⟩, fun q => absurd (nI_lt (by omega) (by omega)) q⟩
      · have z : (J 207 (60 * t + i)).toInt < 0 := z
        exact h0 (ok_n (i := i) (by omega) (by omega))
      · have z : ¬ (J 207 (60 * t + i)).toInt < 0 := z
        refine ih (i + 1) (by omega) (fun k hk => ?_)
        by_cases e : k = i
        · subst e; exact ⟨Int.not_lt.mp z, Int.le_sub_one_of_lt z2⟩
        · exact ok k (by omega)
      · exact h0 (ok_n (i := i) (by omega) (fun w => z2 (Int.lt_of_le_sub_one w.2)))
  exact key m 0 (by omega) (fun k hk => by omega)
