/-! flow -/
theorem l32 {x : Int64} {q : Nat} (h : x.toInt = (q : Int)) : x.toInt32 = nI q := by
  rw [lZ_of x, h, lZ_32]
  rfl
def ok_ (f : Nat → Int64) (c : Nat) (hi : Int) : Prop := ∀ k, k < c → 0 ≤ (f k).toInt ∧ (f k).toInt ≤ hi
theorem ok_n {f : Nat → Int64} {c i : Nat} {hi : Int} (h : i < c) (z : ¬ (0 ≤ (f i).toInt ∧ (f i).toInt ≤ hi)) : ¬ ok_ f c hi := fun q => z (q i h)
theorem fn_only {t c : Nat} {hi : Int32} (ht : t < 4) (hc : c ≤ 60) {I : Nat → Nat → Int32} {J : Nat → Nat → Int64} {T : Option Nat} {P : Int32 → (Nat → Nat → Int32) → (Nat → Nat → Int64) → Option Nat → Prop} (h1 : ok_ (J (2 + t)) c hi.toInt → P 1 I J T) (h0 : ¬ ok_ (J (2 + t)) c hi.toInt → P 0 I J T) : wp_X11_hasOnly (nI t) (nI c) hi I J T P := by
  unfold wp_X11_hasOnly
  intro V hV
  have key : ∀ m i : Nat, i + m = c → ok_ (J (2 + t)) i hi.toInt → V (nI t) (nI c) hi (nI i) I J T := by
    intro m
    induction m with
    | zero =>
      intro i hi9 ok
      have hi9 : i = c := by omega
      subst hi9
      apply hV
      unfold wb_X11_hasOnly_3
      exact ⟨fun q => absurd q (nI_nlt (Nat.le_refl _) (by omega)), fun _ => h1 ok⟩
    | succ m ih =>
      intro i hi9 ok
      apply hV
      unfold wb_X11_hasOnly_3 wp_X11_outside
      rw [re_1 ht, nI_clamp (show i < 2 ^ 31 by omega), nI_1, lgc_lt, lgc_le, Int64.lt_iff_toInt_lt, Int64.le_iff_toInt_le, Int32.toInt_toInt64]
      refine ⟨fun _ => ⟨nI_in2 ht (by decide), nI_in2 (by omega) (by decide), fun z => ⟨fun z => absurd z (by decide), fun _ => ?_⟩, fun z => ⟨fun z2 => ⟨fun _ => ?_, fun z => absurd rfl z⟩, fun z2 => ⟨fun z => absurd z (by decide), fun _ => ?_⟩⟩⟩, fun q => absurd (nI_lt (by omega) (by omega)) q⟩
      · have z : (J (2 + t) i).toInt < 0 := z
        exact h0 (ok_n (i := i) (by omega) (by omega))
      · have z : ¬ (J (2 + t) i).toInt < 0 := z
        refine ih (i + 1) (by omega) (fun k hk => ?_)
        by_cases e : k = i
        · subst e; omega
        · exact ok k (by omega)
      · exact h0 (ok_n (i := i) (by omega) (by omega))
  exact key c 0 (by omega) (fun k hk => by omega)
theorem fn_add_r2 {n : Nat} {a b c d : Int32} (hn : n < 8) {I : Nat → Nat → Int32} {J : Nat → Nat → Int64} {T : Option Nat} {P : Int32 → (Nat → Nat → Int32) → (Nat → Nat → Int64) → Option Nat → Prop} (e : I 106 0 = nI n) (hP : ∀ I2, fr_off [(106, 107, 0, 1), (107, 112, 0, 2147483648), (113, 121, 0, 2147483648)] I I2 → I2 106 0 = nI (n + 1) → (I2 107 n = a ∧ I2 108 n = b ∧ I2 109 n = c ∧ I2 110 n = d ∧ I2 111 n = sm_w (fun w => (J 2 w).toInt32) 52) → (∀ w, w < 52 → I2 (113 + n) w = (J 2 w).toInt32) → (∀ k, k < n → I2 107 k = I 107 k ∧ I2 108 k = I 108 k ∧ I2 109 k = I 109 k ∧ I2 110 k = I 110 k ∧ I2 111 k = I 111 k ∧ ∀ w, I2 (113 + k) w = I (113 + k) w) → P (nI n) I2 J T) : wp_X4_add_r2 a b c d I J T P := by
  have n5 : (nI n).toNatClampNeg = n := nI_clamp (by omega)
  have hin : ix_inb (nI n) 8 = true := nI_in2 hn (by decide)
  unfold wp_X4_add_r2
  rw [e, n5]
  refine ⟨hin, hin, hin, hin, ?_⟩
  intro V hV
  have key : ∀ m i : Nat, ∀ I1 : Nat → Nat → Int32, i + m = 52 → fr_off [(107, 112, 0, 2147483648), (113, 121, 0, 2147483648)] I I1 → (I1 107 n = a ∧ I1 108 n = b ∧ I1 109 n = c ∧ I1 110 n = d) → (∀ w, w < i → I1 (113 + n) w = (J 2 w).toInt32) → (∀ k, k < n → I1 107 k = I 107 k ∧ I1 108 k = I 108 k ∧ I1 109 k = I 109 k ∧ I1 110 k = I 110 k ∧ I1 111 k = I 111 k ∧ ∀ w, I1 (113 + k) w = I (113 + k) w) → V (sm_w (fun w => (J 2 w).toInt32) i) (nI i) I1 J T := by
    intro m
    induction m with
    | zero =>
      intro i I1 hi o q1 q2 q3
      have hi : i = 52 := by omega
      subst hi
      have e1 : I1 106 0 = nI n := by rw [fr_at 106 0 o rfl]; exact e
      apply hV
      unfold wb_X4_add_r2_47_c2
      rw [e1, n5, nI_ap1, nI_1]
      refine ⟨fun q => absurd q (by decide), fun _ => ⟨hin, hP _ (fr_put rfl (fr_putn rfl (by omega) (fr_mono (by decide) o))) (by simp [u2_e, nI_1]) ⟨by simpa [u2_e] using q1.1, by simpa [u2_e] using q1.2.1, by simpa [u2_e] using q1.2.2.1, by simpa [u2_e] using q1.2.2.2, by simp [u2_e]⟩ (fun w hw => ?_) (fun k hk => ?_)⟩⟩
      · rw [u2_c (by omega), u2_c (by omega)]; exact q2 w hw
      · obtain ⟨f1, f2, f3, f4, f5, f6⟩ := q3 k hk
        refine ⟨by simpa [u2_e] using f1, by simpa [u2_e] using f2, by simpa [u2_e] using f3, by simpa [u2_e] using f4, ?_, fun w => ?_⟩
        · rw [u2_c (by decide), u2_j (by omega)]; exact f5
        · rw [u2_c (by omega), u2_c (by omega)]; exact f6 w
    | succ m ih =>
      intro i I1 hi o q1 q2 q3
      have e1 : I1 106 0 = nI n := by rw [fr_at 106 0 o rfl]; exact e
      apply hV
      unfold wb_X4_add_r2_47_c2
      rw [e1, re_112 hn, nI_clamp (show i < 2 ^ 31 by omega), nI_1]
      refine ⟨fun _ => ⟨fun _ => ⟨hin, nI_in2 (by omega) (by decide), nI_in2 (by omega) (by decide), hin, nI_in2 (by omega) (by decide), ih (i + 1) _ (by omega) (fr_put (fr_in_row (a := 113) (b := 121) (List.mem_cons_of_mem _ (List.mem_cons_self ..)) (by omega) (by omega) (by omega)) o) ⟨?_, ?_, ?_, ?_⟩ (fun w hw => ?_) (fun k hk => ?_)⟩, fun q => absurd (nI_lt (a := i) (b := 60) (by omega) (by omega)) q⟩, fun q => absurd (nI_lt (a := i) (b := 52) (by omega) (by omega)) q⟩
      · rw [u2_c (by omega)]; exact q1.1
      · rw [u2_c (by omega)]; exact q1.2.1
      · rw [u2_c (by omega)]; exact q1.2.2.1
      · rw [u2_c (by omega)]; exact q1.2.2.2
      · by_cases e9 : w = i
        · subst e9; simp [u2_e]
        · rw [u2_j e9]; exact q2 w (by omega)
      · obtain ⟨f1, f2, f3, f4, f5, f6⟩ := q3 k hk
        refine ⟨?_, ?_, ?_, ?_, ?_, fun w => ?_⟩
        · rw [u2_c (by omega)]; exact f1
        · rw [u2_c (by omega)]; exact f2
        · rw [u2_c (by omega)]; exact f3
        · rw [u2_c (by omega)]; exact f4
        · rw [u2_c (by omega)]; exact f5
        · rw [u2_c (by omega)]; exact f6 w
  refine key 52 0 _ (by omega) (fr_putn rfl (by omega) (fr_putn rfl (by omega) (fr_putn rfl (by omega) (fr_putn rfl (by omega) fr_refl)))) (by simp [u2_e]) (fun w hw => by omega) (fun k hk => ?_)
  have hk : ¬ k = n := by omega
  refine ⟨by simp [u2_e, hk], by simp [u2_e, hk], by simp [u2_e, hk], by simp [u2_e, hk], by simp [u2_e], fun w => ?_⟩
  rw [u2_c (by omega), u2_c (by omega), u2_c (by omega), u2_c (by omega)]
theorem fn_add_r3 {n : Nat} {a b c d : Int32} (hn : n < 8) {I : Nat → Nat → Int32} {J : Nat → Nat → Int64} {T : Option Nat} {P : Int32 → (Nat → Nat → Int32) → (Nat → Nat → Int64) → Option Nat → Prop} (e : I 106 0 = nI n) (hP : ∀ I2, fr_off [(106, 107, 0, 1), (107, 112, 0, 2147483648), (113, 121, 0, 2147483648)] I I2 → I2 106 0 = nI (n + 1) → (I2 107 n = a ∧ I2 108 n = b ∧ I2 109 n = c ∧ I2 110 n = d ∧ I2 111 n = sm_w (fun w => (J 3 w).toInt32) 52) → (∀ w, w < 52 → I2 (113 + n) w = (J 3 w).toInt32) → (∀ k, k < n → I2 107 k = I 107 k ∧ I2 108 k = I 108 k ∧ I2 109 k = I 109 k ∧ I2 110 k = I 110 k ∧ I2 111 k = I 111 k ∧ ∀ w, I2 (113 + k) w = I (113 + k) w) → P (nI n) I2 J T) : wp_X4_add_r3 a b c d I J T P := by
  have n5 : (nI n).toNatClampNeg = n := nI_clamp (by omega)
  have hin : ix_inb (nI n) 8 = true := nI_in2 hn (by decide)
  unfold wp_X4_add_r3
  rw [e, n5]
  refine ⟨hin, hin, hin, hin, ?_⟩
  intro V hV
  have key : ∀ m i : Nat, ∀ I1 : Nat → Nat → Int32, i + m = 52 → fr_off [(107, 112, 0, 2147483648), (113, 121, 0, 2147483648)] I I1 → (I1 107 n = a ∧ I1 108 n = b ∧ I1 109 n = c ∧ I1 110 n = d) → (∀ w, w < i → I1 (113 + n) w = (J 3 w).toInt32) → (∀ k, k < n → I1 107 k = I 107 k ∧ I1 108 k = I 108 k ∧ I1 109 k = I 109 k ∧ I1 110 k = I 110 k ∧ I1 111 k = I 111 k ∧ ∀ w, I1 (113 + k) w = I (113 + k) w) → V (sm_w (fun w => (J 3 w).toInt32) i) (nI i) I1 J T := by
    intro m
    induction m with
    | zero =>
      intro i I1 hi o q1 q2 q3
      have hi : i = 52 := by omega
      subst hi
      have e1 : I1 106 0 = nI n := by rw [fr_at 106 0 o rfl]; exact e
      apply hV
      unfold wb_X4_add_r3_47_c3
      rw [e1, n5, nI_ap1, nI_1]
      refine ⟨fun q => absurd q (by decide), fun _ => ⟨hin, hP _ (fr_put rfl (fr_putn rfl (by omega) (fr_mono (by decide) o))) (by simp [u2_e, nI_1]) ⟨by simpa [u2_e] using q1.1, by simpa [u2_e] using q1.2.1, by simpa [u2_e] using q1.2.2.1, by simpa [u2_e] using q1.2.2.2, by simp [u2_e]⟩ (fun w hw => ?_) (fun k hk => ?_)⟩⟩
      · rw [u2_c (by omega), u2_c (by omega)]; exact q2 w hw
      · obtain ⟨f1, f2, f3, f4, f5, f6⟩ := q3 k hk
        refine ⟨by simpa [u2_e] using f1, by simpa [u2_e] using f2, by simpa [u2_e] using f3, by simpa [u2_e] using f4, ?_, fun w => ?_⟩
        · rw [u2_c (by decide), u2_j (by omega)]; exact f5
        · rw [u2_c (by omega), u2_c (by omega)]; exact f6 w
    | succ m ih =>
      intro i I1 hi o q1 q2 q3
      have e1 : I1 106 0 = nI n := by rw [fr_at 106 0 o rfl]; exact e
      apply hV
      unfold wb_X4_add_r3_47_c3
      rw [e1, re_112 hn, nI_clamp (show i < 2 ^ 31 by omega), nI_1]
      refine ⟨fun _ => ⟨fun _ => ⟨hin, nI_in2 (by omega) (by decide), nI_in2 (by omega) (by decide), hin, nI_in2 (by omega) (by decide), ih (i + 1) _ (by omega) (fr_put (fr_in_row (a := 113) (b := 121) (List.mem_cons_of_mem _ (List.mem_cons_self ..)) (by omega) (by omega) (by omega)) o) ⟨?_, ?_, ?_, ?_⟩ (fun w hw => ?_) (fun k hk => ?_)⟩, fun q => absurd (nI_lt (a := i) (b := 60) (by omega) (by omega)) q⟩, fun q => absurd (nI_lt (a := i) (b := 52) (by omega) (by omega)) q⟩
      · rw [u2_c (by omega)]; exact q1.1
      · rw [u2_c (by omega)]; exact q1.2.1
      · rw [u2_c (by omega)]; exact q1.2.2.1
      · rw [u2_c (by omega)]; exact q1.2.2.2
      · by_cases e9 : w = i
        · subst e9; simp [u2_e]
        · rw [u2_j e9]; exact q2 w (by omega)
      · obtain ⟨f1, f2, f3, f4, f5, f6⟩ := q3 k hk
        refine ⟨?_, ?_, ?_, ?_, ?_, fun w => ?_⟩
        · rw [u2_c (by omega)]; exact f1
        · rw [u2_c (by omega)]; exact f2
        · rw [u2_c (by omega)]; exact f3
        · rw [u2_c (by omega)]; exact f4
        · rw [u2_c (by omega)]; exact f5
        · rw [u2_c (by omega)]; exact f6 w
  refine key 52 0 _ (by omega) (fr_putn rfl (by omega) (fr_putn rfl (by omega) (fr_putn rfl (by omega) (fr_putn rfl (by omega) fr_refl)))) (by simp [u2_e]) (fun w hw => by omega) (fun k hk => ?_)
  have hk : ¬ k = n := by omega
  refine ⟨by simp [u2_e, hk], by simp [u2_e, hk], by simp [u2_e, hk], by simp [u2_e, hk], by simp [u2_e], fun w => ?_⟩
  rw [u2_c (by omega), u2_c (by omega), u2_c (by omega), u2_c (by omega)]
theorem fn_add_r4 {n : Nat} {a b c d : Int32} (hn : n < 8) {I : Nat → Nat → Int32} {J : Nat → Nat → Int64} {T : Option Nat} {P : Int32 → (Nat → Nat → Int32) → (Nat → Nat → Int64) → Option Nat → Prop} (e : I 106 0 = nI n) (hP : ∀ I2, fr_off [(106, 107, 0, 1), (107, 112, 0, 2147483648), (113, 121, 0, 2147483648)] I I2 → I2 106 0 = nI (n + 1) → (I2 107 n = a ∧ I2 108 n = b ∧ I2 109 n = c ∧ I2 110 n = d ∧ I2 111 n = sm_w (fun w => (J 4 w).toInt32) 52) → (∀ w, w < 52 → I2 (113 + n) w = (J 4 w).toInt32) → (∀ k, k < n → I2 107 k = I 107 k ∧ I2 108 k = I 108 k ∧ I2 109 k = I 109 k ∧ I2 110 k = I 110 k ∧ I2 111 k = I 111 k ∧ ∀ w, I2 (113 + k) w = I (113 + k) w) → P (nI n) I2 J T) : wp_X4_add_r4 a b c d I J T P := by
  have n5 : (nI n).toNatClampNeg = n := nI_clamp (by omega)
  have hin : ix_inb (nI n) 8 = true := nI_in2 hn (by decide)
  unfold wp_X4_add_r4
  rw [e, n5]
  refine ⟨hin, hin, hin, hin, ?_⟩
  intro V hV
  have key : ∀ m i : Nat, ∀ I1 : Nat → Nat → Int32, i + m = 52 → fr_off [(107, 112, 0, 2147483648), (113, 121, 0, 2147483648)] I I1 → (I1 107 n = a ∧ I1 108 n = b ∧ I1 109 n = c ∧ I1 110 n = d) → (∀ w, w < i → I1 (113 + n) w = (J 4 w).toInt32) → (∀ k, k < n → I1 107 k = I 107 k ∧ I1 108 k = I 108 k ∧ I1 109 k = I 109 k ∧ I1 110 k = I 110 k ∧ I1 111 k = I 111 k ∧ ∀ w, I1 (113 + k) w = I (113 + k) w) → V (sm_w (fun w => (J 4 w).toInt32) i) (nI i) I1 J T := by
    intro m
    induction m with
    | zero =>
      intro i I1 hi o q1 q2 q3
      have hi : i = 52 := by omega
      subst hi
      have e1 : I1 106 0 = nI n := by rw [fr_at 106 0 o rfl]; exact e
      apply hV
      unfold wb_X4_add_r4_47_c4
      rw [e1, n5, nI_ap1, nI_1]
      refine ⟨fun q => absurd q (by decide), fun _ => ⟨hin, hP _ (fr_put rfl (fr_putn rfl (by omega) (fr_mono (by decide) o))) (by simp [u2_e, nI_1]) ⟨by simpa [u2_e] using q1.1, by simpa [u2_e] using q1.2.1, by simpa [u2_e] using q1.2.2.1, by simpa [u2_e] using q1.2.2.2, by simp [u2_e]⟩ (fun w hw => ?_) (fun k hk => ?_)⟩⟩
      · rw [u2_c (by omega), u2_c (by omega)]; exact q2 w hw
      · obtain ⟨f1, f2, f3, f4, f5, f6⟩ := q3 k hk
        refine ⟨by simpa [u2_e] using f1, by simpa [u2_e] using f2, by simpa [u2_e] using f3, by simpa [u2_e] using f4, ?_, fun w => ?_⟩
        · rw [u2_c (by decide), u2_j (by omega)]; exact f5
        · rw [u2_c (by omega), u2_c (by omega)]; exact f6 w
    | succ m ih =>
      intro i I1 hi o q1 q2 q3
      have e1 : I1 106 0 = nI n := by rw [fr_at 106 0 o rfl]; exact e
      apply hV
      unfold wb_X4_add_r4_47_c4
      rw [e1, re_112 hn, nI_clamp (show i < 2 ^ 31 by omega), nI_1]
      refine ⟨fun _ => ⟨fun _ => ⟨hin, nI_in2 (by omega) (by decide), nI_in2 (by omega) (by decide), hin, nI_in2 (by omega) (by decide), ih (i + 1) _ (by omega) (fr_put (fr_in_row (a := 113) (b := 121) (List.mem_cons_of_mem _ (List.mem_cons_self ..)) (by omega) (by omega) (by omega)) o) ⟨?_, ?_, ?_, ?_⟩ (fun w hw => ?_) (fun k hk => ?_)⟩, fun q => absurd (nI_lt (a := i) (b := 60) (by omega) (by omega)) q⟩, fun q => absurd (nI_lt (a := i) (b := 52) (by omega) (by omega)) q⟩
      · rw [u2_c (by omega)]; exact q1.1
      · rw [u2_c (by omega)]; exact q1.2.1
      · rw [u2_c (by omega)]; exact q1.2.2.1
      · rw [u2_c (by omega)]; exact q1.2.2.2
      · by_cases e9 : w = i
        · subst e9; simp [u2_e]
        · rw [u2_j e9]; exact q2 w (by omega)
      · obtain ⟨f1, f2, f3, f4, f5, f6⟩ := q3 k hk
        refine ⟨?_, ?_, ?_, ?_, ?_, fun w => ?_⟩
        · rw [u2_c (by omega)]; exact f1
        · rw [u2_c (by omega)]; exact f2
        · rw [u2_c (by omega)]; exact f3
        · rw [u2_c (by omega)]; exact f4
        · rw [u2_c (by omega)]; exact f5
        · rw [u2_c (by omega)]; exact f6 w
  refine key 52 0 _ (by omega) (fr_putn rfl (by omega) (fr_putn rfl (by omega) (fr_putn rfl (by omega) (fr_putn rfl (by omega) fr_refl)))) (by simp [u2_e]) (fun w hw => by omega) (fun k hk => ?_)
  have hk : ¬ k = n := by omega
  refine ⟨by simp [u2_e, hk], by simp [u2_e, hk], by simp [u2_e, hk], by simp [u2_e, hk], by simp [u2_e], fun w => ?_⟩
  rw [u2_c (by omega), u2_c (by omega), u2_c (by omega), u2_c (by omega)]
theorem fn_add_r5 {n : Nat} {a b c d : Int32} (hn : n < 8) {I : Nat → Nat → Int32} {J : Nat → Nat → Int64} {T : Option Nat} {P : Int32 → (Nat → Nat → Int32) → (Nat → Nat → Int64) → Option Nat → Prop} (e : I 106 0 = nI n) (hP : ∀ I2, fr_off [(106, 107, 0, 1), (107, 112, 0, 2147483648), (113, 121, 0, 2147483648)] I I2 → I2 106 0 = nI (n + 1) → (I2 107 n = a ∧ I2 108 n = b ∧ I2 109 n = c ∧ I2 110 n = d ∧ I2 111 n = sm_w (fun w => (J 5 w).toInt32) 52) → (∀ w, w < 52 → I2 (113 + n) w = (J 5 w).toInt32) → (∀ k, k < n → I2 107 k = I 107 k ∧ I2 108 k = I 108 k ∧ I2 109 k = I 109 k ∧ I2 110 k = I 110 k ∧ I2 111 k = I 111 k ∧ ∀ w, I2 (113 + k) w = I (113 + k) w) → P (nI n) I2 J T) : wp_X4_add_r5 a b c d I J T P := by
  have n5 : (nI n).toNatClampNeg = n := nI_clamp (by omega)
  have hin : ix_inb (nI n) 8 = true := nI_in2 hn (by decide)
  unfold wp_X4_add_r5
  rw [e, n5]
  refine ⟨hin, hin, hin, hin, ?_⟩
  intro V hV
  have key : ∀ m i : Nat, ∀ I1 : Nat → Nat → Int32, i + m = 52 → fr_off [(107, 112, 0, 2147483648), (113, 121, 0, 2147483648)] I I1 → (I1 107 n = a ∧ I1 108 n = b ∧ I1 109 n = c ∧ I1 110 n = d) → (∀ w, w < i → I1 (113 + n) w = (J 5 w).toInt32) → (∀ k, k < n → I1 107 k = I 107 k ∧ I1 108 k = I 108 k ∧ I1 109 k = I 109 k ∧ I1 110 k = I 110 k ∧ I1 111 k = I 111 k ∧ ∀ w, I1 (113 + k) w = I (113 + k) w) → V (sm_w (fun w => (J 5 w).toInt32) i) (nI i) I1 J T := by
    intro m
    induction m with
    | zero =>
      intro i I1 hi o q1 q2 q3
      have hi : i = 52 := by omega
      subst hi
      have e1 : I1 106 0 = nI n := by rw [fr_at 106 0 o rfl]; exact e
      apply hV
      unfold wb_X4_add_r5_47_c5
      rw [e1, n5, nI_ap1, nI_1]
      refine ⟨fun q => absurd q (by decide), fun _ => ⟨hin, hP _ (fr_put rfl (fr_putn rfl (by omega) (fr_mono (by decide) o))) (by simp [u2_e, nI_1]) ⟨by simpa [u2_e] using q1.1, by simpa [u2_e] using q1.2.1, by simpa [u2_e] using q1.2.2.1, by simpa [u2_e] using q1.2.2.2, by simp [u2_e]⟩ (fun w hw => ?_) (fun k hk => ?_)⟩⟩
      · rw [u2_c (by omega), u2_c (by omega)]; exact q2 w hw
      · obtain ⟨f1, f2, f3, f4, f5, f6⟩ := q3 k hk
        refine ⟨by simpa [u2_e] using f1, by simpa [u2_e] using f2, by simpa [u2_e] using f3, by simpa [u2_e] using f4, ?_, fun w => ?_⟩
        · rw [u2_c (by decide), u2_j (by omega)]; exact f5
        · rw [u2_c (by omega), u2_c (by omega)]; exact f6 w
    | succ m ih =>
      intro i I1 hi o q1 q2 q3
      have e1 : I1 106 0 = nI n := by rw [fr_at 106 0 o rfl]; exact e
      apply hV
      unfold wb_X4_add_r5_47_c5
      rw [e1, re_112 hn, nI_clamp (show i < 2 ^ 31 by omega), nI_1]
      refine ⟨fun _ => ⟨fun _ => ⟨hin, nI_in2 (by omega) (by decide), nI_in2 (by omega) (by decide), hin, nI_in2 (by omega) (by decide), ih (i + 1) _ (by omega) (fr_put (fr_in_row (a := 113) (b := 121) (List.mem_cons_of_mem _ (List.mem_cons_self ..)) (by omega) (by omega) (by omega)) o) ⟨?_, ?_, ?_, ?_⟩ (fun w hw => ?_) (fun k hk => ?_)⟩, fun q => absurd (nI_lt (a := i) (b := 60) (by omega) (by omega)) q⟩, fun q => absurd (nI_lt (a := i) (b := 52) (by omega) (by omega)) q⟩
      · rw [u2_c (by omega)]; exact q1.1
      · rw [u2_c (by omega)]; exact q1.2.1
      · rw [u2_c (by omega)]; exact q1.2.2.1
      · rw [u2_c (by omega)]; exact q1.2.2.2
      · by_cases e9 : w = i
        · subst e9; simp [u2_e]
        · rw [u2_j e9]; exact q2 w (by omega)
      · obtain ⟨f1, f2, f3, f4, f5, f6⟩ := q3 k hk
        refine ⟨?_, ?_, ?_, ?_, ?_, fun w => ?_⟩
        · rw [u2_c (by omega)]; exact f1
        · rw [u2_c (by omega)]; exact f2
        · rw [u2_c (by omega)]; exact f3
        · rw [u2_c (by omega)]; exact f4
        · rw [u2_c (by omega)]; exact f5
        · rw [u2_c (by omega)]; exact f6 w
  refine key 52 0 _ (by omega) (fr_putn rfl (by omega) (fr_putn rfl (by omega) (fr_putn rfl (by omega) (fr_putn rfl (by omega) fr_refl)))) (by simp [u2_e]) (fun w hw => by omega) (fun k hk => ?_)
  have hk : ¬ k = n := by omega
  refine ⟨by simp [u2_e, hk], by simp [u2_e, hk], by simp [u2_e, hk], by simp [u2_e, hk], by simp [u2_e], fun w => ?_⟩
  rw [u2_c (by omega), u2_c (by omega), u2_c (by omega), u2_c (by omega)]
theorem fn_add {t n : Nat} {a b c d : Int32} (ht : t < 4) (hn : n < 8) {I : Nat → Nat → Int32} {J : Nat → Nat → Int64} {T : Option Nat} {P : Int32 → (Nat → Nat → Int32) → (Nat → Nat → Int64) → Option Nat → Prop} (e : I 106 0 = nI n) (hP : ∀ I2, fr_off [(106, 107, 0, 1), (107, 112, 0, 2147483648), (113, 121, 0, 2147483648)] I I2 → I2 106 0 = nI (n + 1) → (I2 107 n = a ∧ I2 108 n = b ∧ I2 109 n = c ∧ I2 110 n = d ∧ I2 111 n = sm_w (fun w => (J (2 + t) w).toInt32) 52) → (∀ w, w < 52 → I2 (113 + n) w = (J (2 + t) w).toInt32) → (∀ k, k < n → I2 107 k = I 107 k ∧ I2 108 k = I 108 k ∧ I2 109 k = I 109 k ∧ I2 110 k = I 110 k ∧ I2 111 k = I 111 k ∧ ∀ w, I2 (113 + k) w = I (113 + k) w) → P (nI n) I2 J T) : (nI t = 0 → wp_X4_add_r2 a b c d I J T P) ∧ (nI t = 1 → wp_X4_add_r3 a b c d I J T P) ∧ (nI t = 2 → wp_X4_add_r4 a b c d I J T P) ∧ (nI t = 3 → wp_X4_add_r5 a b c d I J T P) := by
  refine ⟨fun z => ?_, fun z => ?_, fun z => ?_, fun z => ?_⟩
  · have z : t = 0 := (nI_eq (by omega) (by decide)).mp (z : nI t = nI 0)
    subst z; exact fn_add_r2 hn e hP
  · have z : t = 1 := (nI_eq (by omega) (by decide)).mp (z : nI t = nI 1)
    subst z; exact fn_add_r3 hn e hP
  · have z : t = 2 := (nI_eq (by omega) (by decide)).mp (z : nI t = nI 2)
    subst z; exact fn_add_r4 hn e hP
  · have z : t = 3 := (nI_eq (by omega) (by decide)).mp (z : nI t = nI 3)
    subst z; exact fn_add_r5 hn e hP
theorem lp_flow2 {t n : Nat} {a b c d : Int32} (ht : t < 4) (hn : n < 8) {I : Nat → Nat → Int32} {J : Nat → Nat → Int64} {T : Option Nat} {P : Int32 → (Nat → Nat → Int32) → (Nat → Nat → Int64) → Option Nat → Prop} {V9 : Int32 → Int32 → Int32 → Int32 → Int32 → Int32 → (Nat → Nat → Int32) → (Nat → Nat → Int64) → Option Nat → Prop} (e : I 204 65 = nI n) (hP : ∀ I2, fr_off [(204, 205, 0, 1), (204, 205, 65, 66), (247, 252, 0, 2147483648)] I I2 → I2 204 0 = 0 → I2 204 65 = nI (n + 1) → (I2 247 n = a ∧ I2 248 n = b ∧ I2 249 n = c ∧ I2 250 n = d) → (∀ w, w < 52 → I2 251 (52 * n + w) = (J 207 (60 * t + w)).toInt32) → (∀ k, k < n → I2 247 k = I 247 k ∧ I2 248 k = I 248 k ∧ I2 249 k = I 249 k ∧ I2 250 k = I 250 k) → (∀ k, k < 52 * n → I2 251 k = I 251 k) → P (nI n) I2 J T) : wl_X12_flow_158_83 a b c d (nI t) 0 I J T V9 P := by
  have n5 : (nI n).toNatClampNeg = n := nI_clamp (by omega)
  have hin : ix_inb (nI n) 8 = true := nI_in2 hn (by decide)
  intro V hV
  have key : ∀ m i : Nat, ∀ I1 : Nat → Nat → Int32, i + m = 52 → fr_off [(251, 252, 0, 2147483648)] I I1 → (∀ w, w < i → I1 251 (52 * n + w) = (J 207 (60 * t + w)).toInt32) → (∀ k, k < 52 * n → I1 251 k = I 251 k) → V a b c d (nI t) (nI i) I1 J T := by
    intro m
    induction m with
    | zero =>
      intro i I1 hi o q1 q2
      have hi : i = 52 := by omega
      subst hi
      have e1 : I1 204 65 = nI n := by rw [fr_at 204 65 o rfl]; exact e
      apply hV
      unfold wb_X12_flow_158_83 wp_X12_gives
      rw [e1, n5, nI_ap1, nI_1]
      refine ⟨fun q => absurd q (by decide), fun _ => ⟨hin, hin, hin, hin, hP _ (fr_put rfl (fr_put rfl (fr_putn rfl (by omega) (fr_putn rfl (by omega) (fr_putn rfl (by omega) (fr_putn rfl (by omega) (fr_mono (by decide) o))))))) (by simp [u2_e]) (by simp [u2_e, nI_1]) (by simp [u2_e]) (fun w hw => by simpa [u2_e] using q1 w hw) (fun k hk => ?_) (fun k hk => by simpa [u2_e] using q2 k hk)⟩⟩
      have hk9 : ¬ k = n := by omega
      simp [u2_e, hk9, fr_rw1 o 247 rfl, fr_rw1 o 248 rfl, fr_rw1 o 249 rfl, fr_rw1 o 250 rfl]
    | succ m ih =>
      intro i I1 hi o q1 q2
      have e1 : I1 204 65 = nI n := by rw [fr_at 204 65 o rfl]; exact e
      apply hV
      unfold wb_X12_flow_158_83
      rw [e1, pr_60, pr_52, nI_clamp (show 60 * t + i < 2 ^ 31 by omega), nI_clamp (show 52 * n + i < 2 ^ 31 by omega), nI_1]
      refine ⟨fun _ => ⟨nI_in2 (by omega) (by decide), nI_in2 (by omega) (by decide), ih (i + 1) _ (by omega) (fr_putn rfl (by omega) o) (fun w hw => ?_) (fun k hk => ?_)⟩, fun q => absurd (nI_lt (a := i) (b := 52) (by omega) (by omega)) q⟩
      · by_cases e9 : w = i
        · subst e9; simp [u2_e]
        · rw [u2_j (by omega)]; exact q1 w (by omega)
      · rw [u2_j (by omega)]; exact q2 k hk
  exact key 52 0 I (by omega) fr_refl (fun w hw => by omega) (fun k hk => rfl)
theorem lp_flow1 {t : Nat} {a b c d : Int32} (ht : t < 4) {I : Nat → Nat → Int32} {J : Nat → Nat → Int64} {T : Option Nat} {P : Int32 → (Nat → Nat → Int32) → (Nat → Nat → Int64) → Option Nat → Prop} (h0 : ¬ ok_ (fun k => J 207 (60 * t + k)) 52 10000 → P (-1) (ix_u2 I 204 0 1) J T) (h4 : ok_ (fun k => J 207 (60 * t + k)) 52 10000 → I 204 65 = 8 → P (-1) (ix_u2 I 204 0 4) J T) (h1 : ok_ (fun k => J 207 (60 * t + k)) 52 10000 → ¬ I 204 65 = 8 → ∀ V9, wl_X12_flow_158_83 a b c d (nI t) 0 I J T V9 P) : wl_X12_flow_83 a b c d (nI t) 0 I J T P := by
  intro V hV
  have key : ∀ m i : Nat, i + m = 52 → ok_ (fun k => J 207 (60 * t + k)) i 10000 → V a b c d (nI t) (nI i) I J T := by
    intro m
    induction m with
    | zero =>
      intro i hi ok
      have hi : i = 52 := by omega
      subst hi
      apply hV
      unfold wb_X12_flow_83 wp_X12_refuse
      exact ⟨fun q => absurd q (by decide), fun _ => ⟨fun z => h4 ok z, fun z => h1 ok z _⟩⟩
    | succ m ih =>
      intro i hi ok
      apply hV
      unfold wb_X12_flow_83 wp_X12_refuse
      rw [pr_60, nI_clamp (show 60 * t + i < 2 ^ 31 by omega), nI_1, lgc_lt, lgc_le, Int64.lt_iff_toInt_lt, Int64.le_iff_toInt_le]
      refine ⟨fun _ => ⟨nI_in2 (by omega) (by decide), fun z => ?_, fun z => ⟨nI_in2 (by omega) (by decide), fun z2 => ?_, fun z2 => ?_⟩⟩, fun q => absurd (nI_lt (a := i) (b := 52) (by omega) (by omega)) q⟩
      · have z : (J 207 (60 * t + i)).toInt < 0 := z
        exact h0 (ok_n (i := i) (by omega) (by omega))
      · have z : ¬ (J 207 (60 * t + i)).toInt < 0 := z
        have z2 : (J 207 (60 * t + i)).toInt ≤ 10000 := z2
        refine ih (i + 1) (by omega) (fun k hk => ?_)
        by_cases e : k = i
        · subst e; exact ⟨Int.not_lt.mp z, z2⟩
        · exact ok k (by omega)
      · have z2 : ¬ (J 207 (60 * t + i)).toInt ≤ 10000 := z2
        exact h0 (ok_n (i := i) (by omega) (by omega))
  exact key 52 0 (by omega) (fun k hk => by omega)
