theorem lp_p35 {x y a : Nat} {L : Nat → Int} (hx : x < 7) (hy : y < 7) (ha : a ≤ x) (hL : bd_ L) {I : Nat → Nat → Int32} {J : Nat → Nat → Int64} {T : Option Nat} {P : Int64 → (Nat → Nat → Int32) → (Nat → Nat → Int64) → Option Nat → Prop} {J0 : Nat → Nat → Int64} {V2 : Int32 → Int32 → Int32 → (Nat → Nat → Int32) → (Nat → Nat → Int64) → Option Nat → Prop} {V27 : Int32 → Int32 → Int32 → (Nat → Nat → Int32) → (Nat → Nat → Int64) → Option Nat → Prop} (o0 : fr_off [(141, 142, 0, 2147483648)] J J0) (q0 : ∀ k, k < 7 → J0 141 k = lZ (pl_ L (7 * a) k)) (hP : ∀ J2, fr_off [(141, 142, 0, 2147483648)] J J2 → P (lZ (ps_ L (7 * x + y))) I J2 T) (nx : ∀ J2, fr_off [(141, 142, 0, 2147483648)] J J2 → (∀ k, k < 7 → J2 141 k = lZ (pl_ L (7 * (a + 1)) k)) → (a = x → ps_ L (7 * x + y) = 0) → V27 (nI x) (nI y) (nI (a + 1)) I J2 T) : wl_X0_clearedPayment_35_2_27 (nI x) (nI y) (nI a) 0 I J0 T V2 V27 P := by
  have fa : ix_inb (nI a) 7 = true := nI_in2 (by omega) (by decide)
  have a5 : (nI a).toNatClampNeg = a := nI_clamp (by omega)
  intro V hV
  have key : ∀ m b : Nat, ∀ J1 : Nat → Nat → Int64, b + m = 7 → fr_off [(141, 142, 0, 2147483648)] J J1 → (∀ k, k < 7 → J1 141 k = lZ (pl_ L (7 * a + b) k)) → (a = x → b ≤ y) → V (nI x) (nI y) (nI a) (nI b) I J1 T := by
    intro m
    induction m with
    | zero =>
      intro b J1 hb o q hy9
      have hb : b = 7 := by omega
      subst hb
      apply hV
      unfold wb_X0_clearedPayment_35_2_27
      simp only [nI_1]
      exact ⟨fun z => absurd z (by decide), fun _ => nx J1 o q (fun w => by have := hy9 w; omega)⟩
    | succ m ih =>
      intro b J1 hb o q hy9
      have hb7 : b < 7 := by omega
      have fb : ix_inb (nI b) 7 = true := nI_in2 hb7 (by decide)
      have b5 : (nI b).toNatClampNeg = b := nI_clamp (by omega)
      have bL := pl_bd hL (7 * a + b) (by omega)
      have la := bL a (by omega)
      have lb := bL b hb7
      have e1 : (7 * a + b) / 7 = a := by omega
      have e2 : (7 * a + b) % 7 = b := by omega
      have eP : ps_ L (7 * a + b) = pp_ (pl_ L (7 * a + b)) a b := by unfold ps_; rw [e1, e2]
      have ax : nI a = nI x ↔ a = x := nI_eq (by omega) (by omega)
      have b9 : nI b = nI y ↔ b = y := nI_eq (by omega) (by omega)
      apply hV
      unfold wb_X0_clearedPayment_35_2_27
      simp only [nI_1, a5, b5]
      rw [q a (by omega), q b hb7, lgc_lt, show (0 : Int64) = lZ 0 from rfl, lZ_lt (by omega) (by omega)]
      refine ⟨fun _ => ⟨fa, fun z => ⟨fa, fb, fn_mm (x := pl_ L (7 * a + b) a) (by omega) lb ?_⟩, fun z => ?_⟩, fun z => absurd (nI_lt (a := b) (b := 7) (by omega) (by omega)) z⟩
      · have eV : (if pl_ L (7 * a + b) a < 0 ∧ 0 < pl_ L (7 * a + b) b then min (-pl_ L (7 * a + b) a) (pl_ L (7 * a + b) b) else 0) = ps_ L (7 * a + b) := by rw [eP]; rfl
        rw [eV, ax, b9]
        have go : ¬ (a = x ∧ b = y) → V (nI x) (nI y) (nI a) (nI (b + 1)) I (ix_u2 (ix_u2 J1 141 a (J1 141 a + lZ (ps_ L (7 * a + b)))) 141 b ((ix_u2 J1 141 a (J1 141 a + lZ (ps_ L (7 * a + b)))) 141 b - lZ (ps_ L (7 * a + b)))) T := fun w => ih (b + 1) _ (by omega) (fr_putn rfl (by omega) (fr_putn rfl (by omega) o)) (by
            rw [eP]
            have := pm_up (a := a) (b := b) (c := 141) bL (by omega) hb7 q
            rw [← Nat.add_assoc]
            intro k hk
            rw [this k hk]
            show _ = lZ (pu_ (pl_ L (7 * a + b)) ((7 * a + b) / 7) ((7 * a + b) % 7) k)
            rw [e1, e2]) (fun w2 => by have := hy9 w2; omega)
        refine ⟨fun w => ⟨fun w2 => ?_, fun w2 => ⟨fa, fa, fb, fb, go (fun w3 => w2 w3.2)⟩⟩, fun w => ⟨fa, fa, fb, fb, go (fun w3 => w w3.1)⟩⟩
        rw [w, w2]
        exact hP J1 o
      · obtain ⟨s1, s2⟩ := pl_skip z (7 - b) (by omega)
        rw [show 7 * a + b + (7 - b) = 7 * (a + 1) by omega] at s1
        refine nx J1 o (fun k hk => by rw [s1]; exact q k hk) (fun w => ?_)
        have h9 := hy9 w
        have := s2 (y - b) (by omega)
        rw [show 7 * a + b + (y - b) = 7 * x + y by omega] at this
        exact this
  exact key 7 0 J0 (by omega) o0 q0 (fun _ => by omega)
theorem lp_p27 {x y : Nat} {L : Nat → Int} (hx : x < 7) (hy : y < 7) (hL : bd_ L) {I : Nat → Nat → Int32} {J : Nat → Nat → Int64} {T : Option Nat} {P : Int64 → (Nat → Nat → Int32) → (Nat → Nat → Int64) → Option Nat → Prop} {J0 : Nat → Nat → Int64} {V2 : Int32 → Int32 → Int32 → (Nat → Nat → Int32) → (Nat → Nat → Int64) → Option Nat → Prop} (o0 : fr_off [(141, 142, 0, 2147483648)] J J0) (q0 : ∀ k, k < 7 → J0 141 k = lZ (L k)) (hP : ∀ J2, fr_off [(141, 142, 0, 2147483648)] J J2 → P (lZ (ps_ L (7 * x + y))) I J2 T) : wl_X0_clearedPayment_27_2 (nI x) (nI y) 0 I J0 T V2 P := by
  intro V hV
  have key : ∀ m a : Nat, ∀ J1 : Nat → Nat → Int64, a + m = x + 1 → fr_off [(141, 142, 0, 2147483648)] J J1 → (∀ k, k < 7 → J1 141 k = lZ (pl_ L (7 * a) k)) → (x < a → ps_ L (7 * x + y) = 0) → V (nI x) (nI y) (nI a) I J1 T := by
    intro m
    induction m with
    | zero =>
      intro a J1 ha o q z
      apply hV
      unfold wb_X0_clearedPayment_27_2
      rw [nI_leI (by omega) (by omega)]
      refine ⟨fun w => absurd w (by omega), fun _ => ?_⟩
      have := hP J1 o
      rw [z (by omega)] at this
      exact this
    | succ m ih =>
      intro a J1 ha o q z
      apply hV
      unfold wb_X0_clearedPayment_27_2
      rw [nI_leI (by omega) (by omega)]
      exact ⟨fun _ => lp_p35 (J := J) hx hy (by omega) hL o q hP (fun J2 o2 q2 z2 => ih (a + 1) J2 (by omega) o2 q2 (fun w => z2 (by omega))), fun w => absurd (show a ≤ x by omega) w⟩
  exact key (x + 1) 0 J0 (by omega) o0 q0 (fun w => by omega)
theorem fn_paysC {x y : Nat} (hx : x < 7) (hy : y < 7) {I0 : Nat → Nat → Int32} {I : Nat → Nat → Int32} {J : Nat → Nat → Int64} {T : Option Nat} {P : Int64 → (Nat → Nat → Int32) → (Nat → Nat → Int64) → Option Nat → Prop} (h : RR I J) (hP : ∀ J2, fr_off [(141, 142, 0, 2147483648)] J J2 → P (lZ (ps_ (L0_ J) (7 * x + y))) I0 J2 T) : wp_X0_clearedPayment (nI x) (nI y) I0 J T P := by
  unfold wp_X0_clearedPayment
  intro V hV
  have key : ∀ m i : Nat, ∀ J1 : Nat → Nat → Int64, i + m = 7 → fr_off [(141, 142, 0, 2147483648)] J J1 → (∀ k, k < i → J1 141 k = lZ (L0_ J k)) → V (nI x) (nI y) (nI i) I0 J1 T := by
    intro m
    induction m with
    | zero =>
      intro i J1 hi o q
      have hi : i = 7 := by omega
      subst hi
      apply hV
      unfold wb_X0_clearedPayment_2
      exact ⟨fun z => absurd z (by decide), fun _ => lp_p27 (J := J) hx hy (L0_bd h) o q hP⟩
    | succ m ih =>
      intro i J1 hi o q
      have i5 : (nI i).toNatClampNeg = i := nI_clamp (by omega)
      apply hV
      unfold wb_X0_clearedPayment_2 wp_X0_balanceOf
      rw [nI_1, i5]
      refine ⟨fun _ => lp_balC (by omega) ⟨nI_in2 (by omega) (by decide), ih (i + 1) _ (by omega) (fr_putn rfl (by omega) o) (fun k hk => ?_)⟩, fun z => absurd (nI_lt (a := i) (b := 7) (by omega) (by omega)) z⟩
      have e : sl_ (fun k => J1 (126 + k) i - J1 (126 + i) k) 7 = lZ (L0_ J i) := by
        rw [← L0_ok]
        exact sl_congr (fun k hk => by rw [fr_row o (a := 126) (b := 133) rfl (show 126 ≤ 126 + k by omega) (by omega), fr_row o (a := 126) (b := 133) rfl (show 126 ≤ 126 + i by omega) (by omega)])
      by_cases c : k = i
      · subst c
        rw [e]
        simp [u2_e]
      · rw [u2_j c]
        exact q k (by omega)
  exact key 7 0 J (by omega) fr_refl (fun k hk => by omega)
theorem lp_p88 {x y a : Nat} {L : Nat → Int} (ha : a < 7) (hL : bd_ L) {I : Nat → Nat → Int32} {J : Nat → Nat → Int64} {T : Option Nat} {P : Int64 → (Nat → Nat → Int32) → (Nat → Nat → Int64) → Option Nat → Prop} {J0 : Nat → Nat → Int64} {V33 V58 V79 : Int32 → Int32 → Int32 → (Nat → Nat → Int32) → (Nat → Nat → Int64) → Option Nat → Prop} (o0 : fr_off [(257, 259, 0, 2147483648)] J J0) (q0 : ∀ k, k < 7 → J0 258 k = lZ (pl_ L (7 * a) k)) (t0 : ∀ s, s < 49 → J0 257 s = if s < 7 * a then lZ (ps_ L s) else 0) (nx : ∀ J2, fr_off [(257, 259, 0, 2147483648)] J J2 → (∀ k, k < 7 → J2 258 k = lZ (pl_ L (7 * (a + 1)) k)) → (∀ s, s < 49 → J2 257 s = if s < 7 * (a + 1) then lZ (ps_ L s) else 0) → V79 (nI x) (nI y) (nI (a + 1)) I J2 T) : wl_X12_pays_88_33_58_79 (nI x) (nI y) (nI a) 0 I J0 T V33 V58 V79 P := by
  have fa : ix_inb (nI a) 7 = true := nI_in2 (by omega) (by decide)
  have a5 : (nI a).toNatClampNeg = a := nI_clamp (by omega)
  intro V hV
  have key : ∀ m b : Nat, ∀ J1 : Nat → Nat → Int64, b + m = 7 → fr_off [(257, 259, 0, 2147483648)] J J1 → (∀ k, k < 7 → J1 258 k = lZ (pl_ L (7 * a + b) k)) → (∀ s, s < 49 → J1 257 s = if s < 7 * a + b then lZ (ps_ L s) else 0) → V (nI x) (nI y) (nI a) (nI b) I J1 T := by
    intro m
    induction m with
    | zero =>
      intro b J1 hb o q t
      have hb : b = 7 := by omega
      subst hb
      apply hV
      unfold wb_X12_pays_88_33_58_79
      simp only [nI_1]
      exact ⟨fun z => absurd z (by decide), fun _ => nx J1 o q t⟩
    | succ m ih =>
      intro b J1 hb o q t
      have hb7 : b < 7 := by omega
      have fb : ix_inb (nI b) 7 = true := nI_in2 hb7 (by decide)
      have b5 : (nI b).toNatClampNeg = b := nI_clamp (by omega)
      have bL := pl_bd hL (7 * a + b) (by omega)
      have la := bL a (by omega)
      have lb := bL b hb7
      have e1 : (7 * a + b) / 7 = a := by omega
      have e2 : (7 * a + b) % 7 = b := by omega
      have eP : ps_ L (7 * a + b) = pp_ (pl_ L (7 * a + b)) a b := by unfold ps_; rw [e1, e2]
      have eS : pl_ L (7 * a + (b + 1)) = pu_ (pl_ L (7 * a + b)) a b := by
        rw [← Nat.add_assoc]
        show pu_ (pl_ L (7 * a + b)) ((7 * a + b) / 7) ((7 * a + b) % 7) = _
        rw [e1, e2]
      apply hV
      unfold wb_X12_pays_88_33_58_79 wp_X12_pair
      dsimp only
      simp only [nI_1, a5, b5]
      rw [q a (by omega), q b hb7, lgc_lt, lgc_le, show (0 : Int64) = lZ 0 from rfl, lZ_lt (by omega) (by omega), lZ_le (by omega) (by omega), lZ_neg, pr_7, nI_clamp (show 7 * a + b < 2 ^ 31 by omega)]
      refine ⟨fun _ => ⟨fa, fun z => ⟨fb, fun w => ?_, fun w => ⟨fa, fb, fn_min (by omega) lb ⟨fa, fa, fb, fb, nI_in2 (by omega) (by decide), ?_⟩⟩⟩, fun z => ?_⟩, fun z => absurd (nI_lt (a := b) (b := 7) (by omega) (by omega)) z⟩
      · have p0 : pp_ (pl_ L (7 * a + b)) a b = 0 := by unfold pp_; exact if_neg (by omega)
        refine ih (b + 1) J1 (by omega) o (fun k hk => by rw [eS, pu_0 p0]; exact q k hk) (fun s hs => ?_)
        rw [t s hs]
        by_cases c : s = 7 * a + b
        · rw [if_neg (by omega), if_pos (by omega), c, eP, p0]; rfl
        · by_cases c2 : s < 7 * a + b
          · rw [if_pos c2, if_pos (by omega)]
          · rw [if_neg c2, if_neg (by omega)]
      · have eV : min (-pl_ L (7 * a + b) a) (pl_ L (7 * a + b) b) = ps_ L (7 * a + b) := by
          rw [eP]; unfold pp_; rw [if_pos ⟨z, by omega⟩]
        rw [eV]
        have up := pm_up (a := a) (b := b) (c := 258) bL (by omega) hb7 q
        rw [← eP] at up
        refine ih (b + 1) _ (by omega) (fr_putn rfl (by omega) (fr_putn rfl (by omega) (fr_putn rfl (by omega) o))) (fun k hk => ?_) (fun s hs => ?_)
        · rw [u2_c (by decide), up k hk, eS]
        · by_cases c : s = 7 * a + b
          · rw [c, if_pos (by omega)]; simp [u2_e]
          · rw [u2_j c, u2_c (by decide), u2_c (by decide), t s hs]
            by_cases c2 : s < 7 * a + b
            · rw [if_pos c2, if_pos (by omega)]
            · rw [if_neg c2, if_neg (by omega)]
      · obtain ⟨s1, s2⟩ := pl_skip z (7 - b) (by omega)
        rw [show 7 * a + b + (7 - b) = 7 * (a + 1) by omega] at s1
        refine nx J1 o (fun k hk => by rw [s1]; exact q k hk) (fun s hs => ?_)
        rw [t s hs]
        by_cases c2 : s < 7 * a + b
        · rw [if_pos c2, if_pos (by omega)]
        · rw [if_neg c2]
          by_cases c : s < 7 * (a + 1)
          · rw [if_pos c]
            have := s2 (s - (7 * a + b)) (by omega)
            rw [show 7 * a + b + (s - (7 * a + b)) = s by omega] at this
            rw [this]; rfl
          · rw [if_neg c]
  exact key 7 0 J0 (by omega) o0 q0 (fun s hs => by rw [t0 s hs, Nat.add_zero])
theorem lp_p79 {x y : Nat} {L : Nat → Int} (hx : x < 7) (hy : y < 7) (hL : bd_ L) {I : Nat → Nat → Int32} {J : Nat → Nat → Int64} {T : Option Nat} {P : Int64 → (Nat → Nat → Int32) → (Nat → Nat → Int64) → Option Nat → Prop} {J0 : Nat → Nat → Int64} {V33 V58 : Int32 → Int32 → Int32 → (Nat → Nat → Int32) → (Nat → Nat → Int64) → Option Nat → Prop} (o0 : fr_off [(257, 259, 0, 2147483648)] J J0) (q0 : ∀ k, k < 7 → J0 258 k = lZ (L k)) (t0 : ∀ s, s < 49 → J0 257 s = 0) (hP : ∀ J2, fr_off [(257, 259, 0, 2147483648)] J J2 → P (lZ (ps_ L (7 * x + y))) (ix_u2 I 204 0 0) J2 T) : wl_X12_pays_79_33_58 (nI x) (nI y) 0 I J0 T V33 V58 P := by
  intro V hV
  have key : ∀ m a : Nat, ∀ J1 : Nat → Nat → Int64, a + m = 7 → fr_off [(257, 259, 0, 2147483648)] J J1 → (∀ k, k < 7 → J1 258 k = lZ (pl_ L (7 * a) k)) → (∀ s, s < 49 → J1 257 s = if s < 7 * a then lZ (ps_ L s) else 0) → V (nI x) (nI y) (nI a) I J1 T := by
    intro m
    induction m with
    | zero =>
      intro a J1 ha o q t
      have ha : a = 7 := by omega
      subst ha
      apply hV
      unfold wb_X12_pays_79_33_58 wp_X12_pair wp_X12_givesLong
      dsimp only
      rw [pr_7, nI_clamp (show 7 * x + y < 2 ^ 31 by omega), t (7 * x + y) (by omega), if_pos (by omega)]
      exact ⟨fun z => absurd z (by decide), fun _ => ⟨nI_in2 (by omega) (by decide), hP J1 o⟩⟩
    | succ m ih =>
      intro a J1 ha o q t
      apply hV
      unfold wb_X12_pays_79_33_58
      exact ⟨fun _ => lp_p88 (J := J) (by omega) hL o q t (fun J2 o2 q2 t2 => ih (a + 1) J2 (by omega) o2 q2 t2), fun z => absurd (nI_lt (a := a) (b := 7) (by omega) (by omega)) z⟩
  exact key 7 0 J0 (by omega) o0 q0 (fun s hs => by rw [t0 s hs, if_neg (by omega)])
theorem lp_p58 {x y : Nat} {L : Nat → Int} (hx : x < 7) (hy : y < 7) (hL : bd_ L) {I : Nat → Nat → Int32} {J : Nat → Nat → Int64} {T : Option Nat} {P : Int64 → (Nat → Nat → Int32) → (Nat → Nat → Int64) → Option Nat → Prop} {J0 : Nat → Nat → Int64} {V33 : Int32 → Int32 → Int32 → (Nat → Nat → Int32) → (Nat → Nat → Int64) → Option Nat → Prop} (o0 : fr_off [(257, 259, 0, 2147483648)] J J0) (q0 : ∀ k, k < 7 → J0 258 k = lZ (L k)) (hP : ∀ J2, fr_off [(257, 259, 0, 2147483648)] J J2 → P (lZ (ps_ L (7 * x + y))) (ix_u2 I 204 0 0) J2 T) : wl_X12_pays_58_33 (nI x) (nI y) 0 I J0 T V33 P := by
  intro V hV
  have key : ∀ m i : Nat, ∀ J1 : Nat → Nat → Int64, i + m = 49 → fr_off [(257, 259, 0, 2147483648)] J J1 → (∀ k, k < 7 → J1 258 k = lZ (L k)) → (∀ s, s < i → J1 257 s = 0) → V (nI x) (nI y) (nI i) I J1 T := by
    intro m
    induction m with
    | zero =>
      intro i J1 hi o q t
      have hi : i = 49 := by omega
      subst hi
      apply hV
      unfold wb_X12_pays_58_33
      exact ⟨fun z => absurd z (by decide), fun _ => lp_p79 (J := J) hx hy hL o q t hP⟩
    | succ m ih =>
      intro i J1 hi o q t
      apply hV
      unfold wb_X12_pays_58_33
      rw [nI_1, nI_clamp (show i < 2 ^ 31 by omega)]
      refine ⟨fun _ => ⟨nI_in2 (by omega) (by decide), ih (i + 1) _ (by omega) (fr_putn rfl (by omega) o) (fun k hk => by rw [u2_c (by decide)]; exact q k hk) (fun s hs => ?_)⟩, fun z => absurd (nI_lt (a := i) (b := 49) (by omega) (by omega)) z⟩
      by_cases c : s = i
      · subst c; simp [u2_e]
      · rw [u2_j c]; exact t s (by omega)
  exact key 49 0 J0 (by omega) o0 q0 (fun s hs => by omega)
theorem lp_p33 {x y : Nat} {L : Nat → Int} (hx : x < 7) (hy : y < 7) (hL : bd_ L) {I : Nat → Nat → Int32} {J : Nat → Nat → Int64} {T : Option Nat} {P : Int64 → (Nat → Nat → Int32) → (Nat → Nat → Int64) → Option Nat → Prop} (hl : ∀ i, i < 7 → sl_ (fun k => J 255 (7 * k + i) - J 255 (7 * i + k)) 7 = lZ (L i)) (hP : ∀ J2, fr_off [(257, 259, 0, 2147483648)] J J2 → P (lZ (ps_ L (7 * x + y))) (ix_u2 I 204 0 0) J2 T) : wl_X12_pays_33 (nI x) (nI y) 0 I J T P := by
  intro V hV
  have key : ∀ m i : Nat, ∀ J1 : Nat → Nat → Int64, i + m = 7 → fr_off [(257, 259, 0, 2147483648)] J J1 → (∀ k, k < i → J1 258 k = lZ (L k)) → V (nI x) (nI y) (nI i) I J1 T := by
    intro m
    induction m with
    | zero =>
      intro i J1 hi o q
      have hi : i = 7 := by omega
      subst hi
      apply hV
      unfold wb_X12_pays_33
      exact ⟨fun z => absurd z (by decide), fun _ => lp_p58 (J := J) hx hy hL o q hP⟩
    | succ m ih =>
      intro i J1 hi o q
      have i5 : (nI i).toNatClampNeg = i := nI_clamp (by omega)
      apply hV
      unfold wb_X12_pays_33 wp_X12_balanceOf
      rw [nI_1, i5]
      refine ⟨fun _ => lp_balM (by omega) ⟨nI_in2 (by omega) (by decide), ih (i + 1) _ (by omega) (fr_putn rfl (by omega) o) (fun k hk => ?_)⟩, fun z => absurd (nI_lt (a := i) (b := 7) (by omega) (by omega)) z⟩
      by_cases c : k = i
      · subst c
        rw [fr_rw1 o 255 rfl, hl k (by omega)]
        simp [u2_e]
      · rw [u2_j c]
        exact q k (by omega)
  exact key 7 0 J (by omega) fr_refl (fun k hk => by omega)
theorem rk_pays {I I2 : Nat → Nat → Int32} {J : Nat → Nat → Int64} {J2 : Nat → Nat → Int64} (h : RR I J) (o : fr_off [(0, 1, 0, 1), (204, 205, 0, 1)] I I2) (oj : fr_off [(141, 142, 0, 2147483648), (257, 259, 0, 2147483648)] J J2) (p0 : RL_stat I2) : RR I2 J2 := ⟨p0, fr_frac oj rfl h.frac, fr_tray o oj rfl h.tray, fr_land o rfl h.land, fr_gold o rfl h.gold, fr_road o rfl h.road, fr_carr o rfl h.carr, fr_rate o rfl h.rate, fr_tape o rfl h.tape, fr_falt o rfl h.falt, fr_resv o rfl h.resv, fr_flow o rfl h.flow, fr_draw o rfl h.draw, fr_tell o rfl h.tell, fr_acct o oj rfl h.acct, fr_rule o rfl h.rule, fr_bags o rfl h.bags, fr_hand o rfl h.hand, fr_book o rfl h.book, fr_figs oj rfl h.figs, fr_case o rfl h.case, fr_wght o rfl h.wght, fr_trty o oj rfl h.trty⟩
theorem rp_pays (a : Int32) (b : Int32) {I : Nat → Nat → Int32} {J : Nat → Nat → Int64} {T : Option Nat} {P : Int64 → Int64 → (Nat → Nat → Int32) → (Nat → Nat → Int64) → Option Nat → Prop} (h : RR I J) (hP : ∀ v I2 J2 T2, RR I2 J2 → P v v I2 J2 T2) : wp_X11_pays a b I J T (fun v I1 J1 T1 => wp_X12_pays a b I1 J1 T1 (fun w I2 J2 T2 => P v w I2 J2 T2)) := by
  obtain ⟨n, hn, n1, n2⟩ := h.land
  have n3 : (nI n - 1).toInt = (n : Int) - 1 := nI_pm1 (by omega)
  have n4 : (nI n).toInt = (n : Int) := nI_toInt (by omega)
  obtain ⟨c1, c2, -⟩ := h.acct
  have c3 : I 124 0 = 0 ∧ I 204 80 = 0 ∨ I 124 0 = 1 ∧ I 204 80 = 1 := by
    rcases c2 with c2 | c2
    · exact Or.inl ⟨c2, c1.symm.trans c2⟩
    · exact Or.inr ⟨c2, c1.symm.trans c2⟩
  have t0 : ix_01 0 = true := rfl
  have t1 : ix_01 1 = true := rfl
  by_cases qab : a = b
  · subst qab
    rcases c3 with ⟨c3, c4⟩ | ⟨c3, c4⟩
    · skip
      simp only [wp_X11_pays, wp_X12_pays, wp_X0_isTold, wp_X11_isPair, wp_X11_refuse, wp_X12_areTwo, wp_X12_refuse, wp_X11_isLand, wp_X12_isLand, wp_X11_outside, wp_X5_count, lgc_lt, lgc_le, lgc_eq, cmp_s, cmp_t, u2_e]
      try simp only [Int32.lt_iff_toInt_lt, Int32.le_iff_toInt_le, Int64.lt_iff_toInt_lt, Int64.le_iff_toInt_le]
      simp [n1, n2, n3, n4, c3, c4, t0]
      repeat' (first | with_reducible refine And.intro ?_ ?_ | with_reducible intro _)
      all_goals try first | rfl | (exfalso; omega) | exact inb_of (by omega) (by omega) | exact hP _ _ _ _ (RR_st h 1) | exact hP _ _ _ _ (RR_st h 6) | with_reducible exact nI_in2 (by omega) (by omega)
    · skip
      simp only [wp_X11_pays, wp_X12_pays, wp_X0_isTold, wp_X11_isPair, wp_X11_refuse, wp_X12_areTwo, wp_X12_refuse, wp_X11_isLand, wp_X12_isLand, wp_X11_outside, wp_X5_count, lgc_lt, lgc_le, lgc_eq, cmp_s, cmp_t, u2_e]
      try simp only [Int32.lt_iff_toInt_lt, Int32.le_iff_toInt_le, Int64.lt_iff_toInt_lt, Int64.le_iff_toInt_le]
      simp [n1, n2, n3, n4, c3, c4, t1]
      repeat' (first | with_reducible refine And.intro ?_ ?_ | with_reducible intro _)
      all_goals try first | rfl | (exfalso; omega) | exact inb_of (by omega) (by omega) | exact hP _ _ _ _ (RR_st h 1) | exact hP _ _ _ _ (RR_st h 6) | with_reducible exact nI_in2 (by omega) (by omega)
  by_cases q : (0 ≤ a.toInt ∧ a.toInt < n) ∧ (0 ≤ b.toInt ∧ b.toInt < n)
  · obtain ⟨i, hi, rfl⟩ := ii_at q.1.1 q.1.2 (by omega)
    obtain ⟨j, hj, rfl⟩ := ii_at q.2.1 q.2.2 (by omega)
    have i4 : (nI i).toInt = (i : Int) := nI_toInt (by omega)
    have j4 : (nI j).toInt = (j : Int) := nI_toInt (by omega)
    rcases c3 with ⟨c3, c4⟩ | ⟨c3, c4⟩
    · skip
      simp only [wp_X11_pays, wp_X12_pays, wp_X0_isTold, wp_X11_isPair, wp_X11_refuse, wp_X12_areTwo, wp_X12_refuse, wp_X11_isLand, wp_X12_isLand, wp_X11_outside, wp_X5_count, lgc_lt, lgc_le, lgc_eq, cmp_s, cmp_t, u2_e]
      try simp only [Int32.lt_iff_toInt_lt, Int32.le_iff_toInt_le, Int64.lt_iff_toInt_lt, Int64.le_iff_toInt_le]
      simp [n1, n2, n3, n4, i4, j4, qab, c3, c4, t0]
      repeat' (first | with_reducible refine And.intro ?_ ?_ | with_reducible intro _)
      all_goals try first | rfl | (exfalso; omega) | exact inb_of (by omega) (by omega) | exact hP _ _ _ _ (RR_st h 6) | with_reducible exact nI_in2 (by omega) (by omega)
    · have F : wp_X0_clearedPayment (nI i) (nI j) (ix_u2 I 0 0 0) J T (fun v9 I9 J9 T9 => wp_X12_pays (nI i) (nI j) I9 J9 T9 (fun w I2 J2 T2 => P v9 w I2 J2 T2)) := fn_paysC (by omega) (by omega) h (fun J2 oj => by
        have fin : wl_X12_pays_33 (nI i) (nI j) 0 (ix_u2 I 0 0 0) J2 T (fun w I3 J3 T3 => P (lZ (ps_ (L0_ J) (7 * i + j))) w I3 J3 T3) := lp_p33 (by omega) (by omega) (L0_bd h) (fun k hk => by
            rw [← L0_ok]
            refine sl_congr (fun l hl => ?_)
            rw [fr_rw1 oj 255 rfl, ac_eq h hl hk, ac_eq h hk hl]) (fun J3 oj3 => hP _ _ _ _ (rk_pays h (fr_put rfl (fr_put rfl fr_refl)) (fr_trans (fr_mono (by decide) oj) (fr_mono (by decide) oj3)) (by simp [rl_stat, u2_e])))
        simp only [wp_X12_pays, wp_X12_areTwo, wp_X12_refuse, wp_X12_isLand, lgc_lt, lgc_le, lgc_eq, cmp_s, cmp_t, u2_e]
        try simp only [Int32.lt_iff_toInt_lt, Int32.le_iff_toInt_le, Int64.lt_iff_toInt_lt, Int64.le_iff_toInt_le]
        simp [n2, n4, i4, j4, qab, c4]
        repeat' (first | with_reducible exact fin | with_reducible refine And.intro ?_ ?_ | with_reducible intro _)
        all_goals try first | rfl | (exfalso; omega) | exact inb_of (by omega) (by omega) | with_reducible exact nI_in2 (by omega) (by omega)
        )
      simp only [wp_X11_pays, wp_X0_isTold, wp_X11_isPair, wp_X11_refuse, wp_X11_isLand, wp_X11_outside, wp_X5_count, lgc_lt, lgc_le, lgc_eq, cmp_s, cmp_t, u2_e]
      try simp only [Int32.lt_iff_toInt_lt, Int32.le_iff_toInt_le, Int64.lt_iff_toInt_lt, Int64.le_iff_toInt_le]
      simp [n1, n3, n4, i4, j4, qab, c3, t1]
      repeat' (first | with_reducible exact F | with_reducible refine And.intro ?_ ?_ | with_reducible intro _)
      all_goals try first | rfl | (exfalso; omega) | exact inb_of (by omega) (by omega) | with_reducible exact nI_in2 (by omega) (by omega)
  · skip
    simp only [wp_X11_pays, wp_X12_pays, wp_X0_isTold, wp_X11_isPair, wp_X11_refuse, wp_X12_areTwo, wp_X12_refuse, wp_X11_isLand, wp_X12_isLand, wp_X11_outside, wp_X5_count, lgc_lt, lgc_le, lgc_eq, cmp_s, cmp_t, u2_e]
    try simp only [Int32.lt_iff_toInt_lt, Int32.le_iff_toInt_le, Int64.lt_iff_toInt_lt, Int64.le_iff_toInt_le]
    simp [n1, n2, n3, n4, qab]
    repeat' (first | with_reducible refine And.intro ?_ ?_ | with_reducible intro _)
    all_goals try first | rfl | (exfalso; omega) | exact inb_of (by omega) (by omega) | exact hP _ _ _ _ (RR_st h 1) | with_reducible exact nI_in2 (by omega) (by omega)

