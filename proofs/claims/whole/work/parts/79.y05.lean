/-! treaties: the reference's words -/
theorem yWl_l {c : Nat} (h : c < 18) : yWl.getD c 0 ≤ 6 ∧ 0 < yWl.getD c 0 := by
  have := (yW_t ⟨c, h⟩ ⟨0, by omega⟩).2.2
  exact this
theorem yq_un1 : ∀ c d : Fin 18, c ≠ d → yWl.getD c.1 0 = yWl.getD d.1 0 → ∃ k : Fin 6, k.1 < yWl.getD c.1 0 ∧ yW (6 * c.1 + k.1) ≠ yW (6 * d.1 + k.1) := by decide +kernel
theorem yq_get {b : Nat → Int32} {s e c : Nat} (h : yq b s e c = true) : e - s = yWl.getD c 0 ∧ ∀ k, k < yWl.getD c 0 → b (s + k) = yW (6 * c + k) := by
  unfold yq at h
  rw [Bool.and_eq_true, List.all_eq_true, decide_eq_true_eq] at h
  exact ⟨h.1, fun k hk => by have := h.2 k (List.mem_range.mpr hk); simpa using this⟩
theorem yq_un {b : Nat → Int32} {s e c d : Nat} (hc : c < 18) (hd : d < 18) (h1 : yq b s e c = true) (h2 : yq b s e d = true) : c = d := by
  by_cases g : c = d
  · exact g
  · obtain ⟨a1, a2⟩ := yq_get h1
    obtain ⟨b1, b2⟩ := yq_get h2
    obtain ⟨k, k1, k2⟩ := yq_un1 ⟨c, hc⟩ ⟨d, hd⟩ (fun z => g (congrArg Fin.val z)) (by show yWl.getD c 0 = yWl.getD d 0; omega)
    exact absurd ((a2 k.1 k1).symm.trans (b2 k.1 (show k.1 < yWl.getD d 0 by rw [← b1, a1]; exact k1))) k2
def yk3 (k : Int32) : Int32 := if k ≤ 10 then k else -1
def yk4 (k : Int32) : Int32 := if k ≤ 10 then -1 else if k ≤ 17 then k - 11 else -1
theorem yK_some {b : Nat → Int32} {s e : Nat} : ∀ {m c : Nat}, c + m ≤ 18 → (yK b s e m c = 18 ∧ ∀ j, c ≤ j → j < c + m → yq b s e j = false) ∨ (c ≤ yK b s e m c ∧ yK b s e m c < c + m ∧ yq b s e (yK b s e m c) = true)
  | 0, c, h => Or.inl ⟨rfl, fun j h1 h2 => by omega⟩
  | m + 1, c, h => by
    rw [yK]
    by_cases g : yq b s e c = true
    · rw [if_pos g]; exact Or.inr ⟨Nat.le_refl _, by omega, g⟩
    · rw [if_neg g]
      rcases yK_some (m := m) (c := c + 1) (by omega) with ⟨h1, h2⟩ | ⟨h1, h2, h3⟩
      · refine Or.inl ⟨h1, fun j j1 j2 => ?_⟩
        by_cases e2 : j = c
        · rw [e2]; simpa using g
        · exact h2 j (by omega) (by omega)
      · exact Or.inr ⟨by omega, by omega, h3⟩
theorem fi_no {ok : Nat → Bool} : ∀ {m q : Nat}, (∀ j, q ≤ j → j < q + m → ok j = false) → fi_ ok m q = none
  | 0, _, _ => rfl
  | m + 1, q, h => by rw [fi_, h q (Nat.le_refl _) (by omega), if_neg (by decide)]; exact fi_no (fun j h1 h2 => h j (by omega) (by omega))
theorem fi_one {ok : Nat → Bool} {r : Nat} : ∀ {m q : Nat}, q ≤ r → r < q + m → ok r = true → (∀ j, ok j = true → j < r → j < q) → fi_ ok m q = some r
  | 0, q, h1, h2, _, _ => by omega
  | m + 1, q, h1, h2, h3, h4 => by
    rw [fi_]
    by_cases e : q = r
    · rw [e, if_pos h3]
    · have : ¬ ok q = true := fun g => by
        have := h4 q g (by omega)
        omega
      rw [if_neg this]
      exact fi_one (by omega) (by omega) h3 (fun j j1 j2 => by have := h4 j j1 j2; omega)
theorem yk_w1 : ∀ j : Fin 20, yk3 (nI j.1) = (if j.1 < 11 then nI j.1 else -1) ∧ yk4 (nI j.1) = (if 11 ≤ j.1 ∧ j.1 < 18 then nI (j.1 - 11) else -1) := by decide +kernel
theorem yk_w {b : Nat → Int32} {s e : Nat} : fv_ (fi_ (yq b s e) 11 0) = yk3 (nI (ywk b s e)) ∧ fv_ (fi_ (fun i => yq b s e (11 + i)) 7 0) = yk4 (nI (ywk b s e)) := by
  have hw := ywk_le b s e
  obtain ⟨w1, w2⟩ := yk_w1 ⟨ywk b s e, by omega⟩
  simp only at w1 w2
  rw [w1, w2]
  clear w1 w2
  by_cases h8 : e - s ≤ 8
  · have ew : ywk b s e = yK b s e 18 0 := by unfold ywk; rw [if_pos h8]
    rcases yK_some (b := b) (s := s) (e := e) (m := 18) (c := 0) (by omega) with ⟨h1, h2⟩ | ⟨h1, h2, h3⟩
    · rw [ew, h1, if_neg (by omega), if_neg (by omega), fi_no (fun j j1 j2 => h2 j (by omega) (by omega)), fi_no (ok := fun i => yq b s e (11 + i)) (fun j j1 j2 => h2 (11 + j) (by omega) (by omega))]
      exact ⟨rfl, rfl⟩
    · rw [ew]
      by_cases c : yK b s e 18 0 < 11
      · rw [if_pos c, if_neg (by omega), fi_one (Nat.zero_le _) (by omega) h3 (fun j j1 j2 => by have := yq_un (show j < 18 by omega) (by omega) j1 h3; omega)]
        rw [fi_no (ok := fun i => yq b s e (11 + i)) (fun j j1 j2 => by
          cases g : yq b s e (11 + j) with
          | false => rfl
          | true => have := yq_un (show 11 + j < 18 by omega) (by omega) g h3; omega)]
        exact ⟨rfl, rfl⟩
      · rw [if_neg c, if_pos (by omega), fi_no (fun j j1 j2 => by
          cases g : yq b s e j with
          | false => rfl
          | true => have := yq_un (show j < 18 by omega) (by omega) g h3; omega)]
        rw [fi_one (ok := fun i => yq b s e (11 + i)) (r := yK b s e 18 0 - 11) (Nat.zero_le _) (by omega) (by show yq b s e (11 + (yK b s e 18 0 - 11)) = true; rw [show 11 + (yK b s e 18 0 - 11) = yK b s e 18 0 by omega]; exact h3) (fun j j1 j2 => by have := yq_un (show 11 + j < 18 by omega) (by omega) j1 h3; omega)]
        exact ⟨rfl, rfl⟩
  · have ew : ywk b s e = 19 := by unfold ywk; rw [if_neg h8]
    have no : ∀ j, j < 18 → yq b s e j = false := fun j hj => by
      have := yWl_l hj
      unfold yq
      rw [decide_eq_false (by omega)]; rfl
    rw [ew, if_neg (by omega), if_neg (by omega), fi_no (fun j j1 j2 => no j (by omega)), fi_no (ok := fun i => yq b s e (11 + i)) (fun j j1 j2 => no (11 + j) (by omega))]
    exact ⟨rfl, rfl⟩

def yA3 (j : Nat) : Int32 := (ix_sbyt.getD 2 []).getD j 0
def yP3 : List Nat := [1, 5, 11, 16, 19, 24, 30, 33, 37, 41, 47, 52]
theorem yA3_c1 : ∀ j : Fin 52, ((yA3 j.1 &&& 255).toUInt32 % 65536).toInt32 = yA3 j.1 ∧ (yA3 j.1).toUInt32.toUInt16.toUInt32.toInt32 = yA3 j.1 := by decide +kernel
theorem yA3_t : ∀ c : Fin 11, ∀ k : Fin 6, (k.1 < yWl.getD (0 + c.1) 0 → yA3 (yP3.getD c.1 0 + k.1) = yW (6 * (0 + c.1) + k.1) ∧ ¬ yA3 (yP3.getD c.1 0 + k.1) = 32) ∧ yA3 (yP3.getD c.1 0 + yWl.getD (0 + c.1) 0) = 32 ∧ yP3.getD (c.1 + 1) 0 = yP3.getD c.1 0 + yWl.getD (0 + c.1) 0 + 1 ∧ yP3.getD c.1 0 + yWl.getD (0 + c.1) 0 < 52 := by decide +kernel
theorem yfc3 {j : Nat} (hj : j < 52) {I : Nat → Nat → Int32} {J : Nat → Nat → Int64} {T : Option Nat} {P : Int32 → (Nat → Nat → Int32) → (Nat → Nat → Int64) → Option Nat → Prop} (hP : P (yA3 j) I J T) : wp_J_charAt_s3 (nI j) I J T P := by
  obtain ⟨h1, h2⟩ := yA3_c1 ⟨j, hj⟩
  simp only at h1 h2
  unfold wp_J_charAt_s3 wp_J_isLatin1_s3 wp_J_lcharAt_rs7
  refine ⟨fun z => absurd z (by decide), fun _ => ?_⟩
  rw [nI_clamp (show j < 2 ^ 31 by omega)]
  change (_ ∧ _) ∧ _ ∧ ((yA3 j &&& 255).toUInt32 % 65536).toInt32.toUInt32.toUInt16.toUInt32.toInt32 = ((yA3 j &&& 255).toUInt32 % 65536).toInt32 ∧ ((yA3 j &&& 255).toUInt32 % 65536).toInt32.toUInt32.toUInt16.toUInt32.toInt32 = ((yA3 j &&& 255).toUInt32 % 65536).toInt32 ∧ P (((yA3 j &&& 255).toUInt32 % 65536).toInt32) I J T
  rw [h1]
  refine ⟨⟨fun z => ?_, (yi_lt (b := 52) (by omega) (by omega)).mpr hj⟩, nI_in2 hj (by decide), h2, h2, hP⟩
  rw [Int32.lt_iff_toInt_lt, nI_toInt (by omega)] at z
  have z : (j : Int) < 0 := z
  omega
theorem yg_w3 {b : Nat → Int32} {n s e : Nat} {I : Nat → Nat → Int32} {J : Nat → Nat → Int64} {T : Option Nat} {P : Int32 → (Nat → Nat → Int32) → (Nat → Nat → Int64) → Option Nat → Prop} (hx : ytx b n I) (hs : s < e) (he : e ≤ n) (hl : ∀ q, s ≤ q → q < e → yL (b q) = true) (e17 : I 204 17 = 2) (e18 : I 204 18 = nI s) (e19 : I 204 19 = nI e) (hP : P (fv_ (fi_ (yq b s e) 11 0)) I J T) : wp_X12_inWords_rs3 I J T P := by
  have hn := hx.1
  unfold wp_X12_inWords_rs3
  refine ⟨fun _ => ?_, fun z => absurd e17 z⟩
  intro V hV
  have key : ∀ m c, c + m = 11 → fi_ (yq b s e) m c = fi_ (yq b s e) 11 0 → V (nI c) (nI (yP3.getD c 0)) I J T := by
    intro m
    induction m with
    | zero =>
      intro c hc ef
      have hc : c = 11 := by omega
      subst hc
      rw [← ef] at hP
      apply hV
      unfold wb_X12_inWords_rs3_14_cs3 wp_J_length_s3 wp_J_coder_s3
      exact ⟨by decide, fun z => absurd z (by decide), fun _ => hP⟩
    | succ m ih =>
      intro c hc ef
      rw [fi_] at ef
      have tb := fun k (hk : k < 6) => yA3_t ⟨c, by omega⟩ ⟨k, hk⟩
      obtain ⟨-, t1, t2, t3⟩ := tb 0 (by omega)
      obtain ⟨w1, w2⟩ := yWl_l (c := 0 + c) (by omega)
      simp only at t1 t2 t3
      apply hV
      unfold wb_X12_inWords_rs3_14_cs3 wp_J_length_s3 wp_J_coder_s3
      refine ⟨by decide, fun _ => ?_, fun z => absurd ((yi_lt (b := 52) (by omega) (by omega)).mpr (by omega)) z⟩
      intro U hU
      have k2 : ∀ r x, x + r = yP3.getD c 0 + yWl.getD (0 + c) 0 → yP3.getD c 0 ≤ x → U (nI c) (nI (yP3.getD c 0)) (nI x) I J T := by
        intro r
        induction r with
        | zero =>
          intro x hx2 hpx
          have hx2 : x = yP3.getD c 0 + yWl.getD (0 + c) 0 := by omega
          apply hU
          unfold wb_X12_inWords_rs3_25_14_cs3
          refine yfc3 (by omega) ⟨fun _ => ?_, fun z => absurd (by rw [hx2]; exact t1) z⟩
          rw [e18, e19, nI_sub hpx (by omega), nI_sub (show s ≤ e by omega) (by omega), nI_eq (by omega) (by omega), show x - yP3.getD c 0 = yWl.getD (0 + c) 0 by omega]
          -- like: the letters so far
          have k3 : ∀ (like : Bool), like = decide (yWl.getD (0 + c) 0 = e - s) → wl_X12_inWords_rs3_68_14_25_cs3 (nI c) (nI (yP3.getD c 0)) (nI x) (s01_ like) (nI (yP3.getD c 0)) I J T V U P := by
            intro like0 hl0
            intro W hW
            have fin0 : yq b s e c = false → V (nI c + 1) (nI x + 1) I J T := fun g => by
              rw [if_neg (by rw [g]; decide)] at ef
              have := ih (c + 1) (by omega) ef
              rw [t2, ← hx2] at this
              rw [nI_1, nI_1]; exact this
            have fin1 : yq b s e c = true → P (nI c) I J T := fun g => by
              rw [if_pos g] at ef
              rw [← ef] at hP
              exact hP
            have k4 : ∀ d i (like : Bool), i + d = yWl.getD (0 + c) 0 → (like = true ↔ yWl.getD (0 + c) 0 = e - s ∧ ∀ k, k < i → b (s + k) = yW (6 * (0 + c) + k)) → W (nI c) (nI (yP3.getD c 0)) (nI x) (s01_ like) (nI (yP3.getD c 0 + i)) I J T := by
              intro d
              induction d with
              | zero =>
                intro i like hi hlk
                have hi : i = yWl.getD (0 + c) 0 := by omega
                have hq : like = yq b s e c := by
                  have e0 : 0 + c = c := by omega
                  rw [e0] at hi hlk
                  rw [Bool.eq_iff_iff, hlk, hi]
                  unfold yq
                  rw [Bool.and_eq_true, List.all_eq_true, decide_eq_true_eq]
                  constructor
                  · rintro ⟨a1, a2⟩
                    exact ⟨a1.symm, fun k hk => decide_eq_true (a2 k (List.mem_range.mp hk))⟩
                  · rintro ⟨a1, a2⟩
                    exact ⟨a1.symm, fun k hk => by have := a2 k (List.mem_range.mpr hk); simpa using this⟩
                apply hW
                unfold wb_X12_inWords_rs3_68_14_25_cs3
                refine ⟨fun z => absurd ((yi_lt (by omega) (by omega)).mp z) (by omega), fun _ => ?_⟩
                cases like with
                | false => exact ⟨fun _ => fin0 hq.symm, fun z => absurd rfl z⟩
                | true => exact ⟨fun z => absurd z (by decide), fun _ => fin1 hq.symm⟩
              | succ d id =>
                intro i like hi hlk
                apply hW
                unfold wb_X12_inWords_rs3_68_14_25_cs3
                refine ⟨fun _ => ?_, fun z => absurd ((yi_lt (by omega) (by omega)).mpr (by omega)) z⟩
                cases like with
                | false =>
                  have : yq b s e c = false := by
                    cases g : yq b s e c with
                    | false => rfl
                    | true =>
                      obtain ⟨g1, g2⟩ := yq_get g
                      have e0 : 0 + c = c := by omega
                      rw [e0] at hlk hi
                      have := hlk.mpr ⟨g1.symm, fun k hk => g2 k (by omega)⟩
                      cases this
                  exact ⟨fun _ => ⟨fun _ => fin0 this, fun z => absurd rfl z⟩, fun z => absurd rfl z⟩
                | true =>
                  obtain ⟨a1, a2⟩ := hlk.mp rfl
                  refine ⟨fun z => absurd z (by decide), fun _ => yfc3 (by omega) ?_⟩
                  rw [e18, nI_add, nI_sub (by omega) (by omega), show s + (yP3.getD c 0 + i) - yP3.getD c 0 = s + i by omega]
                  obtain ⟨q1, -⟩ := (tb i (by omega)).1 (show i < yWl.getD (0 + c) 0 by omega)
                  simp only at q1
                  rw [q1]
                  refine yga hx (by omega) (fun g => ?_) (fun z => by omega)
                  rw [(yby_m (hx.2.2 _ g).2).2.2.2.2.2.1 (hl _ (by omega) (by omega)), nI_1, show yP3.getD c 0 + i + 1 = yP3.getD c 0 + (i + 1) by omega]
                  refine ⟨fun z => ?_, fun z => ?_⟩
                  · refine id (i + 1) true (by omega) ⟨fun _ => ⟨a1, fun k hk => ?_⟩, fun _ => rfl⟩
                    by_cases ek : k = i
                    · rw [ek]; exact z.symm
                    · exact a2 k (by omega)
                  · refine id (i + 1) false (by omega) ⟨fun y => (by cases y), fun y => ?_⟩
                    exact absurd (y.2 i (by omega)).symm z
            have := k4 (yWl.getD (0 + c) 0) 0 like0 (by omega) (by rw [hl0, decide_eq_true_eq]; exact ⟨fun y => ⟨y, fun k hk => by omega⟩, fun y => y.1⟩)
            exact this
          refine ⟨fun y => ?_, fun y => ?_⟩
          · have := k3 true (by rw [decide_eq_true y])
            exact this
          · have := k3 false (by rw [decide_eq_false y])
            exact this
        | succ r ir =>
          intro x hx2 hpx
          obtain ⟨-, q2⟩ := (tb (x - yP3.getD c 0) (by omega)).1 (show x - yP3.getD c 0 < yWl.getD (0 + c) 0 by omega)
          simp only [show yP3.getD c 0 + (x - yP3.getD c 0) = x by omega] at q2
          apply hU
          unfold wb_X12_inWords_rs3_25_14_cs3
          refine yfc3 (by omega) ⟨fun z => absurd z q2, fun _ => ?_⟩
          rw [nI_1]
          exact ir (x + 1) (by omega) (by omega)
      exact k2 (yWl.getD (0 + c) 0) (yP3.getD c 0) (by omega) (Nat.le_refl _)
  exact key 11 0 rfl rfl

def yA4 (j : Nat) : Int32 := (ix_sbyt.getD 3 []).getD j 0
def yP4 : List Nat := [1, 8, 15, 20, 25, 30, 37, 41]
theorem yA4_c1 : ∀ j : Fin 41, ((yA4 j.1 &&& 255).toUInt32 % 65536).toInt32 = yA4 j.1 ∧ (yA4 j.1).toUInt32.toUInt16.toUInt32.toInt32 = yA4 j.1 := by decide +kernel
theorem yA4_t : ∀ c : Fin 7, ∀ k : Fin 6, (k.1 < yWl.getD (11 + c.1) 0 → yA4 (yP4.getD c.1 0 + k.1) = yW (6 * (11 + c.1) + k.1) ∧ ¬ yA4 (yP4.getD c.1 0 + k.1) = 32) ∧ yA4 (yP4.getD c.1 0 + yWl.getD (11 + c.1) 0) = 32 ∧ yP4.getD (c.1 + 1) 0 = yP4.getD c.1 0 + yWl.getD (11 + c.1) 0 + 1 ∧ yP4.getD c.1 0 + yWl.getD (11 + c.1) 0 < 41 := by decide +kernel
theorem yfc4 {j : Nat} (hj : j < 41) {I : Nat → Nat → Int32} {J : Nat → Nat → Int64} {T : Option Nat} {P : Int32 → (Nat → Nat → Int32) → (Nat → Nat → Int64) → Option Nat → Prop} (hP : P (yA4 j) I J T) : wp_J_charAt_s4 (nI j) I J T P := by
  obtain ⟨h1, h2⟩ := yA4_c1 ⟨j, hj⟩
  simp only at h1 h2
  unfold wp_J_charAt_s4 wp_J_isLatin1_s4 wp_J_lcharAt_rs8
  refine ⟨fun z => absurd z (by decide), fun _ => ?_⟩
  rw [nI_clamp (show j < 2 ^ 31 by omega)]
  change (_ ∧ _) ∧ _ ∧ ((yA4 j &&& 255).toUInt32 % 65536).toInt32.toUInt32.toUInt16.toUInt32.toInt32 = ((yA4 j &&& 255).toUInt32 % 65536).toInt32 ∧ ((yA4 j &&& 255).toUInt32 % 65536).toInt32.toUInt32.toUInt16.toUInt32.toInt32 = ((yA4 j &&& 255).toUInt32 % 65536).toInt32 ∧ P (((yA4 j &&& 255).toUInt32 % 65536).toInt32) I J T
  rw [h1]
  refine ⟨⟨fun z => ?_, (yi_lt (b := 41) (by omega) (by omega)).mpr hj⟩, nI_in2 hj (by decide), h2, h2, hP⟩
  rw [Int32.lt_iff_toInt_lt, nI_toInt (by omega)] at z
  have z : (j : Int) < 0 := z
  omega
theorem yg_w4 {b : Nat → Int32} {n s e : Nat} {I : Nat → Nat → Int32} {J : Nat → Nat → Int64} {T : Option Nat} {P : Int32 → (Nat → Nat → Int32) → (Nat → Nat → Int64) → Option Nat → Prop} (hx : ytx b n I) (hs : s < e) (he : e ≤ n) (hl : ∀ q, s ≤ q → q < e → yL (b q) = true) (e17 : I 204 17 = 2) (e18 : I 204 18 = nI s) (e19 : I 204 19 = nI e) (hP : P (fv_ (fi_ (fun i => yq b s e (11 + i)) 7 0)) I J T) : wp_X12_inWords_rs4 I J T P := by
  have hn := hx.1
  unfold wp_X12_inWords_rs4
  refine ⟨fun _ => ?_, fun z => absurd e17 z⟩
  intro V hV
  have key : ∀ m c, c + m = 7 → fi_ (fun i => yq b s e (11 + i)) m c = fi_ (fun i => yq b s e (11 + i)) 7 0 → V (nI c) (nI (yP4.getD c 0)) I J T := by
    intro m
    induction m with
    | zero =>
      intro c hc ef
      have hc : c = 7 := by omega
      subst hc
      rw [← ef] at hP
      apply hV
      unfold wb_X12_inWords_rs4_14_cs4 wp_J_length_s4 wp_J_coder_s4
      exact ⟨by decide, fun z => absurd z (by decide), fun _ => hP⟩
    | succ m ih =>
      intro c hc ef
      rw [fi_] at ef
      have tb := fun k (hk : k < 6) => yA4_t ⟨c, by omega⟩ ⟨k, hk⟩
      obtain ⟨-, t1, t2, t3⟩ := tb 0 (by omega)
      obtain ⟨w1, w2⟩ := yWl_l (c := 11 + c) (by omega)
      simp only at t1 t2 t3
      apply hV
      unfold wb_X12_inWords_rs4_14_cs4 wp_J_length_s4 wp_J_coder_s4
      refine ⟨by decide, fun _ => ?_, fun z => absurd ((yi_lt (b := 41) (by omega) (by omega)).mpr (by omega)) z⟩
      intro U hU
      have k2 : ∀ r x, x + r = yP4.getD c 0 + yWl.getD (11 + c) 0 → yP4.getD c 0 ≤ x → U (nI c) (nI (yP4.getD c 0)) (nI x) I J T := by
        intro r
        induction r with
        | zero =>
          intro x hx2 hpx
          have hx2 : x = yP4.getD c 0 + yWl.getD (11 + c) 0 := by omega
          apply hU
          unfold wb_X12_inWords_rs4_25_14_cs4
          refine yfc4 (by omega) ⟨fun _ => ?_, fun z => absurd (by rw [hx2]; exact t1) z⟩
          rw [e18, e19, nI_sub hpx (by omega), nI_sub (show s ≤ e by omega) (by omega), nI_eq (by omega) (by omega), show x - yP4.getD c 0 = yWl.getD (11 + c) 0 by omega]
          -- like: the letters so far
          have k3 : ∀ (like : Bool), like = decide (yWl.getD (11 + c) 0 = e - s) → wl_X12_inWords_rs4_68_14_25_cs4 (nI c) (nI (yP4.getD c 0)) (nI x) (s01_ like) (nI (yP4.getD c 0)) I J T V U P := by
            intro like0 hl0
            intro W hW
            have fin0 : yq b s e (11 + c) = false → V (nI c + 1) (nI x + 1) I J T := fun g => by
              rw [if_neg (by rw [g]; decide)] at ef
              have := ih (c + 1) (by omega) ef
              rw [t2, ← hx2] at this
              rw [nI_1, nI_1]; exact this
            have fin1 : yq b s e (11 + c) = true → P (nI c) I J T := fun g => by
              rw [if_pos g] at ef
              rw [← ef] at hP
              exact hP
            have k4 : ∀ d i (like : Bool), i + d = yWl.getD (11 + c) 0 → (like = true ↔ yWl.getD (11 + c) 0 = e - s ∧ ∀ k, k < i → b (s + k) = yW (6 * (11 + c) + k)) → W (nI c) (nI (yP4.getD c 0)) (nI x) (s01_ like) (nI (yP4.getD c 0 + i)) I J T := by
              intro d
              induction d with
              | zero =>
                intro i like hi hlk
                have hi : i = yWl.getD (11 + c) 0 := by omega
                have hq : like = yq b s e (11 + c) := by
                  have e0 : 11 + c = (11 + c) := by omega
                  rw [e0] at hi hlk
                  rw [Bool.eq_iff_iff, hlk, hi]
                  unfold yq
                  rw [Bool.and_eq_true, List.all_eq_true, decide_eq_true_eq]
                  constructor
                  · rintro ⟨a1, a2⟩
                    exact ⟨a1.symm, fun k hk => decide_eq_true (a2 k (List.mem_range.mp hk))⟩
                  · rintro ⟨a1, a2⟩
                    exact ⟨a1.symm, fun k hk => by have := a2 k (List.mem_range.mpr hk); simpa using this⟩
                apply hW
                unfold wb_X12_inWords_rs4_68_14_25_cs4
                refine ⟨fun z => absurd ((yi_lt (by omega) (by omega)).mp z) (by omega), fun _ => ?_⟩
                cases like with
                | false => exact ⟨fun _ => fin0 hq.symm, fun z => absurd rfl z⟩
                | true => exact ⟨fun z => absurd z (by decide), fun _ => fin1 hq.symm⟩
              | succ d id =>
                intro i like hi hlk
                apply hW
                unfold wb_X12_inWords_rs4_68_14_25_cs4
                refine ⟨fun _ => ?_, fun z => absurd ((yi_lt (by omega) (by omega)).mpr (by omega)) z⟩
                cases like with
                | false =>
                  have : yq b s e (11 + c) = false := by
                    cases g : yq b s e (11 + c) with
                    | false => rfl
                    | true =>
                      obtain ⟨g1, g2⟩ := yq_get g
                      have e0 : 11 + c = (11 + c) := by omega
                      rw [e0] at hlk hi
                      have := hlk.mpr ⟨g1.symm, fun k hk => g2 k (by omega)⟩
                      cases this
                  exact ⟨fun _ => ⟨fun _ => fin0 this, fun z => absurd rfl z⟩, fun z => absurd rfl z⟩
                | true =>
                  obtain ⟨a1, a2⟩ := hlk.mp rfl
                  refine ⟨fun z => absurd z (by decide), fun _ => yfc4 (by omega) ?_⟩
                  rw [e18, nI_add, nI_sub (by omega) (by omega), show s + (yP4.getD c 0 + i) - yP4.getD c 0 = s + i by omega]
                  obtain ⟨q1, -⟩ := (tb i (by omega)).1 (show i < yWl.getD (11 + c) 0 by omega)
                  simp only at q1
                  rw [q1]
                  refine yga hx (by omega) (fun g => ?_) (fun z => by omega)
                  rw [(yby_m (hx.2.2 _ g).2).2.2.2.2.2.1 (hl _ (by omega) (by omega)), nI_1, show yP4.getD c 0 + i + 1 = yP4.getD c 0 + (i + 1) by omega]
                  refine ⟨fun z => ?_, fun z => ?_⟩
                  · refine id (i + 1) true (by omega) ⟨fun _ => ⟨a1, fun k hk => ?_⟩, fun _ => rfl⟩
                    by_cases ek : k = i
                    · rw [ek]; exact z.symm
                    · exact a2 k (by omega)
                  · refine id (i + 1) false (by omega) ⟨fun y => (by cases y), fun y => ?_⟩
                    exact absurd (y.2 i (by omega)).symm z
            have := k4 (yWl.getD (11 + c) 0) 0 like0 (by omega) (by rw [hl0, decide_eq_true_eq]; exact ⟨fun y => ⟨y, fun k hk => by omega⟩, fun y => y.1⟩)
            exact this
          refine ⟨fun y => ?_, fun y => ?_⟩
          · have := k3 true (by rw [decide_eq_true y])
            exact this
          · have := k3 false (by rw [decide_eq_false y])
            exact this
        | succ r ir =>
          intro x hx2 hpx
          obtain ⟨-, q2⟩ := (tb (x - yP4.getD c 0) (by omega)).1 (show x - yP4.getD c 0 < yWl.getD (11 + c) 0 by omega)
          simp only [show yP4.getD c 0 + (x - yP4.getD c 0) = x by omega] at q2
          apply hU
          unfold wb_X12_inWords_rs4_25_14_cs4
          refine yfc4 (by omega) ⟨fun z => absurd z q2, fun _ => ?_⟩
          rw [nI_1]
          exact ir (x + 1) (by omega) (by omega)
      exact k2 (yWl.getD (11 + c) 0) (yP4.getD c 0) (by omega) (Nat.le_refl _)
  exact key 7 0 rfl rfl

theorem ykd_cs (b : Nat → Int32) {n s : Nat} (hx : ∀ q, q < n → (b q).toInt8.toInt32 = b q) (hs : s ≤ n) : (∃ j, j ≤ 19 ∧ ykd b n s = nI j ∧ s < n ∧ yL (b s) = true ∧ j = ywk b s (yen b n s)) ∨ ykd b n s = 20 ∨ ykd b n s = 21 ∨ ykd b n s = 22 ∨ (yS (ykd b n s) = true ∧ yct (ykd b n s) = 4) := by
  by_cases h0 : n ≤ s
  · have : ykd b n s = 21 := by unfold ykd; rw [if_pos h0]
    exact Or.inr (Or.inr (Or.inl this))
  · have ek : ykd b n s = if yL (b s) then nI (ywk b s (yen b n s)) else if yD (b s) then (if yen b n s - s ≤ 7 then 20 else 22) else if yS (b s) then b s else 22 := by unfold ykd; rw [if_neg h0]
    rw [ek]
    split
    · next c => exact Or.inl ⟨_, ywk_le b s _, rfl, by omega, c, rfl⟩
    · split
      · split
        · exact Or.inr (Or.inl rfl)
        · exact Or.inr (Or.inr (Or.inr (Or.inl rfl)))
      · split
        · next c => exact Or.inr (Or.inr (Or.inr (Or.inr ⟨c, (yby_m (hx s (by omega))).2.2.2.2.2.2.2.2.2 c⟩)))
        · exact Or.inr (Or.inr (Or.inr (Or.inl rfl)))
theorem yS_k {x : Int32} (h : yS x = true) : yk3 x = -1 ∧ yk4 x = -1 ∧ ¬ x = 20 ∧ ¬ x = 21 ∧ ¬ x = 22 := by
  unfold yS at h
  simp only [Bool.or_eq_true, decide_eq_true_eq] at h
  rcases h with h | h | h | h | h | h | h | h | h | h | h | h <;> rw [h] <;> decide

theorem yg_k3 {b : Nat → Int32} {n s : Nat} {I : Nat → Nat → Int32} {J : Nat → Nat → Int64} {T : Option Nat} {P : Int32 → (Nat → Nat → Int32) → (Nat → Nat → Int64) → Option Nat → Prop} (hx : ytx b n I) (hs : s ≤ n) (hm : ymt b n s I J) (hP : P (yk3 (ykd b n s)) I J T) : wp_X12_inWords_rs3 I J T P := by
  obtain ⟨e18, e19, e17, -, -⟩ := hm
  have no : ¬ I 204 17 = 2 → yk3 (ykd b n s) = -1 → wp_X12_inWords_rs3 I J T P := fun h1 h2 => by
    unfold wp_X12_inWords_rs3
    rw [h2] at hP
    exact ⟨fun z => absurd z h1, fun _ => hP⟩
  rcases ykd_cs b (fun q hq => (hx.2.2 q hq).2) hs with ⟨j, j1, j2, j3, j4, j5⟩ | h | h | h | ⟨h1, h2⟩
  · have eE : yen b n s = yR (fun q => yL (b q)) (n - s) s := by unfold yen; rw [if_neg (by omega), if_pos j4]
    refine yg_w3 hx (yen_gt b j3) (yen_ge b hs).2 (fun q h1 h2 => ?_) (by rw [e17, j2, yct_w j1]) e18 e19 ?_
    · rw [eE] at h2; exact yR_in h1 h2
    · rw [yk_w.1, ← j5, ← j2]; exact hP
  · exact no (by rw [e17, h]; decide) (by rw [h]; decide)
  · exact no (by rw [e17, h]; decide) (by rw [h]; decide)
  · exact no (by rw [e17, h]; decide) (by rw [h]; decide)
  · refine no ?_ ?_
    · rw [e17, h2]; decide
    · exact (yS_k h1).1

theorem yg_k4 {b : Nat → Int32} {n s : Nat} {I : Nat → Nat → Int32} {J : Nat → Nat → Int64} {T : Option Nat} {P : Int32 → (Nat → Nat → Int32) → (Nat → Nat → Int64) → Option Nat → Prop} (hx : ytx b n I) (hs : s ≤ n) (hm : ymt b n s I J) (hP : P (yk4 (ykd b n s)) I J T) : wp_X12_inWords_rs4 I J T P := by
  obtain ⟨e18, e19, e17, -, -⟩ := hm
  have no : ¬ I 204 17 = 2 → yk4 (ykd b n s) = -1 → wp_X12_inWords_rs4 I J T P := fun h1 h2 => by
    unfold wp_X12_inWords_rs4
    rw [h2] at hP
    exact ⟨fun z => absurd z h1, fun _ => hP⟩
  rcases ykd_cs b (fun q hq => (hx.2.2 q hq).2) hs with ⟨j, j1, j2, j3, j4, j5⟩ | h | h | h | ⟨h1, h2⟩
  · have eE : yen b n s = yR (fun q => yL (b q)) (n - s) s := by unfold yen; rw [if_neg (by omega), if_pos j4]
    refine yg_w4 hx (yen_gt b j3) (yen_ge b hs).2 (fun q h1 h2 => ?_) (by rw [e17, j2, yct_w j1]) e18 e19 ?_
    · rw [eE] at h2; exact yR_in h1 h2
    · rw [yk_w.2, ← j5, ← j2]; exact hP
  · exact no (by rw [e17, h]; decide) (by rw [h]; decide)
  · exact no (by rw [e17, h]; decide) (by rw [h]; decide)
  · exact no (by rw [e17, h]; decide) (by rw [h]; decide)
  · refine no ?_ ?_
    · rw [e17, h2]; decide
    · exact (yS_k h1).2.1

theorem yg_key {b : Nat → Int32} {n s : Nat} {a : Int32} {I : Nat → Nat → Int32} {J : Nat → Nat → Int64} {T : Option Nat} {P : Int32 → (Nat → Nat → Int32) → (Nat → Nat → Int64) → Option Nat → Prop} (hx : ytx b n I) (hs : s ≤ n) (hm : ymt b n s I J) (ha : a ≤ 10 ∧ ¬ a = -1) (h1 : ykd b n s = a → P 1 I J T) (h0 : ¬ ykd b n s = a → P 0 I J T) : wp_X12_isKey a I J T P := by
  unfold wp_X12_isKey
  refine yg_k3 hx hs hm ⟨fun z => h1 ?_, fun z => h0 (fun e => z ?_)⟩
  · unfold yk3 at z
    split at z
    · exact z
    · exact absurd z.symm ha.2
  · unfold yk3
    rw [e, if_pos ha.1]
theorem yg_sg {b : Nat → Int32} {n s : Nat} {a : Int32} {I : Nat → Nat → Int32} {J : Nat → Nat → Int64} {T : Option Nat} {P : Int32 → (Nat → Nat → Int32) → (Nat → Nat → Int64) → Option Nat → Prop} (hx : ytx b n I) (hs : s ≤ n) (hm : ymt b n s I J) (ha : yS a = true) (h1 : ykd b n s = a → P 1 I J T) (h0 : ¬ ykd b n s = a → P 0 I J T) : wp_X12_isSign a I J T P := by
  obtain ⟨e18, e19, e17, e20, e4⟩ := hm
  unfold wp_X12_isSign
  rw [e17]
  have no : ¬ yct (ykd b n s) = 4 → ¬ ykd b n s = a → (yct (ykd b n s) = 4 → (lg_cmp (J 204 23) a.toInt64 = 0 → P 1 I J T) ∧ (¬ lg_cmp (J 204 23) a.toInt64 = 0 → P 0 I J T)) ∧ (¬ yct (ykd b n s) = 4 → P 0 I J T) := fun h2 h3 => ⟨fun z => absurd z h2, fun _ => h0 h3⟩
  have q := yS_k ha
  rcases ykd_cs b (fun q hq => (hx.2.2 q hq).2) hs with ⟨j, j1, j2, j3, j4, j5⟩ | h | h | h | ⟨h5, h2⟩
  · refine no (by rw [j2, yct_w j1]; decide) (fun z => ?_)
    rw [← z, j2, (yS_w j1).1] at ha
    cases ha
  · exact no (by rw [h]; decide) (fun z => q.2.2.1 (z.symm.trans h))
  · exact no (by rw [h]; decide) (fun z => q.2.2.2.1 (z.symm.trans h))
  · exact no (by rw [h]; decide) (fun z => q.2.2.2.2 (z.symm.trans h))
  · refine ⟨fun _ => ?_, fun z => absurd h2 z⟩
    rw [e4 h5, lgc_eq]
    refine ⟨fun z => h1 ?_, fun z => h0 (fun y => z (by rw [y]))⟩
    have := congrArg Int64.toInt z
    rw [Int32.toInt_toInt64, Int32.toInt_toInt64] at this
    exact Int32.toInt_inj.mp this
