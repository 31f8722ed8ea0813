/-! treaties: the reference reads a treaty -/
def ykp (k : Int32) : Prop := k = 2 ∨ k = 3 ∨ k = 4 ∨ k = 5 ∨ k = 6
theorem ykp2 : ykp 2 := Or.inl rfl
theorem ykp6 : ykp 6 := Or.inr (Or.inr (Or.inr (Or.inr rfl)))
theorem ysm_k {K : Nat → Int32} {v : Nat → Int64} : ∀ m c f fs at_ o k c', ysm K v m c f fs at_ o = .inl (k, c') → ykp k := by
  intro m
  induction m with
  | zero => intro c f fs at_ o k c' h; rw [ysm] at h; have := congrArg Prod.fst (Sum.inl.inj h); exact Or.inl this.symm
  | succ m ih =>
    intro c f fs at_ o k c' h
    have l2 : ∀ {x : Nat}, (Sum.inl (2, x) : Sum (Int32 × Nat) (List YG × Nat)) = .inl (k, c') → ykp k := fun e => Or.inl (congrArg Prod.fst (Sum.inl.inj e)).symm
    have l6 : ∀ {x : Nat}, (Sum.inl (6, x) : Sum (Int32 × Nat) (List YG × Nat)) = .inl (k, c') → ykp k := fun e => Or.inr (Or.inr (Or.inr (Or.inr (congrArg Prod.fst (Sum.inl.inj e)).symm)))
    cases at_ with
    | true =>
      rw [ysm] at h
      repeat' split at h
      all_goals first | exact ih _ _ _ _ _ _ _ h | exact l2 h | exact l6 h | cases h
    | false =>
      rw [ysm] at h
      repeat' split at h
      all_goals first | exact ih _ _ _ _ _ _ _ h | exact l2 h | exact l6 h | cases h
theorem yone_k {K : Nat → Int32} {v : Nat → Int64} {c : Nat} {k : Int32} {c' : Nat} (h : yone K v c = .inl (k, c')) : ykp k := by
  unfold yone at h
  split at h
  · next e he =>
    have h := Sum.inl.inj h
    rw [h] at he
    exact ysm_k _ _ _ _ _ _ _ _ he
  · split at h
    · split at h
      · next e he =>
        have h := Sum.inl.inj h
        rw [h] at he
        exact ysm_k _ _ _ _ _ _ _ _ he
      · cases h
    · exact Or.inl (congrArg Prod.fst (Sum.inl.inj h)).symm
theorem yte_k {K : Nat → Int32} {v : Nat → Int64} : ∀ m c bg ws k c', yte K v m c bg ws = .inl (k, c') → ykp k := by
  intro m
  induction m with
  | zero => intro c bg ws k c' h; rw [yte] at h; exact Or.inl (congrArg Prod.fst (Sum.inl.inj h)).symm
  | succ m ih =>
    intro c bg ws k c' h
    rw [yte] at h
    split at h
    · next e he =>
      have h := Sum.inl.inj h
      rw [h] at he
      exact yone_k he
    · split at h
      · exact ih _ _ _ _ _ h
      · split at h
        · exact ih _ _ _ _ _ h
        · cases h
theorem yc1_k {K : Nat → Int32} {v N : Nat → Int64} {nm : List Nat} {c : Nat} {k : Int32} {c' : Nat} (h : yc1 K v N nm c = .inl (k, c')) : ykp k := by
  have l2 : ∀ {x : Nat}, (Sum.inl (2, x) : Sum (Int32 × Nat) (YC × Nat)) = .inl (k, c') → ykp k := fun e => Or.inl (congrArg Prod.fst (Sum.inl.inj e)).symm
  have s5 : ∀ {th fr to ws c6}, yc5 K v c th fr to ws c6 = .inl (k, c') → ykp k := fun {th fr to ws c6} h => by
    unfold yc5 at h
    split at h
    · split at h
      · next e he =>
        have h := Sum.inl.inj h
        rw [h] at he
        exact ysm_k _ _ _ _ _ _ _ _ he
      · split at h
        · cases h
        · exact l2 h
    · exact l2 h
  have s4 : ∀ {th fr to c5}, yc4 K v c th fr to c5 = .inl (k, c') → ykp k := fun {th fr to c5} h => by
    unfold yc4 at h
    split at h
    · split at h
      · next e he =>
        have h := Sum.inl.inj h
        rw [h] at he
        exact yte_k _ _ _ _ _ _ he
      · exact s5 h
    · exact s5 h
  have li : ∀ {c x y z}, yli K v 700 c x = .inl (y, z) → ykp y := fun h => (yli_k _ _ _ _ _ h).elim (fun e => Or.inl e) (fun e => Or.inr (Or.inr (Or.inr (Or.inl e))))
  have s3 : ∀ {th fr c4}, yc3 K v c th fr c4 = .inl (k, c') → ykp k := fun {th fr c4} h => by
    unfold yc3 at h
    split at h
    · split at h
      · next e he =>
        have h := Sum.inl.inj h
        rw [h] at he
        exact li he
      · exact s4 h
    · exact s4 h
  have s2 : ∀ {th c3}, yc2 K v c th c3 = .inl (k, c') → ykp k := fun {th c3} h => by
    unfold yc2 at h
    split at h
    · split at h
      · next e he =>
        have h := Sum.inl.inj h
        rw [h] at he
        exact li he
      · exact s3 h
    · exact s3 h
  unfold yc1 at h
  split at h
  · split at h
    · exact Or.inr (Or.inl (congrArg Prod.fst (Sum.inl.inj h)).symm)
    · split at h
      · exact Or.inr (Or.inr (Or.inl (congrArg Prod.fst (Sum.inl.inj h)).symm))
      · split at h
        · split at h
          · exact s2 h
          · split at h
            · exact s2 h
            · exact l2 h
        · exact l2 h
  · exact l2 h
theorem yft_q {b : Nat → Int32} {n c : Nat} {k : Int32} (h : ykp k) : ¬ yft b n c k ≤ 0 ∧ ¬ yft b n c k = 0 ∧ (¬ 1 < yft b n c k → yft b n c k = 1) := by
  unfold yft
  split
  · decide
  · rcases h with g | g | g | g | g <;> rw [g] <;> decide
set_option maxHeartbeats 4000000 in
theorem yg_cl {b : Nat → Int32} {n L S O t c : Nat} {R : Nat → Nat → Int32} {RJ : Nat → Nat → Int64} {o : List YG} {w : List YP} {q : List YC} {M : Nat} (hL : L ≤ n) (hn : n ≤ 600 ∧ M ≤ 1800) (hL1 : yk b n L = 21 ∨ yk b n L = 22) (hv : ∀ c, yk b n c = 20 → ∃ m : Nat, m ≤ 9999999 ∧ yv b n c = lZ m) (hO6 : O ≤ 600) (ht : t < 4) (hq : q.length ≤ 12) {I : Nat → Nat → Int32} {J : Nat → Nat → Int64} {T : Option Nat} {P : Int32 → (Nat → Nat → Int32) → (Nat → Nat → Int64) → Option Nat → Prop} (hc : c ≤ L) (hS : S + o.length ≤ M + c) (hW : 3 * w.length ≤ c) (hM : yM4 b n S O t R RJ c o w q I J) (hbad : yBd b n S O t R RJ I J T P (yc1 (yk b n) (yv b n) (yn b n) (q.map (fun x => x.1)) c)) (hok : yGd M b n L S O t R RJ o w q I J T P (yc1 (yk b n) (yv b n) (yn b n) (q.map (fun x => x.1)) c)) : wp_X12_clause I J T P := by
  have hx := hM.1.1
  have hs := yps_le b n c
  have hm := hM.1.2.1
  have hb8 : ∀ q, q < n → (b q).toInt8.toInt32 = b q := fun q hq => (hx.2.2 q hq).2
  have it : ix_inb (nI t) 5 = true := nI_in2 (by omega) (by decide)
  have dt : (nI t).toNatClampNeg = t := nI_clamp (by omega)
  have e17 : I 204 17 = yct (yk b n c) := hm.2.2.1
  have e18 : I 204 18 = nI (yps b n c) := hm.1
  have e19 : I 204 19 = nI (ye b n c) := hm.2.1
  have hye := ye_le b n c
  unfold yc1 at hbad hok
  by_cases h18 : yk b n c = 18
  · rw [if_pos h18] at hbad hok
    obtain ⟨l8, -⟩ := yk_18 h18 hb8
    unfold wp_X12_clause
    rw [e17, h18, e19]
    refine ⟨fun _ => ⟨fun _ => ?_, fun z => ?_⟩, fun z => absurd (by decide) z⟩
    · refine yg_k3 hx hs hm ⟨fun _ => yg_k4 hx hs hm ⟨fun _ => ?_, fun z => ?_⟩, fun z => ?_⟩
      · rw [hM.2.2.1, dt, hM.2.2.2.1]
        refine ⟨it, fun z => ?_, fun z => ?_⟩
        · have z : q.length = 12 := (nI_eq (b := 12) (by omega) (by omega)).mp z
          rw [if_pos (by rw [List.length_map]; exact z)] at hbad
          exact yM4_fl hM fr_refl fr_refl (fun I2 q1 q2 q3 q4 q5 => hbad 3 c I2 J rfl q1 q2 q3 q4 q5)
        · have z : ¬ q.length = 12 := fun e => z (by rw [e]; rfl)
          rw [if_neg (by rw [List.length_map]; exact z)] at hbad hok
          have hq2 : q.length < 12 := by omega
          refine yg_nm hx h18 e18 e19 (fun V77 => ?_)
          rw [hM.2.2.1, dt, hM.2.2.2.1, show (12 : Int32) = nI 12 from rfl, nI_mul, nI_add]
          refine ⟨it, ?_⟩
          intro V hV
          have key : ∀ m k, k + m = q.length → (∀ i x, i < k → q[i]? = some x → ¬ yn b n x.1 = yn b n c) → V (yna b n c) (nI (12 * t + q.length)) (nI (12 * t + k)) I J T := by
            intro m
            induction m with
            | zero =>
              intro k hk no
              have hk : k = q.length := by omega
              subst hk
              have nany : ¬ (q.map (fun x => x.1)).any (fun d => decide (yn b n d = yn b n c)) = true := fun e => by
                rw [List.any_eq_true] at e
                obtain ⟨d, d1, d2⟩ := e
                obtain ⟨x, x1, x2⟩ := List.mem_map.mp d1
                obtain ⟨i, hi, ei⟩ := List.mem_iff_getElem.mp x1
                refine no i x hi (by rw [List.getElem?_eq_getElem hi, ei]) ?_
                rw [x2]; simpa using d2
              rw [if_neg nany] at hbad hok
              apply hV
              unfold wb_X12_clause_130_77
              have hg : 12 * t + q.length = 12 * t + q.length := rfl
              rw [nI_clamp (show 12 * t + q.length < 2 ^ 31 by omega)]
              refine ⟨fun z => absurd ((yi_lt (by omega) (by omega)).mp z) (by omega), fun _ => ⟨nI_in2 (by omega) (by decide), ?_⟩⟩
              have hM1 := yM4_wj (g := 12 * t + q.length) (v := yna b n c) hM rfl (by omega)
              have E1 : fr_off yEC J (ix_u2 J 224 (12 * t + q.length) (yna b n c)) := fr_putn rfl (by omega) fr_refl
              have a1 : (ix_u2 J 224 (12 * t + q.length) (yna b n c)) 224 (12 * t + q.length) = yna b n c := by simp [u2_e]
              have c1L := yKL hL1 hc h18 (by decide) (by decide)
              refine yM4_nx hM1 (fun I2 J2 o2 r2 hM2 => ?_)
              have O2 : fr_off yDC I I2 := fr_mono (by decide) o2
              have E2 := fr_trans E1 (fr_mono (E := yEC) (by decide) r2)
              have b1 : J2 224 (12 * t + q.length) = yna b n c := by rw [fr_rw1 r2 224 rfl]; exact a1
              unfold wp_X12_want
              refine yg_sg hM2.1.1 (yps_le b n (c + 1)) hM2.1.2.1 (by decide) (fun y => ⟨fun z => absurd z (by decide), fun _ => ?_⟩) (fun y => ⟨fun _ => ?_, fun z => absurd rfl z⟩)
              · have y : yk b n (c + 1) = 58 := y
                rw [if_pos y] at hbad hok
                have c2L := yKL hL1 c1L y (by decide) (by decide)
                refine yM4_nx hM2 (fun I3 J3 o3 r3 hM3 => ⟨fun z => absurd z (by decide), fun _ => ?_⟩)
                have O3 := fr_trans O2 (fr_mono (E := yDC) (by decide) o3)
                have E3 := fr_trans E2 (fr_mono (E := yEC) (by decide) r3)
                have d1 : J3 224 (12 * t + q.length) = yna b n c := by rw [fr_rw1 r3 224 rfl]; exact b1
                have hx3 := hM3.1.1
                have hm3 := hM3.1.2.1
                have hs3 := yps_le b n (c + 2)
                have j204 : (yk b n (c + 2) = 0 ∨ yk b n (c + 2) = 1) → wj_X12_clause_j204_77_130 (nI (12 * t + q.length)) I3 J3 T V77 V P := by
                  intro hor
                  unfold wj_X12_clause_j204_77_130
                  have c3L : c + 2 + 1 ≤ L := by rcases hor with g | g <;> exact yKL hL1 c2L g (by decide) (by decide)
                  refine yg_key hx3 hs3 hm3 ⟨by decide, by decide⟩ (fun y1 => ⟨fun z => absurd z (by decide), fun _ => ?_⟩) (fun y1 => ⟨fun _ => ?_, fun z => absurd rfl z⟩)
                  · have y1 : yk b n (c + 2) = 1 := y1
                    rw [if_neg (by rw [y1]; decide), if_pos y1] at hbad hok
                    exact yg_c2 (th := true) hL hn hL1 hv hO6 ht hq2 rfl c3L (by omega) (by omega) hM3 d1 h18 O3 E3 hbad hok
                  · have y1 : ¬ yk b n (c + 2) = 1 := y1
                    have y0 : yk b n (c + 2) = 0 := hor.resolve_right y1
                    rw [if_pos y0] at hbad hok
                    exact yg_c2 (th := false) hL hn hL1 hv hO6 ht hq2 rfl c3L (by omega) (by omega) hM3 d1 h18 O3 E3 hbad hok
                refine yg_key hx3 hs3 hm3 ⟨by decide, by decide⟩ (fun y0 => ⟨fun z => absurd z (by decide), fun _ => j204 (Or.inl y0)⟩) (fun y0 => ⟨fun _ => yg_key hx3 hs3 hm3 ⟨by decide, by decide⟩ (fun y1 => ⟨fun z => absurd z (by decide), fun _ => j204 (Or.inr y1)⟩) (fun y1 => ⟨fun _ => ?_, fun z => absurd rfl z⟩), fun z => absurd rfl z⟩)
                have y0 : ¬ yk b n (c + 2) = 0 := y0
                have y1 : ¬ yk b n (c + 2) = 1 := y1
                rw [if_neg y0, if_neg y1] at hbad
                exact yM4_fl hM3 O3 E3 (fun I4 q1 q2 q3 q4 q5 => hbad 2 (c + 2) I4 J3 rfl q1 q2 q3 q4 q5)
              · have y : ¬ yk b n (c + 1) = 58 := y
                rw [if_neg y] at hbad
                refine yM_fl hM2.1 (fun I3 o3 f1 f2 => ⟨by decide, fun _ => ?_, fun z => absurd rfl z⟩)
                exact hbad 2 (c + 1) I3 J2 rfl (fr_trans O2 (fr_mono (by decide) o3)) E2 f1 f2 (yM4_low hM2 o3)
            | succ m ih =>
              intro k hk no
              obtain ⟨x, hxk⟩ : ∃ x, q[k]? = some x := ⟨q[k]'(by omega), List.getElem?_eq_getElem (by omega)⟩
              obtain ⟨n1, n2, -⟩ := hM.2.2.2.2.1 k x hxk
              apply hV
              unfold wb_X12_clause_130_77
              rw [nI_clamp (show 12 * t + k < 2 ^ 31 by omega), lgc_eq, n1, ← yn_eq hb8 n2 h18, nI_1]
              refine ⟨fun _ => ⟨nI_in2 (by omega) (by decide), fun e => ?_, fun e => ih (k + 1) (by omega) (fun i y hi hy => ?_)⟩, fun z => absurd ((yi_lt (by omega) (by omega)).mpr (by omega)) z⟩
              · have yany : (q.map (fun x => x.1)).any (fun d => decide (yn b n d = yn b n c)) = true := by
                  rw [List.any_eq_true]
                  exact ⟨x.1, List.mem_map.mpr ⟨x, List.mem_of_getElem? hxk, rfl⟩, decide_eq_true e⟩
                rw [if_pos yany] at hbad
                exact yM4_fl hM fr_refl fr_refl (fun I2 q1 q2 q3 q4 q5 => hbad 4 c I2 J rfl q1 q2 q3 q4 q5)
              · by_cases ei : i = k
                · rw [ei, hxk] at hy
                  rw [← Option.some.inj hy]; exact e
                · exact no i y (by omega) hy
          exact key q.length 0 (by omega) (fun i x hi => by omega)
      · exfalso
        have : ykd b n (yps b n c) = 18 := h18
        rw [this] at z
        exact z (by decide)
      · exfalso
        have : ykd b n (yps b n c) = 18 := h18
        rw [this] at z
        exact z (by decide)
    · exfalso
      rw [e18, nI_sub hye.1 (by have := hx.1; omega)] at z
      exact z ((yi_le (b := 8) (by have := hx.1; omega) (by omega)).mpr l8)
  · rw [if_neg h18] at hbad
    have j44 : wj_X12_clause_j44 I J T P := yM4_fl hM fr_refl fr_refl (fun I2 q1 q2 q3 q4 q5 => hbad 2 c I2 J rfl q1 q2 q3 q4 q5)
    unfold wp_X12_clause
    rw [e17, e19, e18, nI_sub hye.1 (by have := hx.1; omega)]
    refine ⟨fun z2 => ⟨fun z8 => yg_k3 hx hs hm ⟨fun y3 => yg_k4 hx hs hm ⟨fun y4 => ?_, fun _ => j44⟩, fun _ => j44⟩, fun _ => j44⟩, fun _ => j44⟩
    exfalso
    have z8 : ye b n c - yps b n c ≤ 8 := (yi_le (b := 8) (by have := hx.1; omega) (by omega)).mp z8
    have z2 : yct (ykd b n (yps b n c)) = 2 := z2
    rcases ykd_cs b hb8 hs with ⟨j, j1, j2, j3, j4, j5⟩ | h | h | h | ⟨h5, h2⟩
    · rw [j2] at y3 y4
      obtain ⟨w1, w2⟩ := yk_w1 ⟨j, by omega⟩
      simp only at w1 w2
      rw [w1] at y3
      rw [w2] at y4
      have p1 : ¬ j < 11 := fun g => by
        rw [if_pos g] at y3
        exact nI_nm1 (by omega) y3
      have p2 : ¬ (11 ≤ j ∧ j < 18) := fun g => by
        rw [if_pos g] at y4
        exact nI_nm1 (by omega) y4
      have p3 : j ≠ 19 := fun g => by
        unfold ywk at j5
        have z8 : yen b n (yps b n c) - yps b n c ≤ 8 := z8
        rw [if_pos z8] at j5
        have := yK_le b (yps b n c) (yen b n (yps b n c)) 18 0 (by omega)
        omega
      have : j = 18 := by omega
      rw [this] at j2
      exact h18 j2
    · rw [h] at z2; exact absurd z2 (by decide)
    · rw [h] at z2; exact absurd z2 (by decide)
    · rw [h] at z2; exact absurd z2 (by decide)
    · rw [h2] at z2; exact absurd z2 (by decide)
def ycs (K : Nat → Int32) (v N : Nat → Int64) : Nat → Nat → List YC → Sum (Int32 × Nat) (List YC)
  | 0, c, _ => .inl (2, c)
  | m + 1, c, q => if K c = 21 then .inr q else match yc1 K v N (q.map (fun x => x.1)) c with
    | .inl e => .inl e
    | .inr (x, c') => ycs K v N m c' (q ++ [x])
theorem yct_0 {k : Int32} : yct k = 0 ↔ k = 21 := by
  unfold yct
  constructor
  · intro h
    split at h
    · assumption
    · split at h
      · exact absurd h (by decide)
      · split at h
        · exact absurd h (by decide)
        · split at h <;> exact absurd h (by decide)
  · intro h; rw [h]; decide
theorem yc1_l {K : Nat → Int32} {v N : Nat → Int64} {nm : List Nat} {c : Nat} {x : YC} {c' : Nat} (h : yc1 K v N nm c = .inr (x, c')) : ¬ nm.length = 12 := fun e => by
  unfold yc1 at h
  split at h
  · cases h
  · cases h
set_option maxHeartbeats 4000000 in
theorem yg_tl {b : Nat → Int32} {n L S O t : Nat} {R : Nat → Nat → Int32} {RJ : Nat → Nat → Int64} {M : Nat} (hL : L ≤ n) (hn : n ≤ 600 ∧ M ≤ 1800) (hL1 : yk b n L = 21 ∨ yk b n L = 22) (hv : ∀ c, yk b n c = 20 → ∃ m : Nat, m ≤ 9999999 ∧ yv b n c = lZ m) (hO6 : O ≤ 600) (ht : t < 4) {x2 x3 x4 : Int32} {I0 : Nat → Nat → Int32} {J0 : Nat → Nat → Int64} {T : Option Nat} {V V49 : Int32 → Int32 → Int32 → (Nat → Nat → Int32) → (Nat → Nat → Int64) → Option Nat → Prop} {P : Int32 → (Nat → Nat → Int32) → (Nat → Nat → Int64) → Option Nat → Prop} (hV : ∀ x2 x3 x4 I J T, wb_X12_treaty_117_49 x2 x3 x4 I J T V V49 P → V x2 x3 x4 I J T) : ∀ m c o w q I J, q.length + m = 13 → q.length ≤ 12 → c ≤ L → S + o.length ≤ M + c → 3 * w.length ≤ c → yM4 b n S O t R RJ c o w q I J → fr_off yDC I0 I → fr_off yEC J0 J → (∀ k c' I2 J2, ycs (yk b n) (yv b n) (yn b n) m c q = .inl (k, c') → fr_off yDC I0 I2 → fr_off yEC J0 J2 → I2 204 22 = yft b n c' k → I2 204 21 = nI (yps b n c') → ylow S O t R RJ I2 J2 → wp_X12_refuse 9 (ix_u2 (ix_u2 (ix_u2 I2 204 20 (I2 204 22)) 204 44 x3) 204 45 x4) J2 T (fun v30 I30 J30 T30 => P v30 I30 J30 T30)) → (∀ q2 c' o2 w2 I2 J2, ycs (yk b n) (yv b n) (yn b n) m c q = .inr q2 → q2.length ≤ 12 → c' ≤ L → fr_off yDC I0 I2 → fr_off yEC J0 J2 → S + o2.length ≤ M + c' → 3 * w2.length ≤ c' → yM4 b n S O t R RJ c' o2 w2 q2 I2 J2 → ix_inb (I2 204 24) 5 = true ∧ wp_X12_gives (I2 204 24 + 1 - 1) (ix_u2 (ix_u2 (ix_u2 I2 204 20 (I2 204 22)) 215 (I2 204 24).toNatClampNeg x2) 204 24 (I2 204 24 + 1)) J2 T (fun v29 I29 J29 T29 => P v29 I29 J29 T29)) → V x2 x3 x4 I J T := by
  intro m
  induction m with
  | zero => intro c o w q I J h1 h2; omega
  | succ m ih =>
    intro c o w q I J hm hq12 hc hS hW hM hO hE hbad hok
    have e17 : I 204 17 = yct (yk b n c) := hM.1.2.1.2.2.1
    have e22 := hM.1.2.2.1
    rw [ycs] at hbad hok
    apply hV
    unfold wb_X12_treaty_117_49
    by_cases h21 : yk b n c = 21
    · rw [if_pos h21] at hok
      have fin := hok q c o w I J rfl hq12 hc hO hE hS hW hM
      exact ⟨fun _ => ⟨fun _ => fin, fun z => absurd (by rw [e22]; decide) z⟩, fun z => absurd (by rw [e17]; exact yct_0.mpr h21) z⟩
    · rw [if_neg h21] at hbad hok
      refine ⟨fun z => absurd (yct_0.mp (e17.symm.trans z)) h21, fun _ => ⟨fun _ => ?_, fun z => absurd e22 z⟩⟩
      refine yg_cl hL hn hL1 hv hO6 ht hq12 hc hS hW hM (fun k c' I2 J2 e q1 q2 f1 f2 lo => ⟨fun _ => ?_, fun z => absurd rfl z⟩) (fun x c' I2 J2 e hc' q1 q2 s2 w2 m2 => ⟨fun z => absurd z (by decide), fun _ => ?_⟩)
      · have hp := yft_q (b := b) (n := n) (c := c') (yc1_k e)
        rw [e] at hbad
        have fin : V x2 x3 x4 (ix_u2 I2 204 22 (I2 204 22)) J2 T := by
          have same : ix_u2 I2 204 22 (I2 204 22) = I2 := by
            funext a j
            rw [u2_e]
            split
            · next e1 => split
                         · next e2 => rw [e1, e2]
                         · rfl
            · rfl
          rw [same]
          have rf := hbad k c' I2 J2 rfl (fr_trans hO q1) (fr_trans hE q2) f1 f2 lo
          have n1 : ¬ I2 204 22 ≤ 0 := by rw [f1]; exact hp.1
          have n2 : ¬ I2 204 22 = 0 := by rw [f1]; exact hp.2.1
          apply hV
          unfold wb_X12_treaty_117_49
          exact ⟨fun _ => ⟨fun z => absurd z n1, fun _ => rf⟩, fun _ => ⟨fun z => absurd z n2, fun _ => ⟨fun z => absurd z n1, fun _ => rf⟩⟩⟩
        unfold wp_J9_max_7cf53
        refine ⟨fun _ => fin, fun z => ?_⟩
        rw [f1] at z
        have e1 := hp.2.2 z
        rw [f1, e1] at fin
        exact fin
      · rw [e] at hbad hok
        have hl : ¬ q.length = 12 := by
          have := yc1_l e
          rw [List.length_map] at this
          exact this
        have le : (q ++ [x]).length = q.length + 1 := by simp
        exact ih c' _ _ (q ++ [x]) I2 J2 (by omega) (by omega) hc' s2 w2 m2 (fr_trans hO q1) (fr_trans hE q2) hbad hok
