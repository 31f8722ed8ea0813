/-! treaties: a clause that was read lies alike on both sides -/
def yws (l : List YG) : Prop := ywf l ∧ tc_dp (yen_c l) 0 = some 1
def ywo (x : YO) : Prop := yws x.2.1 ∧ yws x.2.2.2 ∧ (x.2.2.1 = 60 ∨ x.2.2.1 = 61 ∨ x.2.2.1 = 62)
def ywl (f : Int32) : Prop := f = 0 ∨ ∃ m : Nat, 0 < m ∧ m < 128 ∧ f = nI m
def ywx (x : YC) : Prop := ywl x.2.2.1 ∧ ywl x.2.2.2.1 ∧ yws x.2.2.2.2.2 ∧ ∀ y, y ∈ x.2.2.2.2.1 → ywo y.2
theorem ysm_w {K : Nat → Int32} {v : Nat → Int64} (hv : ∀ c, K c = 20 → ∃ n : Nat, n ≤ 9999999 ∧ v c = lZ n) {m c : Nat} {o2 : List YG} {c2 : Nat} (h : ysm K v m c (0, 0, 0) [] true [] = .inr (o2, c2)) : yws o2 := by
  have := ysm_ok hv _ _ _ _ _ _ _ _ h ⟨⟨by decide, Or.inl rfl, Or.inl rfl⟩, rfl⟩ (by simp) (fun x hx => by cases hx) rfl
  exact ⟨this.1, this.2.1⟩
theorem yone_w {K : Nat → Int32} {v : Nat → Int64} (hv : ∀ c, K c = 20 → ∃ n : Nat, n ≤ 9999999 ∧ v c = lZ n) {c : Nat} {x : YO} {c2 : Nat} (h : yone K v c = .inr (x, c2)) : ywo x := by
  unfold yone at h
  split at h
  · cases h
  · next l c3 e1 =>
    split at h
    · next hc =>
      split at h
      · cases h
      · next r c4 e2 =>
        have h := congrArg Prod.fst (Sum.inr.inj h)
        simp only at h
        rw [← h]
        exact ⟨ysm_w hv e1, ysm_w hv e2, hc.elim Or.inl (fun z => z.elim (fun y => Or.inr (Or.inr y)) (fun y => Or.inr (Or.inl y)))⟩
    · cases h
theorem yte_w {K : Nat → Int32} {v : Nat → Int64} (hv : ∀ c, K c = 20 → ∃ n : Nat, n ≤ 9999999 ∧ v c = lZ n) : ∀ m c bg ws w2 c2, (∀ y, y ∈ ws → ywo y.2) → yte K v m c bg ws = .inr (w2, c2) → ∀ y, y ∈ w2 → ywo y.2 := by
  intro m
  induction m with
  | zero => intro c bg ws w2 c2 _ h; rw [yte] at h; cases h
  | succ m ih =>
    intro c bg ws w2 c2 hw h
    rw [yte] at h
    split at h
    · cases h
    · next x c3 e1 =>
      have hw2 : ∀ y, y ∈ ws ++ [(bg, x)] → ywo y.2 := fun y hy => by
        rcases List.mem_append.mp hy with g | g
        · exact hw y g
        · rw [List.mem_singleton.mp g]; exact yone_w hv e1
      split at h
      · exact ih _ _ _ _ _ hw2 h
      · split at h
        · exact ih _ _ _ _ _ hw2 h
        · have h := congrArg Prod.fst (Sum.inr.inj h)
          simp only at h
          rw [← h]; exact hw2
theorem yc1_w {K : Nat → Int32} {v N : Nat → Int64} (hv : ∀ c, K c = 20 → ∃ n : Nat, n ≤ 9999999 ∧ v c = lZ n) {nm : List Nat} {c : Nat} {x : YC} {c' : Nat} (h : yc1 K v N nm c = .inr (x, c')) : ywx x := by
  have s5 : ∀ {th fr to ws c6}, ywl fr → ywl to → (∀ y, y ∈ ws → ywo y.2) → yc5 K v c th fr to ws c6 = .inr (x, c') → ywx x := fun {th fr to ws c6} h1 h2 h3 h => by
    unfold yc5 at h
    split at h
    · split at h
      · cases h
      · next sm c7 e1 =>
        split at h
        · have h := congrArg Prod.fst (Sum.inr.inj h)
          simp only at h
          rw [← h]
          exact ⟨h1, h2, ysm_w hv e1, h3⟩
        · cases h
    · cases h
  have s4 : ∀ {th fr to c5}, ywl fr → ywl to → yc4 K v c th fr to c5 = .inr (x, c') → ywx x := fun {th fr to c5} h1 h2 h => by
    unfold yc4 at h
    split at h
    · split at h
      · cases h
      · next ws c6 e1 => exact s5 h1 h2 (yte_w hv _ _ _ _ _ _ (fun y hy => by cases hy) e1) h
    · exact s5 h1 h2 (fun y hy => by cases hy) h
  have li : ∀ {c y z}, yli K v 700 c 0 = .inr (y, z) → ywl y := fun h => Or.inr (yli_nz hv _ _ _ _ _ ⟨0, by omega, rfl⟩ h).1
  have s3 : ∀ {th fr c4}, ywl fr → yc3 K v c th fr c4 = .inr (x, c') → ywx x := fun {th fr c4} h1 h => by
    unfold yc3 at h
    split at h
    · split at h
      · cases h
      · next to c5 e1 => exact s4 h1 (li e1) h
    · exact s4 h1 (Or.inl rfl) h
  have s2 : ∀ {th c3}, yc2 K v c th c3 = .inr (x, c') → ywx x := fun {th c3} h => by
    unfold yc2 at h
    split at h
    · split at h
      · cases h
      · next fr c4 e1 => exact s3 (li e1) h
    · exact s3 (Or.inl rfl) h
  unfold yc1 at h
  split at h
  · split at h
    · cases h
    · split at h
      · cases h
      · split at h
        · split at h
          · exact s2 h
          · split at h
            · exact s2 h
            · cases h
        · cases h
  · cases h
theorem ycs_w {K : Nat → Int32} {v N : Nat → Int64} (hv : ∀ c, K c = 20 → ∃ n : Nat, n ≤ 9999999 ∧ v c = lZ n) : ∀ m c q q2, (∀ x, x ∈ q → ywx x) → ycs K v N m c q = .inr q2 → ∀ x, x ∈ q2 → ywx x := by
  intro m
  induction m with
  | zero => intro c q q2 _ h; rw [ycs] at h; cases h
  | succ m ih =>
    intro c q q2 hq h
    rw [ycs] at h
    split at h
    · rw [← Sum.inr.inj h]; exact hq
    · split at h
      · cases h
      · next x c2 e1 =>
        refine ih _ _ _ (fun y hy => ?_) h
        rcases List.mem_append.mp hy with g | g
        · exact hq y g
        · rw [List.mem_singleton.mp g]; exact yc1_w hv e1
/-! spans -/
theorem tsig_l {s : Nat → Int32} {o : Nat → Int64} {a : Nat} {l : List YG} (h : ∀ j y, l[j]? = some y → s (a + j) = y.1 ∧ o (a + j) = y.2) : tc_sig s o a l.length = yen_c l := by
  unfold tc_sig yen_c
  apply List.ext_getElem
  · rw [List.length_map, List.length_range, List.length_map]
  · intro i h1 h2
    have h3 := h2
    rw [List.length_map] at h3
    obtain ⟨q1, q2⟩ := h i l[i] (List.getElem?_eq_getElem h3)
    rw [List.getElem_map, List.getElem_map, List.getElem_range, q1, q2]
theorem sg_l {f : Nat → Int32} {a : Nat} {l : List Int32} (h : ∀ j y, l[j]? = some y → f (a + j) = y) : sg_ f a l.length = l := by
  unfold sg_
  apply List.ext_getElem
  · rw [List.length_map, List.length_range]
  · intro i h1 h2
    have := h i l[i] (List.getElem?_eq_getElem h2)
    rw [List.getElem_map, List.getElem_range, this]
theorem tsum_l {s : Nat → Int32} {o : Nat → Int64} {S a : Nat} {l : List YG} (hw : yws l) (h : ∀ j y, l[j]? = some y → s (a + j) = y.1 ∧ o (a + j) = y.2) (hS : a + l.length ≤ S) : tc_sum s o S a (a + l.length) := by
  have := ynil hw.2
  refine ⟨by omega, hS, fun j h1 h2 => ?_, 0, by omega, ?_⟩
  · have hj : j - a < l.length := by omega
    obtain ⟨q1, q2⟩ := h (j - a) l[j - a] (List.getElem?_eq_getElem hj)
    rw [show a + (j - a) = j by omega] at q1 q2
    rw [q1, q2]
    exact hw.1 _ (List.getElem_mem hj)
  · rw [show a + l.length - a = l.length by omega, tsig_l h]; exact hw.2
theorem s01_1 (b : Bool) : (s01_ b = 1 ↔ b = true) ∧ (s01_ b = 0 ∨ s01_ b = 1) := by cases b <;> decide
/-- the ones of a test -/
theorem tt_new {S O Sn : Nat} {o : List YG} {w : List YP} {s : Nat → Int32} {oo : Nat → Int64} {lA lB rA rB cm nt bg : Nat → Int32} (hs : ∀ i y, o[i]? = some y → s (S + i) = y.1 ∧ oo (S + i) = y.2) (hw : ∀ i x, w[i]? = some x → bg (O + i) = s01_ x.1 ∧ nt (O + i) = s01_ x.2.1 ∧ lA (O + i) = nI (S + x.2.2.1) ∧ lB (O + i) = nI (S + x.2.2.2.1) ∧ cm (O + i) = x.2.2.2.2.1 ∧ rA (O + i) = nI (S + x.2.2.2.1) ∧ rB (O + i) = nI (S + x.2.2.2.2.2)) (hSn : Sn = S + o.length) (hb : Sn < 100000) : ∀ (ws : List (Bool × YO)) (p a : Nat), (∀ j y, (yrc p ws)[j]? = some y → w[a + j]? = some y) → (∀ j y, (yss ws)[j]? = some y → o[p + j]? = some y) → (∀ y, y ∈ ws → ywo y.2) → (∀ k, O + a ≤ k → k < O + a + ws.length → 0 ≤ (lA k).toInt ∧ 0 ≤ (rA k).toInt ∧ tt_ok s oo (tn_ lA) (tn_ lB) (tn_ rA) (tn_ rB) cm nt bg Sn k) ∧ (∀ pa po, tt_go s oo (tn_ lA) (tn_ lB) (tn_ rA) (tn_ rB) cm nt bg ws.length (O + a) pa po = ytg ws pa po) ∧ tt_all s oo (tn_ lA) (tn_ lB) (tn_ rA) (tn_ rB) cm nt bg (O + a) ws.length = ytl ws := by
  intro ws
  induction ws with
  | nil => intro p a _ _ _; exact ⟨fun k h1 h2 => by rw [List.length_nil] at h2; omega, fun pa po => rfl, rfl⟩
  | cons x xs ih =>
    intro p a hr hp hwf
    obtain ⟨w1, w2, w3⟩ := hwf x (List.mem_cons_self ..)
    have n1 := ynil w1.2
    have n2 := ynil w2.2
    obtain ⟨q1, q2, q3, q4, q5, q6, q7⟩ := hw (a + 0) _ (hr 0 _ rfl)
    simp only [Nat.add_zero] at q1 q2 q3 q4 q5 q6 q7
    have hl : ∀ j y, x.2.2.1[j]? = some y → o[p + j]? = some y := fun j y e => hp j y (app_l (app_l e))
    have hr2 : ∀ j y, x.2.2.2.2[j]? = some y → o[p + x.2.2.1.length + j]? = some y := fun j y e => by
      have := hp (x.2.2.1.length + j) y (app_l (app_r e))
      rw [← Nat.add_assoc] at this; exact this
    have ll : p + x.2.2.1.length ≤ o.length := by
      have := (List.getElem?_eq_some_iff.mp (hl (x.2.2.1.length - 1) _ (List.getElem?_eq_getElem (by omega)))).1
      omega
    have lr : p + x.2.2.1.length + x.2.2.2.2.length ≤ o.length := by
      have := (List.getElem?_eq_some_iff.mp (hr2 (x.2.2.2.2.length - 1) _ (List.getElem?_eq_getElem (by omega)))).1
      omega
    have hl2 : ∀ j y, x.2.2.1[j]? = some y → s (S + p + j) = y.1 ∧ oo (S + p + j) = y.2 := fun j y e => by
      have := hs _ _ (hl j y e)
      rw [← Nat.add_assoc] at this; exact this
    have hr3 : ∀ j y, x.2.2.2.2[j]? = some y → s (S + (p + x.2.2.1.length) + j) = y.1 ∧ oo (S + (p + x.2.2.1.length) + j) = y.2 := fun j y e => by
      have := hs _ _ (hr2 j y e)
      rw [← Nat.add_assoc] at this; exact this
    obtain ⟨i1, i2, i3⟩ := ih (p + x.2.2.1.length + x.2.2.2.2.length) (a + 1) (fun j y e => by
      have := hr (j + 1) y (by rw [yrc, List.getElem?_cons_succ]; exact e)
      rw [show a + 1 + j = a + (j + 1) by omega]; exact this) (fun j y e => by
      have := hp ((x.2.2.1 ++ x.2.2.2.2).length + j) y (app_r e)
      rw [List.length_append] at this
      rw [show p + x.2.2.1.length + x.2.2.2.2.length + j = p + (x.2.2.1.length + x.2.2.2.2.length + j) by omega]; exact this) (fun y hy => hwf y (List.mem_cons_of_mem _ hy))
    have t1 : tn_ lA (O + a) = S + p := tn_of q3 (by omega)
    have t2 : tn_ lB (O + a) = S + p + x.2.2.1.length := by rw [tn_of q4 (by omega)]; omega
    have t3 : tn_ rA (O + a) = S + (p + x.2.2.1.length) := tn_of q6 (by omega)
    have t4 : tn_ rB (O + a) = S + (p + x.2.2.1.length) + x.2.2.2.2.length := by rw [tn_of q7 (by omega)]; omega
    have one : tt_one s oo (tn_ lA) (tn_ lB) (tn_ rA) (tn_ rB) cm nt (O + a) = yt1 x.2 := by
      unfold tt_one yt1
      rw [t1, t2, t3, t4, show S + p + x.2.2.1.length - (S + p) = x.2.2.1.length by omega, show S + (p + x.2.2.1.length) + x.2.2.2.2.length - (S + (p + x.2.2.1.length)) = x.2.2.2.2.length by omega, tsig_l hl2, tsig_l hr3, q5, q2]
      cases hnt : x.2.1 <;> rfl
    have ok : 0 ≤ (lA (O + a)).toInt ∧ 0 ≤ (rA (O + a)).toInt ∧ tt_ok s oo (tn_ lA) (tn_ lB) (tn_ rA) (tn_ rB) cm nt bg Sn (O + a) := by
      refine ⟨by rw [q3, nI_toInt (by omega)]; omega, by rw [q6, nI_toInt (by omega)]; omega, ?_, ?_, ?_, ?_, ?_⟩
      · rw [t1, t2]; exact tsum_l w1 hl2 (by omega)
      · rw [t3, t4]; exact tsum_l w2 hr3 (by omega)
      · rw [q5]; exact w3
      · rw [q2]; exact (s01_1 _).2
      · rw [q1]; exact (s01_1 _).2
    refine ⟨fun k h1 h2 => ?_, fun pa po => ?_, ?_⟩
    · by_cases e : k = O + a
      · rw [e]; exact ok
      · exact i1 k (by omega) (by rw [List.length_cons] at h2; omega)
    · rw [List.length_cons, tt_go, ytg, q1, one, show O + a + 1 = O + (a + 1) by omega, i2, i2]
      cases hb : x.1
      · rw [if_neg (show ¬ s01_ false = 1 by decide), if_neg (show ¬ false = true by decide)]
      · rw [if_pos (show s01_ true = 1 by decide), if_pos (show true = true from rfl)]
    · rw [List.length_cons]
      show tt_one s oo (tn_ lA) (tn_ lB) (tn_ rA) (tn_ rB) cm nt (O + a) ++ tt_go s oo (tn_ lA) (tn_ lB) (tn_ rA) (tn_ rB) cm nt bg xs.length (O + a + 1) false false = yt1 x.2 ++ ytg xs false false
      rw [one, show O + a + 1 = O + (a + 1) by omega, i2]
theorem tcl_new {x : YC} {cd : List Int32} {o : List YG} {w : List YP} {S O q g t0 a p s0 : Nat} {th fr to te su en code zt zf zo oA oB sA sB lA lB rA rB cm nt bg s : Nat → Int32} {oo : Nat → Int64} (hx : ywx x) (hs : ∀ i y, o[i]? = some y → s (S + i) = y.1 ∧ oo (S + i) = y.2) (hw : ∀ i x, w[i]? = some x → bg (O + i) = s01_ x.1 ∧ nt (O + i) = s01_ x.2.1 ∧ lA (O + i) = nI (S + x.2.2.1) ∧ lB (O + i) = nI (S + x.2.2.2.1) ∧ cm (O + i) = x.2.2.2.2.1 ∧ rA (O + i) = nI (S + x.2.2.2.1) ∧ rB (O + i) = nI (S + x.2.2.2.2.2)) (hb : S + o.length < 100000) (hcd : ∀ i y, cd[i]? = some y → code i = y) (hc6 : cd.length ≤ 600)
    (c1 : th q = s01_ x.2.1) (c2 : fr q = x.2.2.1) (c3 : to q = x.2.2.2.1) (c4 : te q = nI t0) (c5 : su q = nI (t0 + (ytl x.2.2.2.2.1).length)) (c6 : en q = nI (t0 + (ytl x.2.2.2.2.1).length + x.2.2.2.2.2.length)) (c7 : t0 + (ytl x.2.2.2.2.1).length + x.2.2.2.2.2.length ≤ cd.length) (c8 : ∀ j y, (ytl x.2.2.2.2.1 ++ yen_c x.2.2.2.2.2)[j]? = some y → cd[t0 + j]? = some y)
    (z1 : zt g = s01_ x.2.1) (z2 : zf g = (if x.2.2.1 = 0 then -1 else x.2.2.1)) (z3 : zo g = (if x.2.2.2.1 = 0 then -1 else x.2.2.2.1)) (z4 : oA g = nI (O + a)) (z5 : oB g = nI (O + a + x.2.2.2.2.1.length)) (z6 : sA g = nI (S + s0)) (z7 : sB g = nI (S + s0 + x.2.2.2.2.2.length)) (z8 : a + x.2.2.2.2.1.length ≤ w.length) (z9 : ∀ j y, (yrc p x.2.2.2.2.1)[j]? = some y → w[a + j]? = some y) (z10 : ∀ j y, (yss x.2.2.2.2.1)[j]? = some y → o[p + j]? = some y) (z11 : ∀ j y, x.2.2.2.2.2[j]? = some y → o[s0 + j]? = some y) : tr_cl th fr to te su en code zt zf zo oA oB sA sB lA lB rA rB cm nt bg s oo (S + o.length) (O + w.length) q g := by
  obtain ⟨x1, x2, x3, x4⟩ := hx
  have n1 := ynil x3.2
  have ls : s0 + x.2.2.2.2.2.length ≤ o.length := by
    have := (List.getElem?_eq_some_iff.mp (z11 (x.2.2.2.2.2.length - 1) _ (List.getElem?_eq_getElem (by omega)))).1
    omega
  have hs2 : ∀ j y, x.2.2.2.2.2[j]? = some y → s (S + s0 + j) = y.1 ∧ oo (S + s0 + j) = y.2 := fun j y e => by
    have := hs _ _ (z11 j y e)
    rw [← Nat.add_assoc] at this; exact this
  have lst : ∀ {f : Int32}, ywl f → (f = 0 ∧ (if f = 0 then (-1 : Int32) else f) = -1) ∨ ∃ m : Nat, 0 < m ∧ m < 128 ∧ f = nI m ∧ (if f = 0 then (-1 : Int32) else f) = nI m := fun {f} h => by
    rcases h with h | ⟨m, m1, m2, m3⟩
    · exact Or.inl ⟨h, by rw [if_pos h]⟩
    · refine Or.inr ⟨m, m1, m2, m3, ?_⟩
      rw [if_neg (fun e => ?_)]
      · exact m3
      · rw [m3] at e
        have := (nI_eq (b := 0) (by omega) (by omega)).mp e
        omega
  obtain ⟨k1, -, k3⟩ := tt_new hs hw rfl hb x.2.2.2.2.1 p a z9 z10 x4
  refine ⟨by rw [c1, z1], by rw [c1]; exact (s01_1 _).2, by rw [c2, z2]; exact lst x1, by rw [c3, z3]; exact lst x2, t0, t0 + (ytl x.2.2.2.2.1).length, t0 + (ytl x.2.2.2.2.1).length + x.2.2.2.2.2.length, O + a, O + a + x.2.2.2.2.1.length, S + s0, S + s0 + x.2.2.2.2.2.length, by omega, by omega, by omega, by omega, by omega, c4, c5, c6, z4, z5, z6, z7, tsum_l x3 hs2 (by omega), ?_, ?_⟩
  · rw [show t0 + (ytl x.2.2.2.2.1).length + x.2.2.2.2.2.length - (t0 + (ytl x.2.2.2.2.1).length) = (yen_c x.2.2.2.2.2).length by rw [yen_len]; omega, show S + s0 + x.2.2.2.2.2.length - (S + s0) = x.2.2.2.2.2.length by omega, tsig_l hs2]
    refine sg_l (fun j y e => hcd _ _ ?_)
    rw [Nat.add_assoc]
    exact c8 _ _ (app_r e)
  · cases hws : x.2.2.2.2.1 with
    | nil => exact Or.inl ⟨rfl, rfl⟩
    | cons y ys =>
      right
      rw [hws] at k1 k3 c8
      refine ⟨by rw [List.length_cons]; omega, k1, ?_⟩
      rw [show O + a + (y :: ys).length - (O + a) = (y :: ys).length by omega, k3, show t0 + (ytl (y :: ys)).length - t0 = (ytl (y :: ys)).length by omega]
      exact sg_l (fun j z e => hcd _ _ (c8 _ _ (app_l e)))
/-! the older treaties -/
theorem tsig_c {s s2 : Nat → Int32} {o o2 : Nat → Int64} {a m : Nat} (h : ∀ j, a ≤ j → j < a + m → s2 j = s j ∧ o2 j = o j) : tc_sig s2 o2 a m = tc_sig s o a m := by
  unfold tc_sig
  refine List.map_congr_left (fun j hj => ?_)
  have := List.mem_range.mp hj
  obtain ⟨q1, q2⟩ := h (a + j) (by omega) (by omega)
  rw [q1, q2]
theorem tsum_c {s s2 : Nat → Int32} {o o2 : Nat → Int64} {S S2 a c : Nat} (h : tc_sum s o S a c) (hs : ∀ j, j < S → s2 j = s j ∧ o2 j = o j) (hS : S ≤ S2) : tc_sum s2 o2 S2 a c := by
  obtain ⟨h1, h2, h3, d, h4, h5⟩ := h
  refine ⟨h1, by omega, fun j k1 k2 => ?_, d, h4, ?_⟩
  · obtain ⟨q1, q2⟩ := hs j (by omega)
    rw [q1, q2]; exact h3 j k1 k2
  · rw [tsig_c (s := s) (o := o) (fun j k1 k2 => hs j (by omega))]; exact h5
theorem tcl_old {S O S2 O2 q g : Nat} {th fr to te su en code zt zf zo oA oB sA sB lA lB rA rB cm nt bg s zt' zf' zo' oA' oB' sA' sB' lA' lB' rA' rB' cm' nt' bg' s' : Nat → Int32} {oo oo' : Nat → Int64} (h : tr_cl th fr to te su en code zt zf zo oA oB sA sB lA lB rA rB cm nt bg s oo S O q g) (hs : ∀ j, j < S → s' j = s j ∧ oo' j = oo j) (hS : S ≤ S2) (hO : O ≤ O2) (h1 : zt' g = zt g) (h2 : zf' g = zf g) (h3 : zo' g = zo g) (h4 : oA' g = oA g) (h5 : oB' g = oB g) (h6 : sA' g = sA g) (h7 : sB' g = sB g) (hk : ∀ k, k < O → lA' k = lA k ∧ lB' k = lB k ∧ rA' k = rA k ∧ rB' k = rB k ∧ cm' k = cm k ∧ nt' k = nt k ∧ bg' k = bg k) : tr_cl th fr to te su en code zt' zf' zo' oA' oB' sA' sB' lA' lB' rA' rB' cm' nt' bg' s' oo' S2 O2 q g := by
  obtain ⟨e1, e2, e3, e4, t, u, e, a, c, c0, d, f1, f2, f3, f4, f5, f6, f7, f8, f9, f10, f11, f12, f13, f14, f15⟩ := h
  have od : ∀ {x y : Nat} {l m : Nat → Int32}, l x = m x → tn_ l x = tn_ m x := fun {x y l m} e => by unfold tn_; rw [e]
  have tk : ∀ k, k < O → tn_ lA' k = tn_ lA k ∧ tn_ lB' k = tn_ lB k ∧ tn_ rA' k = tn_ rA k ∧ tn_ rB' k = tn_ rB k := fun k h => by
    obtain ⟨g1, g2, g3, g4, -⟩ := hk k h
    unfold tn_
    rw [g1, g2, g3, g4]
    exact ⟨rfl, rfl, rfl, rfl⟩
  have okc : ∀ k, k < O → tt_ok s oo (tn_ lA) (tn_ lB) (tn_ rA) (tn_ rB) cm nt bg S k → tt_ok s' oo' (tn_ lA') (tn_ lB') (tn_ rA') (tn_ rB') cm' nt' bg' S2 k := fun k hkO ⟨y1, y2, y3, y4, y5⟩ => by
    obtain ⟨g1, g2, g3, g4⟩ := tk k hkO
    obtain ⟨-, -, -, -, g5, g6, g7⟩ := hk k hkO
    unfold tt_ok
    rw [g1, g2, g3, g4, g5, g6, g7]
    exact ⟨tsum_c y1 hs hS, tsum_c y2 hs hS, y3, y4, y5⟩
  have onec : ∀ k, k < O → tt_ok s oo (tn_ lA) (tn_ lB) (tn_ rA) (tn_ rB) cm nt bg S k → tt_one s' oo' (tn_ lA') (tn_ lB') (tn_ rA') (tn_ rB') cm' nt' k = tt_one s oo (tn_ lA) (tn_ lB) (tn_ rA) (tn_ rB) cm nt k := fun k hkO ⟨y1, y2, _⟩ => by
    obtain ⟨g1, g2, g3, g4⟩ := tk k hkO
    obtain ⟨-, -, -, -, g5, g6, g7⟩ := hk k hkO
    unfold tt_one
    rw [g1, g2, g3, g4, g5, g6]
    have b1 := y1.2.1
    have b2 := y2.2.1
    rw [tsig_c (s := s) (o := oo) (fun j k1 k2 => hs j (by omega)), tsig_c (s := s) (o := oo) (fun j k1 k2 => hs j (by omega))]
  have goc : ∀ m k pa po, k + m ≤ O → (∀ i, k ≤ i → i < k + m → tt_ok s oo (tn_ lA) (tn_ lB) (tn_ rA) (tn_ rB) cm nt bg S i) → tt_go s' oo' (tn_ lA') (tn_ lB') (tn_ rA') (tn_ rB') cm' nt' bg' m k pa po = tt_go s oo (tn_ lA) (tn_ lB) (tn_ rA) (tn_ rB) cm nt bg m k pa po := by
    intro m
    induction m with
    | zero => intro k pa po _ _; rfl
    | succ m ih =>
      intro k pa po hkm hok
      obtain ⟨-, -, -, -, -, -, g7⟩ := hk k (by omega)
      rw [tt_go, tt_go, g7, onec k (by omega) (hok k (Nat.le_refl _) (by omega)), ih (k + 1) false true (by omega) (fun i i1 i2 => hok i (by omega) (by omega)), ih (k + 1) true po (by omega) (fun i i1 i2 => hok i (by omega) (by omega))]
  refine ⟨by rw [h1]; exact e1, e2, by rw [h2]; exact e3, by rw [h3]; exact e4, t, u, e, a, c, c0, d, f1, f2, f3, f4, by omega, f6, f7, f8, by rw [h4]; exact f9, by rw [h5]; exact f10, by rw [h6]; exact f11, by rw [h7]; exact f12, tsum_c f13 hs hS, ?_, ?_⟩
  · rw [tsig_c (s := s) (o := oo) (fun j k1 k2 => hs j (by have := f13.2.1; have := f13.1; omega))]; exact f14
  · rcases f15 with y | ⟨y1, y2, y3⟩
    · exact Or.inl y
    · right
      refine ⟨y1, fun k k1 k2 => ?_, ?_⟩
      · obtain ⟨w1, w2, w3⟩ := y2 k k1 k2
        obtain ⟨g1, g2, g3, g4, -⟩ := hk k (by omega)
        exact ⟨by rw [g1]; exact w1, by rw [g3]; exact w2, okc k (by omega) w3⟩
      · rw [y3]
        obtain ⟨m, hm⟩ : ∃ m, c - a = m + 1 := ⟨c - a - 1, by omega⟩
        rw [hm]
        show tt_one s oo (tn_ lA) (tn_ lB) (tn_ rA) (tn_ rB) cm nt a ++ tt_go s oo (tn_ lA) (tn_ lB) (tn_ rA) (tn_ rB) cm nt bg m (a + 1) false false = tt_one s' oo' (tn_ lA') (tn_ lB') (tn_ rA') (tn_ rB') cm' nt' a ++ tt_go s' oo' (tn_ lA') (tn_ lB') (tn_ rA') (tn_ rB') cm' nt' bg' m (a + 1) false false
        rw [onec a (by omega) (y2 a (Nat.le_refl _) (by omega)).2.2, goc m (a + 1) false false (by omega) (fun i i1 i2 => (y2 i (by omega) (by omega)).2.2)]
