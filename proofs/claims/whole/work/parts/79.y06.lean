/-! treaties: how a sum is read, in pure words -/
abbrev YG : Type := Int32 × Int64
abbrev YF : Type := Nat × Int32 × Int32
def yo (x : Int32) : List YG := if x = 0 then [] else [(x, 0)]
def ycl (k : Nat) : List YG := if k = 0 then [] else if k = 2 then [(108, 0)] else [(109, 0)]
/-- from token c on: f and the frames of the brackets around it, whether an atom is wanted, the signs so far -/
def ysm (K : Nat → Int32) (v : Nat → Int64) : Nat → Nat → YF → List YF → Bool → List YG → Sum (Int32 × Nat) (List YG × Nat)
  | 0, c, _, _, _, _ => .inl (2, c)
  | m + 1, c, f, fs, true, o =>
    if K c = 20 then ysm K v m (c + 1) f fs false (o ++ [(0, v c)])
    else if 11 ≤ K c ∧ K c ≤ 17 then ysm K v m (c + 1) f fs false (o ++ [(1, (K c - 11).toInt64)])
    else if K c = 9 then (if K (c + 1) = 40 then (if fs.length = 10 then .inl (6, c + 1) else ysm K v m (c + 2) (1, 0, 0) (f :: fs) true o) else .inl (2, c + 1))
    else if K c = 10 then (if K (c + 1) = 40 then (if fs.length = 10 then .inl (6, c + 1) else ysm K v m (c + 2) (3, 0, 0) (f :: fs) true o) else .inl (2, c + 1))
    else if K c = 40 then (if fs.length = 10 then .inl (6, c) else ysm K v m (c + 1) (0, 0, 0) (f :: fs) true o)
    else .inl (2, c)
  | m + 1, c, f, fs, false, o =>
    if K c = 42 ∨ K c = 47 then ysm K v m (c + 1) (f.1, f.2.1, K c) fs true (o ++ yo f.2.2)
    else if K c = 43 ∨ K c = 45 then ysm K v m (c + 1) (f.1, K c, 0) fs true (o ++ yo f.2.2 ++ yo f.2.1)
    else if fs.length = 0 then .inr (o ++ yo f.2.2 ++ yo f.2.1, c)
    else if f.1 = 1 ∨ f.1 = 3 then (if K c = 44 then ysm K v m (c + 1) (f.1 + 1, 0, 0) fs true (o ++ yo f.2.2 ++ yo f.2.1) else .inl (2, c))
    else if K c = 41 then ysm K v m (c + 1) (fs.headD (0, 0, 0)) fs.tail false (o ++ yo f.2.2 ++ yo f.2.1 ++ ycl f.1) else .inl (2, c)
def yb_ (x : Int32) : Nat := if x = 0 then 0 else 1
/-- how many numbers wait in the frames; how many signs -/
def yh : List YF → Nat
  | [] => 0
  | f :: fs => (if f.1 = 2 ∨ f.1 = 4 then 1 else 0) + yb_ f.2.1 + yb_ f.2.2 + yh fs
def yw : List YF → Nat
  | [] => 0
  | f :: fs => (if f.1 = 0 then 0 else 1) + yb_ f.2.1 + yb_ f.2.2 + yw fs
theorem yb_le (x : Int32) : yb_ x ≤ 1 := by unfold yb_; split <;> omega
theorem yh_le : ∀ fs, yh fs ≤ 3 * fs.length
  | [] => Nat.le_refl _
  | f :: fs => by
    rw [yh, List.length_cons]
    have := yh_le fs
    have h1 := yb_le f.2.1
    have h2 := yb_le f.2.2
    split <;> omega
theorem yw_le : ∀ fs, yw fs ≤ 3 * fs.length
  | [] => Nat.le_refl _
  | f :: fs => by
    rw [yw, List.length_cons]
    have := yw_le fs
    have h1 := yb_le f.2.1
    have h2 := yb_le f.2.2
    split <;> omega
def yfw (f : YF) : Prop := f.1 ≤ 4 ∧ (f.2.1 = 0 ∨ f.2.1 = 43 ∨ f.2.1 = 45) ∧ (f.2.2 = 0 ∨ f.2.2 = 42 ∨ f.2.2 = 47)
def yz : YF → List YF → Prop
  | f, [] => yfw f ∧ f.1 = 0
  | f, g :: gs => yfw f ∧ yz g gs
theorem yz_w {f : YF} {fs : List YF} (h : yz f fs) : yfw f := by
  cases fs with
  | nil => exact h.1
  | cons g gs => exact h.1
theorem yz_to {f g : YF} {fs : List YF} (h : yz f fs) (e : g.1 = f.1) (w : yfw g) : yz g fs := by
  cases fs with
  | nil => exact ⟨w, e.trans h.2⟩
  | cons g2 gs => exact ⟨w, h.2⟩
def yen_c (l : List YG) : List Int32 := l.map (fun x => tc_enc x.1 x.2)
theorem tc_dp_app : ∀ (a b : List Int32) (d : Nat), tc_dp (a ++ b) d = (tc_dp a d).bind (tc_dp b)
  | [], b, d => rfl
  | x :: a, b, d => by
    rw [List.cons_append, tc_dp, tc_dp]
    split
    · split
      · exact tc_dp_app a b _
      · rfl
    · split
      · split
        · exact tc_dp_app a b _
        · rfl
      · split
        · exact tc_dp_app a b _
        · rfl
def ywf (l : List YG) : Prop := ∀ x, x ∈ l → tc_wf x.1 x.2
theorem ywf_app {a b : List YG} (h1 : ywf a) (h2 : ywf b) : ywf (a ++ b) := fun x hx => by
  rcases List.mem_append.mp hx with h | h
  · exact h1 x h
  · exact h2 x h
/-- one more sign -/
theorem yd_num {o : List YG} {d n : Nat} (h : tc_dp (yen_c o) 0 = some d) (hn : n ≤ 9999999) (hd : d < 40) : tc_dp (yen_c (o ++ [(0, lZ n)])) 0 = some (d + 1) := by
  have e : tc_enc 0 (lZ n) = nI n := by
    unfold tc_enc
    rw [if_pos rfl, lZ_32, nI_iZ]
  have p : tc_push (nI n) = true := by
    unfold tc_push
    rw [decide_eq_true (show (0 : Int32) ≤ nI n by rw [Int32.le_iff_toInt_le, nI_toInt (by omega)]; show (0 : Int) ≤ n; omega)]; rfl
  unfold yen_c at h ⊢
  rw [List.map_append, tc_dp_app, h]
  show tc_dp [tc_enc 0 (lZ n)] d = _
  rw [e, tc_dp, if_pos p, if_pos hd]; rfl
theorem yd_var1 : ∀ j : Fin 7, tc_push (tc_enc 1 (nI (11 + j.1) - 11).toInt64) = true ∧ (nI (11 + j.1) - 11).toInt64 = lZ (j.1 : Int) := by decide +kernel
theorem y_var {x : Int32} (h1 : 11 ≤ x) (h2 : x ≤ 17) : ∃ j : Nat, j < 7 ∧ x = nI (11 + j) := by
  rw [Int32.le_iff_toInt_le] at h1 h2
  have h1 : (11 : Int) ≤ x.toInt := h1
  have h2 : x.toInt ≤ 17 := h2
  obtain ⟨i, hi, e⟩ := ii_at (n := 18) (x := x) (by omega) (by omega) (by decide)
  rw [e, nI_toInt (by omega)] at h1 h2
  exact ⟨i - 11, by omega, by rw [e]; congr 1; omega⟩
theorem yd_var {o : List YG} {d : Nat} {x : Int32} (h : tc_dp (yen_c o) 0 = some d) (h1 : 11 ≤ x) (h2 : x ≤ 17) (hd : d < 40) : tc_dp (yen_c (o ++ [(1, (x - 11).toInt64)])) 0 = some (d + 1) := by
  obtain ⟨j, hj, e⟩ := y_var h1 h2
  have p := (yd_var1 ⟨j, hj⟩).1
  unfold yen_c at h ⊢
  rw [List.map_append, tc_dp_app, h]
  rw [e, List.map_cons, List.map_nil, Option.bind_some, tc_dp, if_pos p, if_pos hd, tc_dp]
theorem yd_op1 {s : Int32} (hs : s = 42 ∨ s = 43 ∨ s = 45 ∨ s = 47 ∨ s = 108 ∨ s = 109) : tc_push (tc_enc s 0) = false ∧ ¬ tc_enc s 0 = -9 ∧ tc_wf s 0 ∧ ¬ s = 0 := by
  rcases hs with h | h | h | h | h | h <;> rw [h]
  · exact ⟨by decide, by decide, Or.inr (Or.inr (Or.inl rfl)), by decide⟩
  · exact ⟨by decide, by decide, Or.inr (Or.inr (Or.inr (Or.inl rfl))), by decide⟩
  · exact ⟨by decide, by decide, Or.inr (Or.inr (Or.inr (Or.inr (Or.inl rfl)))), by decide⟩
  · exact ⟨by decide, by decide, Or.inr (Or.inr (Or.inr (Or.inr (Or.inr (Or.inl rfl))))), by decide⟩
  · exact ⟨by decide, by decide, Or.inr (Or.inr (Or.inr (Or.inr (Or.inr (Or.inr (Or.inl rfl)))))), by decide⟩
  · exact ⟨by decide, by decide, Or.inr (Or.inr (Or.inr (Or.inr (Or.inr (Or.inr (Or.inr rfl)))))), by decide⟩
theorem yd_op {o : List YG} {d : Nat} {s : Int32} (hs : s = 42 ∨ s = 43 ∨ s = 45 ∨ s = 47 ∨ s = 108 ∨ s = 109) (h : tc_dp (yen_c o) 0 = some d) (hd : 1 < d) : tc_dp (yen_c (o ++ [(s, 0)])) 0 = some (d - 1) := by
  obtain ⟨p1, p2, -, -⟩ := yd_op1 hs
  unfold yen_c at h ⊢
  rw [List.map_append, tc_dp_app, h]
  show tc_dp [tc_enc s 0] d = _
  rw [tc_dp, p1, if_neg (by decide), if_neg p2, if_pos hd]; rfl
/-- what waits is put, if there is any -/
theorem yd_yo {o : List YG} {d : Nat} {s : Int32} (hs : s = 0 ∨ s = 42 ∨ s = 43 ∨ s = 45 ∨ s = 47) (h : tc_dp (yen_c o) 0 = some (d + yb_ s)) (hd : 0 < d) (w : ywf o) : tc_dp (yen_c (o ++ yo s)) 0 = some d ∧ ywf (o ++ yo s) := by
  unfold yb_ at h
  unfold yo
  by_cases c : s = 0
  · rw [if_pos c] at h ⊢
    rw [List.append_nil]; exact ⟨h, w⟩
  · rw [if_neg c] at h ⊢
    have hs2 : s = 42 ∨ s = 43 ∨ s = 45 ∨ s = 47 ∨ s = 108 ∨ s = 109 := by
      rcases hs with g | g | g | g | g
      · exact absurd g c
      · exact Or.inl g
      · exact Or.inr (Or.inl g)
      · exact Or.inr (Or.inr (Or.inl g))
      · exact Or.inr (Or.inr (Or.inr (Or.inl g)))
    have := yd_op hs2 h (by omega)
    refine ⟨this, ywf_app w (fun x hx => ?_)⟩
    rw [List.mem_singleton] at hx
    rw [hx]
    exact (yd_op1 hs2).2.2.1
theorem yo_len (x : Int32) : (yo x).length = yb_ x := by unfold yo yb_; split <;> rfl
theorem ysm_ok {K : Nat → Int32} {v : Nat → Int64} (hv : ∀ c, K c = 20 → ∃ n : Nat, n ≤ 9999999 ∧ v c = lZ n) : ∀ m c f fs at_ o o2 c2, ysm K v m c f fs at_ o = .inr (o2, c2) → yz f fs → fs.length ≤ 10 → ywf o → tc_dp (yen_c o) 0 = some (yh (f :: fs) + (if at_ then 0 else 1)) → ywf o2 ∧ tc_dp (yen_c o2) 0 = some 1 ∧ c ≤ c2 ∧ o2.length + c ≤ o.length + yw (f :: fs) + c2 := by
  intro m
  induction m with
  | zero => intro c f fs at_ o o2 c2 h; rw [ysm] at h; cases h
  | succ m ih =>
    intro c f fs at_ o o2 c2 h z hl w d
    have hy := yh_le (f :: fs)
    rw [List.length_cons] at hy
    obtain ⟨w1, w2, w3⟩ := yz_w z
    cases at_ with
    | true =>
      rw [if_pos rfl, Nat.add_zero] at d
      rw [ysm] at h
      by_cases h20 : K c = 20
      · rw [if_pos h20] at h
        obtain ⟨n, hn, en⟩ := hv c h20
        rw [en] at h
        obtain ⟨a1, a2, a3, a4⟩ := ih _ _ _ _ _ _ _ h z hl (ywf_app w (fun x hx => by rw [List.mem_singleton] at hx; rw [hx]; exact Or.inl ⟨rfl, n, hn, rfl⟩)) (by rw [yd_num d hn (by omega)]; rfl)
        rw [List.length_append, List.length_singleton] at a4
        exact ⟨a1, a2, by omega, by omega⟩
      · rw [if_neg h20] at h
        by_cases hva : 11 ≤ K c ∧ K c ≤ 17
        · rw [if_pos hva] at h
          obtain ⟨j, hj, ej⟩ := y_var hva.1 hva.2
          obtain ⟨a1, a2, a3, a4⟩ := ih _ _ _ _ _ _ _ h z hl (ywf_app w (fun x hx => by rw [List.mem_singleton] at hx; rw [hx]; exact Or.inr (Or.inl ⟨rfl, j, by omega, by show (K c - 11).toInt64 = _; rw [ej]; exact (yd_var1 ⟨j, hj⟩).2⟩))) (by rw [yd_var d hva.1 hva.2 (by omega)]; rfl)
          rw [List.length_append, List.length_singleton] at a4
          exact ⟨a1, a2, by omega, by omega⟩
        · rw [if_neg hva] at h
          have open_ : ∀ k c', k = 0 ∨ k = 1 ∨ k = 3 → c < c' → c + (if k = 0 then 1 else 2) ≤ c' → fs.length ≠ 10 → ysm K v m c' (k, 0, 0) (f :: fs) true o = .inr (o2, c2) → ywf o2 ∧ tc_dp (yen_c o2) 0 = some 1 ∧ c ≤ c2 ∧ o2.length + c ≤ o.length + yw (f :: fs) + c2 := by
            intro k c' hk hc hc2 hl2 h
            have k4 : k ≤ 4 := by omega
            have e0 : yh ((k, 0, 0) :: f :: fs) = yh (f :: fs) := by
              show (if k = 2 ∨ k = 4 then 1 else 0) + yb_ 0 + yb_ 0 + yh (f :: fs) = _
              rw [if_neg (by omega), show yb_ 0 = 0 from rfl]; omega
            obtain ⟨a1, a2, a3, a4⟩ := ih _ _ _ _ _ _ _ h ⟨⟨k4, Or.inl rfl, Or.inl rfl⟩, z⟩ (by rw [List.length_cons]; omega) w (by rw [e0, if_pos rfl, Nat.add_zero]; exact d)
            have e1 : yw ((k, 0, 0) :: f :: fs) ≤ yw (f :: fs) + (if k = 0 then 0 else 1) := by
              show (if k = 0 then 0 else 1) + yb_ 0 + yb_ 0 + yw (f :: fs) ≤ _
              rw [show yb_ 0 = 0 from rfl]; omega
            refine ⟨a1, a2, by omega, ?_⟩
            split at e1 <;> split at hc2 <;> omega
          by_cases h9 : K c = 9
          · rw [if_pos h9] at h
            split at h
            · split at h
              · cases h
              · next hl2 => exact open_ 1 (c + 2) (by omega) (by omega) (by simp) hl2 h
            · cases h
          · rw [if_neg h9] at h
            by_cases h10 : K c = 10
            · rw [if_pos h10] at h
              split at h
              · split at h
                · cases h
                · next hl2 => exact open_ 3 (c + 2) (by omega) (by omega) (by simp) hl2 h
              · cases h
            · rw [if_neg h10] at h
              split at h
              · split at h
                · cases h
                · next hl2 => exact open_ 0 (c + 1) (by omega) (by omega) (by simp) hl2 h
              · cases h
    | false =>
      rw [if_neg (by decide)] at d
      have yhe : yh (f :: fs) = (if f.1 = 2 ∨ f.1 = 4 then 1 else 0) + yb_ f.2.1 + yb_ f.2.2 + yh fs := rfl
      have ywe : yw (f :: fs) = (if f.1 = 0 then 0 else 1) + yb_ f.2.1 + yb_ f.2.2 + yw fs := rfl
      have b1 := yb_le f.2.1
      have b2 := yb_le f.2.2
      have d1 := yd_yo (s := f.2.2) (d := (if f.1 = 2 ∨ f.1 = 4 then 1 else 0) + yb_ f.2.1 + yh fs + 1) (by rcases w3 with g | g | g <;> simp [g]) (by rw [d, yhe]; congr 1; omega) (by omega) w
      have d2 := yd_yo (s := f.2.1) (d := (if f.1 = 2 ∨ f.1 = 4 then 1 else 0) + yh fs + 1) (by rcases w2 with g | g | g <;> simp [g]) (by rw [d1.1]; congr 1; omega) (by omega) d1.2
      have l1 : (o ++ yo f.2.2).length = o.length + yb_ f.2.2 := by rw [List.length_append, yo_len]
      have l2 : (o ++ yo f.2.2 ++ yo f.2.1).length = o.length + yb_ f.2.2 + yb_ f.2.1 := by rw [List.length_append, yo_len, l1]
      rw [ysm] at h
      by_cases c1 : K c = 42 ∨ K c = 47
      · rw [if_pos c1] at h
        have nz : yb_ (K c) = 1 := by rcases c1 with g | g <;> rw [g] <;> rfl
        have e0 : yh ((f.1, f.2.1, K c) :: fs) = (if f.1 = 2 ∨ f.1 = 4 then 1 else 0) + yb_ f.2.1 + 1 + yh fs := by
          show (if f.1 = 2 ∨ f.1 = 4 then 1 else 0) + yb_ f.2.1 + yb_ (K c) + yh fs = _
          rw [nz]
        have e1 : yw ((f.1, f.2.1, K c) :: fs) = (if f.1 = 0 then 0 else 1) + yb_ f.2.1 + 1 + yw fs := by
          show (if f.1 = 0 then 0 else 1) + yb_ f.2.1 + yb_ (K c) + yw fs = _
          rw [nz]
        obtain ⟨a1, a2, a3, a4⟩ := ih _ _ _ _ _ _ _ h (yz_to z rfl ⟨w1, w2, Or.inr c1⟩) hl d1.2 (by rw [d1.1, e0, if_pos rfl]; congr 1; omega)
        exact ⟨a1, a2, by omega, by omega⟩
      · rw [if_neg c1] at h
        by_cases c3 : K c = 43 ∨ K c = 45
        · rw [if_pos c3] at h
          have nz : yb_ (K c) = 1 := by rcases c3 with g | g <;> rw [g] <;> rfl
          have e0 : yh ((f.1, K c, 0) :: fs) = (if f.1 = 2 ∨ f.1 = 4 then 1 else 0) + 1 + yh fs := by
            show (if f.1 = 2 ∨ f.1 = 4 then 1 else 0) + yb_ (K c) + yb_ 0 + yh fs = _
            rw [nz, show yb_ 0 = 0 from rfl]
          have e1 : yw ((f.1, K c, 0) :: fs) = (if f.1 = 0 then 0 else 1) + 1 + yw fs := by
            show (if f.1 = 0 then 0 else 1) + yb_ (K c) + yb_ 0 + yw fs = _
            rw [nz, show yb_ 0 = 0 from rfl]
          obtain ⟨a1, a2, a3, a4⟩ := ih _ _ _ _ _ _ _ h (yz_to z rfl ⟨w1, Or.inr c3, Or.inl rfl⟩) hl d2.2 (by rw [d2.1, e0, if_pos rfl]; congr 1; omega)
          exact ⟨a1, a2, by omega, by omega⟩
        · rw [if_neg c3] at h
          cases fs with
          | nil =>
            rw [if_pos (show ([] : List YF).length = 0 from rfl)] at h
            have h := Sum.inr.inj h
            have h1 := congrArg Prod.fst h
            have h2 := congrArg Prod.snd h
            simp only at h1 h2
            have k0 : f.1 = 0 := z.2
            rw [← h1, ← h2]
            refine ⟨d2.2, ?_, Nat.le_refl _, by omega⟩
            rw [d2.1, k0]; rfl
          | cons g gs =>
            rw [if_neg (by simp), List.headD_cons, List.tail_cons] at h
            by_cases c5 : f.1 = 1 ∨ f.1 = 3
            · rw [if_pos c5] at h
              split at h
              · have e0 : yh ((f.1 + 1, 0, 0) :: g :: gs) = 1 + yh (g :: gs) := by
                  show (if f.1 + 1 = 2 ∨ f.1 + 1 = 4 then 1 else 0) + yb_ 0 + yb_ 0 + yh (g :: gs) = _
                  rw [if_pos (by omega), show yb_ 0 = 0 from rfl]
                have e1 : yw ((f.1 + 1, 0, 0) :: g :: gs) = 1 + yw (g :: gs) := by
                  show (if f.1 + 1 = 0 then 0 else 1) + yb_ 0 + yb_ 0 + yw (g :: gs) = _
                  rw [if_neg (by omega), show yb_ 0 = 0 from rfl]
                obtain ⟨a1, a2, a3, a4⟩ := ih _ _ _ _ _ _ _ h ⟨⟨show f.1 + 1 ≤ 4 by omega, Or.inl rfl, Or.inl rfl⟩, z.2⟩ hl d2.2 (by rw [d2.1, e0, if_pos rfl, if_neg (by omega)]; congr 1; omega)
                rw [if_neg (by omega)] at ywe
                exact ⟨a1, a2, by omega, by omega⟩
              · cases h
            · rw [if_neg c5] at h
              split at h
              · have hl2 : gs.length ≤ 10 := by rw [List.length_cons] at hl; omega
                by_cases k0 : f.1 = 0
                · have e2 : ycl f.1 = [] := by unfold ycl; rw [if_pos k0]
                  rw [e2, List.append_nil] at h
                  obtain ⟨a1, a2, a3, a4⟩ := ih _ _ _ _ _ _ _ h z.2 hl2 d2.2 (by rw [d2.1, if_neg (by omega), if_neg (by decide)]; congr 1; omega)
                  exact ⟨a1, a2, by omega, by omega⟩
                · have k24 : f.1 = 2 ∨ f.1 = 4 := by omega
                  rw [if_pos k24] at d2
                  have ex : ∃ s : Int32, ycl f.1 = [(s, 0)] ∧ (s = 42 ∨ s = 43 ∨ s = 45 ∨ s = 47 ∨ s = 108 ∨ s = 109) := by
                    unfold ycl
                    rw [if_neg k0]
                    split
                    · exact ⟨108, rfl, by simp⟩
                    · exact ⟨109, rfl, by simp⟩
                  obtain ⟨s, e2, hs⟩ := ex
                  rw [e2] at h
                  obtain ⟨a1, a2, a3, a4⟩ := ih _ _ _ _ _ _ _ h z.2 hl2 (ywf_app d2.2 (fun x hx => by rw [List.mem_singleton] at hx; rw [hx]; exact (yd_op1 hs).2.2.1)) (by rw [yd_op hs d2.1 (by omega), if_neg (by decide)]; congr 1; omega)
                  rw [if_neg k0] at ywe
                  rw [List.length_append, List.length_singleton] at a4
                  exact ⟨a1, a2, by omega, by omega⟩
              · cases h
