/-! treaties: the code of a test -/
def yt1 (x : YO) : List Int32 := yen_c x.2.1 ++ (yen_c x.2.2.2 ++ ((-1 - x.2.2.1) :: (if x.1 then [-9] else [])))
def ytg : List (Bool × YO) → Bool → Bool → List Int32
  | [], pa, po => (if pa then [-8] else []) ++ (if po then [-7] else [])
  | x :: xs, pa, po => if x.1 then (if pa then [-8] else []) ++ ((if po then [-7] else []) ++ (yt1 x.2 ++ ytg xs false true)) else (if pa then [-8] else []) ++ (yt1 x.2 ++ ytg xs true po)
def ytl : List (Bool × YO) → List Int32
  | [] => []
  | x :: xs => yt1 x.2 ++ ytg xs false false
def ypr (pa po : Bool) : List Int32 := (if po then [6] else []) ++ (if pa then [7] else [])
theorem ypr_l (pa po : Bool) : ylast (ypr pa po) 3 ∧ (ypr pa po).length ≤ 2 := by
  cases pa <;> cases po
  · exact ⟨fun y hy => (by cases hy), by decide⟩
  · exact ⟨ylast_1 (l := []) (y := 6) (by decide), by decide⟩
  · exact ⟨ylast_1 (l := []) (y := 7) (by decide), by decide⟩
  · exact ⟨ylast_1 (l := [6]) (y := 7) (by decide), by decide⟩
def ypn (pa po nt : Bool) : List Int32 := ypr pa po ++ (if nt then [8] else [])
theorem ypn_l (pa po nt : Bool) : ylast (ypn pa po nt) 4 ∧ (ypn pa po nt).length = (ypr pa po).length + (if nt then 1 else 0) := by
  have h := ypr_l pa po
  unfold ypn
  cases nt
  · exact ⟨by rw [if_neg (by decide), List.append_nil]; exact ylast_m h.1 (by decide), by simp⟩
  · exact ⟨by rw [if_pos rfl]; exact ylast_1 (by decide), by simp⟩
theorem ybn_4 {k : Int32} : ybn k = 4 ↔ (k = 60 ∨ k = 62 ∨ k = 61) := by
  constructor
  · intro h
    unfold ybn at h
    split at h
    · exact absurd h (by decide)
    · split at h
      · exact absurd h (by decide)
      · split at h
        · exact absurd h (by decide)
        · split at h
          · exact absurd h (by decide)
          · split at h
            · exact absurd h (by decide)
            · split at h
              · exact absurd h (by decide)
              · split at h
                · exact absurd h (by decide)
                · split at h
                  · next e => exact Or.inl e
                  · split at h
                    · next e => exact Or.inr (Or.inr e)
                    · split at h
                      · next e => exact Or.inr (Or.inl e)
                      · exact absurd h (by decide)
  · rintro (h | h | h) <;> rw [h] <;> decide
/-- what is taken from the top behind a one: by and, by or and by the end -/
def yxs (f : YF) (cm : Int32) (nt pa : Bool) : List Int32 := (yq1 f.2.2 ++ yq1 f.2.1) ++ (cm :: ((if nt then [8] else []) ++ (if pa then [7] else [])))
theorem yxs_e {f : YF} {cm : Int32} {nt pa : Bool} {o3 : List YG} (h : yfw f) (l : List YG) (cd : List Int32) : cd ++ yen_c l ++ yen_c o3 ++ yneg (yxs f cm nt pa) = cd ++ yt1 (nt, l, cm, o3 ++ yo f.2.2 ++ yo f.2.1) ++ (if pa then [-8] else []) := by
  have e2 : yneg (cm :: ((if nt = true then [8] else []) ++ (if pa = true then [7] else []))) = (-1 - cm) :: ((if nt = true then [-9] else []) ++ (if pa = true then [-8] else [])) := by
    cases nt <;> cases pa <;> rfl
  unfold yxs yt1
  rw [yneg_app, yng_f h, e2, List.append_assoc o3, yen_app o3]
  simp only [List.append_assoc, List.cons_append]
theorem yxs_m {f : YF} {cm : Int32} {nt pa : Bool} (h : yfw f) (hc : cm = 60 ∨ cm = 62 ∨ cm = 61) {x bd : Int32} (hb : bd ≤ 2) (hx : x ∈ yxs f cm nt pa) : ¬ ybn x < bd := fun z => by
  have z2 : ybn x < 2 := Int32.lt_of_lt_of_le z hb
  have key : ¬ ybn x < 2 := by
    unfold yxs at hx
    rcases List.mem_append.mp hx with g | g
    · exact yel_b (yel_f h g) (by decide)
    · rcases List.mem_cons.mp g with g | g
      · rw [g]; rcases hc with w | w | w <;> rw [w] <;> decide
      · rcases List.mem_append.mp g with g | g
        · cases nt
          · cases g
          · rw [List.mem_singleton.mp g]; decide
        · cases pa
          · cases g
          · rw [List.mem_singleton.mp g]; decide
  exact key z2
theorem yxs_l (f : YF) (cm : Int32) (nt pa : Bool) : (yxs f cm nt pa).length = yb_ f.2.2 + yb_ f.2.1 + 1 + (if nt then 1 else 0) + (if pa then 1 else 0) := by
  unfold yxs
  rw [List.length_append, List.length_append, yq1_len, yq1_len, List.length_cons, List.length_append]
  cases nt <;> cases pa <;> simp <;> omega
theorem yxs_r (f : YF) (cm : Int32) (nt pa po : Bool) : ypn pa po nt ++ [cm] ++ yfo f = (if po then [6] else []) ++ (yxs f cm nt pa).reverse := by
  unfold ypn ypr yxs
  rw [List.reverse_append, ← yfo_x, List.reverse_cons]
  cases nt <;> cases pa <;> simp
theorem ypr_n (pa po : Bool) : (ypr pa po).length = (if po then 1 else 0) + (if pa then 1 else 0) := by cases pa <;> cases po <;> rfl
