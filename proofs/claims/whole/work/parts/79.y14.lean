/-! treaties: what waits in the class -/
def ybn (k : Int32) : Int32 := if k = 6 then 1 else if k = 7 then 2 else if k = 8 then 3 else if k = 42 then 6 else if k = 43 then 5 else if k = 45 then 5 else if k = 47 then 6 else if k = 60 then 4 else if k = 61 then 4 else if k = 62 then 4 else 0
theorem yA_bn {k : Int32} {I : Nat → Nat → Int32} {J : Nat → Nat → Int64} {T : Option Nat} {P : Int32 → (Nat → Nat → Int32) → (Nat → Nat → Int64) → Option Nat → Prop} (h : P (ybn k) I J T) : wp_X7_bindingOf k I J T P := by
  unfold wp_X7_bindingOf
  unfold ybn at h
  refine ⟨fun c => ?_, fun c => ?_⟩
  · rw [if_pos c] at h; exact h
  rw [if_neg c] at h
  refine ⟨fun c => ?_, fun c => ?_⟩
  · rw [if_pos c] at h; exact h
  rw [if_neg c] at h
  refine ⟨fun c => ?_, fun c => ?_⟩
  · rw [if_pos c] at h; exact h
  rw [if_neg c] at h
  refine ⟨fun c => ?_, fun c => ?_⟩
  · rw [if_pos c] at h; exact h
  rw [if_neg c] at h
  refine ⟨fun c => ?_, fun c => ?_⟩
  · rw [if_pos c] at h; exact h
  rw [if_neg c] at h
  refine ⟨fun c => ?_, fun c => ?_⟩
  · rw [if_pos c] at h; exact h
  rw [if_neg c] at h
  refine ⟨fun c => ?_, fun c => ?_⟩
  · rw [if_pos c] at h; exact h
  rw [if_neg c] at h
  refine ⟨fun c => ?_, fun c => ?_⟩
  · rw [if_pos c] at h; exact h
  rw [if_neg c] at h
  refine ⟨fun c => ?_, fun c => ?_⟩
  · rw [if_pos c] at h; exact h
  rw [if_neg c] at h
  refine ⟨fun c => ?_, fun c => ?_⟩
  · rw [if_pos c] at h; exact h
  rw [if_neg c] at h
  exact h
def yq1 (x : Int32) : List Int32 := if x = 0 then [] else [x]
def yfo (f : YF) : List Int32 := yq1 f.2.1 ++ yq1 f.2.2
def ymk (k : Nat) : Int32 := if k = 0 then 40 else if k = 1 then 109 else if k = 2 then 9 else if k = 3 then 110 else 10
def yop : YF → List YF → List Int32
  | f, [] => yfo f
  | f, g :: gs => yop g gs ++ [ymk f.1] ++ yfo f
def yBs (f : YF) : List YF → List Int32
  | [] => []
  | g :: gs => yop g gs ++ [ymk f.1]
theorem yop_b (f : YF) (fs : List YF) : yop f fs = yBs f fs ++ yfo f := by cases fs <;> rfl
theorem yq1_len (x : Int32) : (yq1 x).length = yb_ x := by unfold yq1 yb_; split <;> rfl
theorem yop_len : ∀ f fs, (yop f fs).length ≤ 3 * (fs.length + 1)
  | f, [] => by
    show (yfo f).length ≤ 3
    unfold yfo
    rw [List.length_append, yq1_len, yq1_len]
    have := yb_le f.2.1
    have := yb_le f.2.2
    omega
  | f, g :: gs => by
    have := yop_len g gs
    show (yop g gs ++ [ymk f.1] ++ yfo f).length ≤ 3 * ((g :: gs).length + 1)
    unfold yfo
    rw [List.length_append, List.length_append, List.length_append, yq1_len, yq1_len, List.length_singleton, List.length_cons]
    have := yb_le f.2.1
    have := yb_le f.2.2
    omega
/-- what lies on top binds less than bd -/
def ylast (l : List Int32) (bd : Int32) : Prop := ∀ y, l.getLast? = some y → ybn y < bd
theorem ylast_1 {l : List Int32} {y bd : Int32} (h : ybn y < bd) : ylast (l ++ [y]) bd := fun z hz => by
  rw [List.getLast?_append, List.getLast?_singleton] at hz
  have hz : y = z := Option.some.inj hz
  rw [← hz]; exact h
theorem ylast_q {l : List Int32} {x bd : Int32} (h : ylast l bd) (hx : x = 0 ∨ ybn x < bd) : ylast (l ++ yq1 x) bd := by
  unfold yq1
  by_cases c : x = 0
  · rw [if_pos c, List.append_nil]; exact h
  · rw [if_neg c]; exact ylast_1 (hx.resolve_left c)
theorem ylast_m {l : List Int32} {b1 b2 : Int32} (h : ylast l b1) (hb : b1 ≤ b2) : ylast l b2 := fun y hy => Int32.lt_of_lt_of_le (h y hy) hb
theorem ymk_b {k : Nat} : ybn (ymk k) < 1 := by
  unfold ymk
  split
  · decide
  · split
    · decide
    · split
      · decide
      · split <;> decide
/-- the top of a frame, without its items and sums -/
theorem yBs_l {pre : List Int32} {f : YF} {fs : List YF} {bd : Int32} (hp : ylast pre 5) (hb : 5 ≤ bd) : ylast (pre ++ yBs f fs) bd := by
  cases fs with
  | nil =>
    show ylast (pre ++ []) bd
    rw [List.append_nil]; exact ylast_m hp hb
  | cons g gs =>
    show ylast (pre ++ (yop g gs ++ [ymk f.1])) bd
    rw [← List.append_assoc]
    exact ylast_1 (Int32.lt_of_lt_of_le ymk_b (Int32.le_trans (show (1 : Int32) ≤ 5 by decide) hb))
def yneg (l : List Int32) : List Int32 := l.map (fun x => -1 - x)
theorem yneg_yo {s : Int32} (hs : s = 0 ∨ s = 42 ∨ s = 43 ∨ s = 45 ∨ s = 47) : yneg (yq1 s) = yen_c (yo s) := by
  rcases hs with h | h | h | h | h <;> rw [h] <;> decide
theorem yen_app (a b : List YG) : yen_c (a ++ b) = yen_c a ++ yen_c b := by unfold yen_c; rw [List.map_append]
theorem yen_len (a : List YG) : (yen_c a).length = a.length := by unfold yen_c; rw [List.length_map]
def ypt (p : Int32) : Int32 := if p = 0 then 1 else p
