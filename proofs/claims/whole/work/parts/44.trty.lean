/-! treaties: how the class's code and the reference's signs belong together -/
def sg_ {α : Type} (f : Nat → α) (a n : Nat) : List α := (List.range n).map (fun j => f (a + j))
/-- the class's code of a sign of the reference -/
def tc_enc (s : Int32) (o : Int64) : Int32 := if s = 0 then o.toInt32 else if s = 1 then -12 - o.toInt32 else if s = 108 then -10 else if s = 109 then -11 else -1 - s
def tc_wf (s : Int32) (o : Int64) : Prop := (s = 0 ∧ ∃ n : Nat, n ≤ 9999999 ∧ o = lZ n) ∨ (s = 1 ∧ ∃ n : Nat, n ≤ 6 ∧ o = lZ n) ∨ s = 42 ∨ s = 43 ∨ s = 45 ∨ s = 47 ∨ s = 108 ∨ s = 109
/-- how many numbers wait behind each code -/
def tc_push (c : Int32) : Bool := decide (0 ≤ c) || (decide (-18 ≤ c) && decide (c ≤ -12))
def tc_dp : List Int32 → Nat → Option Nat
  | [], d => some d
  | c :: t, d => if tc_push c then (if d < 40 then tc_dp t (d + 1) else none) else if c = -9 then (if 0 < d then tc_dp t d else none) else if 1 < d then tc_dp t (d - 1) else none
def tc_sig (s : Nat → Int32) (o : Nat → Int64) (a n : Nat) : List Int32 := (List.range n).map (fun j => tc_enc (s (a + j)) (o (a + j)))
/-- a span of signs is a sum -/
def tc_sum (s : Nat → Int32) (o : Nat → Int64) (S a b : Nat) : Prop := a < b ∧ b ≤ S ∧ (∀ j, a ≤ j → j < b → tc_wf (s j) (o j)) ∧ ∃ d, d ≤ 36 ∧ tc_dp (tc_sig s o a (b - a)) 0 = some 1
def tt_one (s : Nat → Int32) (o : Nat → Int64) (lA lB rA rB : Nat → Nat) (cm nt : Nat → Int32) (k : Nat) : List Int32 := tc_sig s o (lA k) (lB k - lA k) ++ (tc_sig s o (rA k) (rB k - rA k) ++ ((-1 - cm k) :: (if nt k = 1 then [-9] else [])))
def tt_go (s : Nat → Int32) (o : Nat → Int64) (lA lB rA rB : Nat → Nat) (cm nt bg : Nat → Int32) : Nat → Nat → Bool → Bool → List Int32
  | 0, _, pa, po => (if pa then [-8] else []) ++ (if po then [-7] else [])
  | n + 1, k, pa, po => if bg k = 1 then (if pa then [-8] else []) ++ ((if po then [-7] else []) ++ (tt_one s o lA lB rA rB cm nt k ++ tt_go s o lA lB rA rB cm nt bg n (k + 1) false true)) else (if pa then [-8] else []) ++ (tt_one s o lA lB rA rB cm nt k ++ tt_go s o lA lB rA rB cm nt bg n (k + 1) true po)
/-- the code of a test of n ones from k on -/
def tt_all (s : Nat → Int32) (o : Nat → Int64) (lA lB rA rB : Nat → Nat) (cm nt bg : Nat → Int32) (k n : Nat) : List Int32 := match n with
  | 0 => []
  | n + 1 => tt_one s o lA lB rA rB cm nt k ++ tt_go s o lA lB rA rB cm nt bg n (k + 1) false false
/-- one of a test -/
def tt_ok (s : Nat → Int32) (o : Nat → Int64) (lA lB rA rB : Nat → Nat) (cm nt bg : Nat → Int32) (S k : Nat) : Prop := tc_sum s o S (lA k) (lB k) ∧ tc_sum s o S (rA k) (rB k) ∧ (cm k = 60 ∨ cm k = 61 ∨ cm k = 62) ∧ (nt k = 0 ∨ nt k = 1) ∧ (bg k = 0 ∨ bg k = 1)
def tn_ (f : Nat → Int32) : Nat → Nat := fun k => (f k).toNatClampNeg
/-- a clause on both sides: th fr to te su en code are the class's, zt zf zo oA oB sA sB the reference's, by their places q and g -/
def tr_cl (th fr to te su en code : Nat → Int32) (zt zf zo oA oB sA sB : Nat → Int32) (lA lB rA rB cm nt bg s : Nat → Int32) (o : Nat → Int64) (S O q g : Nat) : Prop :=
  th q = zt g ∧ (th q = 0 ∨ th q = 1) ∧
  ((fr q = 0 ∧ zf g = -1) ∨ ∃ m : Nat, 0 < m ∧ m < 128 ∧ fr q = nI m ∧ zf g = nI m) ∧
  ((to q = 0 ∧ zo g = -1) ∨ ∃ m : Nat, 0 < m ∧ m < 128 ∧ to q = nI m ∧ zo g = nI m) ∧
  ∃ t u e a b c d : Nat, t ≤ u ∧ u < e ∧ e ≤ 600 ∧ a ≤ b ∧ b ≤ O ∧ te q = nI t ∧ su q = nI u ∧ en q = nI e ∧ oA g = nI a ∧ oB g = nI b ∧ sA g = nI c ∧ sB g = nI d ∧
    tc_sum s o S c d ∧ sg_ code u (e - u) = tc_sig s o c (d - c) ∧
    ((t = u ∧ a = b) ∨ (a < b ∧ (∀ k, a ≤ k → k < b → 0 ≤ (lA k).toInt ∧ 0 ≤ (rA k).toInt ∧ tt_ok s o (tn_ lA) (tn_ lB) (tn_ rA) (tn_ rB) cm nt bg S k) ∧ sg_ code t (u - t) = tt_all s o (tn_ lA) (tn_ lB) (tn_ rA) (tn_ rB) cm nt bg a (b - a)))
/-- all treaties: x holds the class's rows, nine to a treaty -/
def rl_trty (c z : Int32) (yr zy : Nat → Int32) (x : Nat → Nat → Int32) (zc zt zf zo oA oB sA sB : Nat → Int32) (lA lB rA rB cm nt bg s : Nat → Int32) (o : Nat → Int64) (sg on : Int32) : Prop :=
  ∃ n S O : Nat, n ≤ 4 ∧ c = nI n ∧ z = nI n ∧ sg = nI S ∧ S ≤ 600 * n ∧ on = nI O ∧ O ≤ 200 * n ∧ ∀ t, t < n → (∃ y : Nat, y ≤ 27 ∧ yr t = nI y ∧ zy t = nI y) ∧ ∃ k : Nat, k ≤ 12 ∧ x (9 * t) 0 = nI k ∧ zc t = nI k ∧ ∀ q, q < k → tr_cl (x (9 * t + 1)) (x (9 * t + 2)) (x (9 * t + 3)) (x (9 * t + 4)) (x (9 * t + 5)) (x (9 * t + 6)) (x (9 * t + 7)) zt zf zo oA oB sA sB lA lB rA rB cm nt bg s o S O q (12 * t + q)
