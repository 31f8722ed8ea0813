/-! treaties: how a sum or a test is worked out, for both sides -/
def mn_ (a b : Int64) : Int64 := if lg_cmp a b ≤ 0 then a else b
def mx_ (a b : Int64) : Int64 := if lg_cmp a b < 0 then b else a
def bo_ (k : Int32) (a b : Int64) : Int64 := if k = 7 then mn_ a b else if k = 9 then mn_ a b else if k = 42 then a * b else if k = 43 then a + b else if k = 45 then a - b else if k = 47 then (if lg_cmp b 0 = 0 then 0 else a / b) else if k = 60 then (if lg_cmp a b < 0 then 1 else 0) else if k = 61 then (if lg_cmp a b = 0 then 1 else 0) else if k = 62 then (if lg_cmp a b ≤ 0 then 0 else 1) else mx_ a b
theorem fn_mn {a b : Int64} {I : Nat → Nat → Int32} {J : Nat → Nat → Int64} {T : Option Nat} {P : Int64 → (Nat → Nat → Int32) → (Nat → Nat → Int64) → Option Nat → Prop} (h : P (mn_ a b) I J T) : wp_J9_min_f86c9 a b I J T P := by
  unfold mn_ at h
  unfold wp_J9_min_f86c9
  exact ⟨fun c => by rw [if_pos c] at h; exact h, fun c => by rw [if_neg c] at h; exact h⟩
theorem fn_mx {a b : Int64} {I : Nat → Nat → Int32} {J : Nat → Nat → Int64} {T : Option Nat} {P : Int64 → (Nat → Nat → Int32) → (Nat → Nat → Int64) → Option Nat → Prop} (h : P (mx_ a b) I J T) : wp_J9_max_f86c9 a b I J T P := by
  unfold mx_ at h
  unfold wp_J9_max_f86c9
  exact ⟨fun c => by rw [if_pos c] at h; exact h, fun c => by rw [if_neg c] at h; exact h⟩
theorem nzl_c {b : Int64} (h : ¬ lg_cmp b 0 = 0) : ix_nzl b = true := by
  rw [lgc_eq] at h
  unfold ix_nzl
  simp [h]
theorem fn_both {k : Int32} {a b : Int64} {I : Nat → Nat → Int32} {J : Nat → Nat → Int64} {T : Option Nat} {P : Int64 → (Nat → Nat → Int32) → (Nat → Nat → Int64) → Option Nat → Prop} (h : P (bo_ k a b) I J T) : wp_X9_both k a b I J T P := by
  unfold bo_ at h
  unfold wp_X9_both
  refine ⟨fun c => ?_, fun c => ?_⟩
  · rw [if_pos c] at h
    exact fn_mn h
  rw [if_neg c] at h
  refine ⟨fun c => ?_, fun c => ?_⟩
  · rw [if_pos c] at h
    exact fn_mn h
  rw [if_neg c] at h
  refine ⟨fun c => ?_, fun c => ?_⟩
  · rw [if_pos c] at h
    exact h
  rw [if_neg c] at h
  refine ⟨fun c => ?_, fun c => ?_⟩
  · rw [if_pos c] at h
    exact h
  rw [if_neg c] at h
  refine ⟨fun c => ?_, fun c => ?_⟩
  · rw [if_pos c] at h
    exact h
  rw [if_neg c] at h
  refine ⟨fun c => ?_, fun c => ?_⟩
  · rw [if_pos c] at h
    exact ⟨fun d => by rw [if_pos d] at h; exact h, fun d => ⟨nzl_c d, by rw [if_neg d] at h; exact h⟩⟩
  rw [if_neg c] at h
  refine ⟨fun c => ?_, fun c => ?_⟩
  · rw [if_pos c] at h
    exact ⟨fun d => by rw [if_pos d] at h; exact h, fun d => by rw [if_neg d] at h; exact h⟩
  rw [if_neg c] at h
  refine ⟨fun c => ?_, fun c => ?_⟩
  · rw [if_pos c] at h
    exact ⟨fun d => by rw [if_pos d] at h; exact h, fun d => by rw [if_neg d] at h; exact h⟩
  rw [if_neg c] at h
  refine ⟨fun c => ?_, fun c => ?_⟩
  · rw [if_pos c] at h
    exact ⟨fun d => by rw [if_pos d] at h; exact h, fun d => by rw [if_neg d] at h; exact h⟩
  rw [if_neg c] at h
  exact fn_mx h
/-- one code on a stack of numbers (the top comes first); all of them -/
def es_ (V : Nat → Int64) (c : Int32) (L : List Int64) : Option (List Int64) :=
  if 0 ≤ c then (if L.length < 48 then some (c.toInt64 :: L) else none)
  else if tc_push c then (if L.length < 48 then some (V (-1 - c - 11).toNatClampNeg :: L) else none)
  else if c = -9 then (match L with | x :: r => some ((1 - x) :: r) | [] => none)
  else (match L with | b :: a :: r => some (bo_ (-1 - c) a b :: r) | _ => none)
def ed_ (V : Nat → Int64) : List Int32 → List Int64 → Option (List Int64)
  | [], L => some L
  | c :: t, L => (es_ V c L).bind (ed_ V t)
theorem ed_app {V : Nat → Int64} : ∀ {t u : List Int32} {L : List Int64}, ed_ V (t ++ u) L = (ed_ V t L).bind (ed_ V u)
  | [], u, L => rfl
  | c :: t, u, L => by
    show (es_ V c L).bind (ed_ V (t ++ u)) = ((es_ V c L).bind (ed_ V t)).bind (ed_ V u)
    cases es_ V c L with
    | none => rfl
    | some M => exact ed_app
/-- what is told of heights is enough -/
theorem ed_dp {V : Nat → Int64} : ∀ {t : List Int32} {L : List Int64} {k : Nat}, tc_dp t L.length = some k → ∃ M : List Int64, M.length = k ∧ ∀ R : List Int64, R.length ≤ 8 → ed_ V t (L ++ R) = some (M ++ R)
  | [], L, k, h => ⟨L, by rw [tc_dp] at h; exact Option.some.inj h, fun R _ => rfl⟩
  | c :: t, L, k, h => by
    rw [tc_dp] at h
    by_cases p : tc_push c = true
    · rw [if_pos p] at h
      by_cases l : L.length < 40
      · rw [if_pos l] at h
        have go : ∀ v : Int64, (∀ R : List Int64, R.length ≤ 8 → es_ V c (L ++ R) = some (v :: (L ++ R))) → ∃ M : List Int64, M.length = k ∧ ∀ R : List Int64, R.length ≤ 8 → ed_ V (c :: t) (L ++ R) = some (M ++ R) := fun v e => by
          obtain ⟨M, h1, h2⟩ := ed_dp (V := V) (t := t) (L := v :: L) (k := k) h
          refine ⟨M, h1, fun R hR => ?_⟩
          show (es_ V c (L ++ R)).bind (ed_ V t) = some (M ++ R)
          rw [e R hR]
          exact h2 R hR
        by_cases z : 0 ≤ c
        · refine go c.toInt64 (fun R hR => ?_)
          unfold es_
          rw [if_pos z, if_pos (by rw [List.length_append]; omega)]
        · refine go (V (-1 - c - 11).toNatClampNeg) (fun R hR => ?_)
          unfold es_
          rw [if_neg z, if_pos p, if_pos (by rw [List.length_append]; omega)]
      · rw [if_neg l] at h; cases h
    · rw [if_neg p] at h
      have z : ¬ 0 ≤ c := fun z => p (by unfold tc_push; simp [z])
      by_cases n : c = -9
      · rw [if_pos n] at h
        match L, h with
        | [], h => simp at h
        | x :: r, h =>
          rw [if_pos (by simp)] at h
          obtain ⟨M, h1, h2⟩ := ed_dp (V := V) (t := t) (L := (1 - x) :: r) (k := k) h
          refine ⟨M, h1, fun R hR => ?_⟩
          show (es_ V c ((x :: r) ++ R)).bind (ed_ V t) = some (M ++ R)
          have e : es_ V c ((x :: r) ++ R) = some ((1 - x) :: (r ++ R)) := by
            unfold es_
            rw [if_neg z, if_neg p, if_pos n]
            rfl
          rw [e]
          exact h2 R hR
      · rw [if_neg n] at h
        match L, h with
        | [], h => simp at h
        | [x], h => simp at h
        | b :: a :: r, h =>
          rw [if_pos (by simp)] at h
          obtain ⟨M, h1, h2⟩ := ed_dp (V := V) (t := t) (L := bo_ (-1 - c) a b :: r) (k := k) (by
            rw [show (b :: a :: r).length - 1 = (bo_ (-1 - c) a b :: r).length from rfl] at h
            exact h)
          refine ⟨M, h1, fun R hR => ?_⟩
          show (es_ V c ((b :: a :: r) ++ R)).bind (ed_ V t) = some (M ++ R)
          have e : es_ V c ((b :: a :: r) ++ R) = some (bo_ (-1 - c) a b :: (r ++ R)) := by
            unfold es_
            rw [if_neg z, if_neg p, if_neg n]
            rfl
          rw [e]
          exact h2 R hR
/-- the value of a sum -/
def sv_ (V : Nat → Int64) (t : List Int32) : Int64 := ((ed_ V t []).getD []).headD 0
theorem sv_ok {V : Nat → Int64} {t : List Int32} (h : tc_dp t 0 = some 1) {R : List Int64} (hR : R.length ≤ 8) : ed_ V t R = some (sv_ V t :: R) := by
  obtain ⟨M, h1, h2⟩ := ed_dp (V := V) (t := t) (L := []) (k := 1) h
  match M, h1 with
  | [x], _ =>
    have e : sv_ V t = x := by
      have := h2 [] (by simp)
      unfold sv_
      rw [show ([] : List Int64) ++ [] = [] from rfl] at this
      rw [this]
      rfl
    rw [e]
    exact h2 R hR
/-- truth as a number -/
def b2_ (b : Bool) : Int64 := if b then 1 else 0
def cb_ (cm : Int32) (a b : Int64) : Bool := if cm = 60 then decide (lg_cmp a b < 0) else if cm = 62 then !decide (lg_cmp a b ≤ 0) else decide (lg_cmp a b = 0)
theorem bo_cm {cm : Int32} (h : cm = 60 ∨ cm = 61 ∨ cm = 62) (a b : Int64) : bo_ cm a b = b2_ (cb_ cm a b) := by
  rcases h with rfl | rfl | rfl
  · by_cases c : lg_cmp a b < 0
    · simp [bo_, cb_, b2_, c]
    · simp [bo_, cb_, b2_, c]
  · by_cases c : lg_cmp a b = 0
    · simp [bo_, cb_, b2_, c]
    · simp [bo_, cb_, b2_, c]
  · by_cases c : lg_cmp a b ≤ 0
    · simp [bo_, cb_, b2_, c]
    · simp [bo_, cb_, b2_, c]
theorem bo_and (p q : Bool) : bo_ (-1 - -8) (b2_ p) (b2_ q) = b2_ (p && q) := by cases p <;> cases q <;> decide
theorem bo_or (p q : Bool) : bo_ (-1 - -7) (b2_ p) (b2_ q) = b2_ (p || q) := by cases p <;> cases q <;> decide
theorem b2_not (p : Bool) : 1 - b2_ p = b2_ (!p) := by cases p <;> decide
theorem es_and {V : Nat → Int64} {p q : Bool} {R : List Int64} : es_ V (-8) (b2_ q :: b2_ p :: R) = some (b2_ (p && q) :: R) := by
  unfold es_
  rw [if_neg (by decide), if_neg (by decide), if_neg (by decide), ← bo_and]
theorem es_or {V : Nat → Int64} {p q : Bool} {R : List Int64} : es_ V (-7) (b2_ q :: b2_ p :: R) = some (b2_ (p || q) :: R) := by
  unfold es_
  rw [if_neg (by decide), if_neg (by decide), if_neg (by decide), ← bo_or]
theorem es_not {V : Nat → Int64} {q : Bool} {R : List Int64} : es_ V (-9) (b2_ q :: R) = some (b2_ (!q) :: R) := by
  unfold es_
  rw [if_neg (by decide), if_neg (by decide), if_pos rfl, ← b2_not]
theorem es_cm {V : Nat → Int64} {cm : Int32} (h : cm = 60 ∨ cm = 61 ∨ cm = 62) {a b : Int64} {R : List Int64} : es_ V (-1 - cm) (b :: a :: R) = some (b2_ (cb_ cm a b) :: R) := by
  unfold es_
  rw [← bo_cm h]
  rcases h with rfl | rfl | rfl
  · rw [if_neg (by decide), if_neg (by decide), if_neg (by decide)]; rfl
  · rw [if_neg (by decide), if_neg (by decide), if_neg (by decide)]; rfl
  · rw [if_neg (by decide), if_neg (by decide), if_neg (by decide)]; rfl
section
variable (V : Nat → Int64) (s : Nat → Int32) (o : Nat → Int64) (lA lB rA rB : Nat → Nat) (cm nt bg : Nat → Int32)
/-- whether one of a test holds -/
def tb_ (k : Nat) : Bool := cb_ (cm k) (sv_ V (tc_sig s o (lA k) (lB k - lA k))) (sv_ V (tc_sig s o (rA k) (rB k - rA k))) != decide (nt k = 1)
/-- whether n ones from k on hold, a part being under way -/
def hv_ : Nat → Nat → Bool → Bool
  | 0, _, p => p
  | n + 1, k, p => if bg k = 1 then (if p then true else hv_ n (k + 1) (tb_ V s o lA lB rA rB cm nt k)) else hv_ n (k + 1) (p && tb_ V s o lA lB rA rB cm nt k)
end
variable {V : Nat → Int64} {s : Nat → Int32} {o : Nat → Int64} {lA lB rA rB : Nat → Nat} {cm nt bg : Nat → Int32}
theorem ed_one {S k : Nat} (h : tt_ok s o lA lB rA rB cm nt bg S k) {R : List Int64} (hR : R.length ≤ 7) {u : List Int32} : ed_ V (tt_one s o lA lB rA rB cm nt k ++ u) R = ed_ V u (b2_ (tb_ V s o lA lB rA rB cm nt k) :: R) := by
  obtain ⟨⟨-, -, -, d, -, h1⟩, ⟨-, -, -, e, -, h2⟩, h3, h4, -⟩ := h
  unfold tt_one
  rw [List.append_assoc, ed_app, sv_ok h1 (by omega), Option.bind_some, List.append_assoc, ed_app, sv_ok h2 (by simp; omega), Option.bind_some, List.cons_append, ed_, es_cm h3, Option.bind_some]
  unfold tb_
  rcases h4 with e | e
  · rw [if_neg (by rw [e]; decide), e, show decide ((0 : Int32) = 1) = false from rfl, Bool.bne_false]
    rfl
  · rw [if_pos e, e, show decide ((1 : Int32) = 1) = true from rfl, Bool.bne_true]
    show (es_ V (-9) _).bind (ed_ V u) = _
    rw [es_not]
    rfl
theorem ed_and {pa p q : Bool} {u : List Int32} {R : List Int64} (hp : pa = false → p = true) : ed_ V ((if pa then [-8] else []) ++ u) (b2_ q :: ((if pa then [b2_ p] else []) ++ R)) = ed_ V u (b2_ (p && q) :: R) := by
  cases pa with
  | true =>
    show (es_ V (-8) (b2_ q :: b2_ p :: R)).bind (ed_ V u) = _
    rw [es_and]; rfl
  | false =>
    rw [hp rfl, Bool.true_and]
    rfl
theorem ed_or {po p q : Bool} {u : List Int32} {R : List Int64} (hp : po = false → p = false) : ed_ V ((if po then [-7] else []) ++ u) (b2_ q :: ((if po then [b2_ p] else []) ++ R)) = ed_ V u (b2_ (p || q) :: R) := by
  cases po with
  | true =>
    show (es_ V (-7) (b2_ q :: b2_ p :: R)).bind (ed_ V u) = _
    rw [es_or]; rfl
  | false =>
    rw [hp rfl, Bool.false_or]
    rfl
theorem ed_go {S : Nat} : ∀ {n k : Nat} {pa po p q x : Bool}, (∀ j, k ≤ j → j < k + n → tt_ok s o lA lB rA rB cm nt bg S j) → (pa = false → p = true) → (po = false → q = false) → ed_ V (tt_go s o lA lB rA rB cm nt bg n k pa po) (b2_ x :: ((if pa then [b2_ p] else []) ++ ((if po then [b2_ q] else []) ++ []))) = some [b2_ (q || hv_ V s o lA lB rA rB cm nt bg n k (p && x))]
  | 0, k, pa, po, p, q, x, _, hp, hq => by
    rw [tt_go, ed_and hp]
    have := ed_or (V := V) (po := po) (p := q) (q := p && x) (u := []) (R := []) hq
    rw [List.append_nil (if po then [-7] else [])] at this
    rw [this]
    rfl
  | n + 1, k, pa, po, p, q, x, ht, hp, hq => by
    have h1 := ht k (Nat.le_refl _) (by omega)
    have h2 : ∀ j, k + 1 ≤ j → j < k + 1 + n → tt_ok s o lA lB rA rB cm nt bg S j := fun j a b => ht j (by omega) (by omega)
    rw [tt_go, hv_]
    by_cases b : bg k = 1
    · rw [if_pos b, if_pos b, ed_and hp, ed_or hq, ed_one h1 (by simp)]
      have := ed_go (n := n) (k := k + 1) (pa := false) (po := true) (p := true) (q := q || (p && x)) (x := tb_ V s o lA lB rA rB cm nt k) h2 (fun _ => rfl) (fun e => by cases e)
      rw [Bool.true_and] at this
      refine Eq.trans this ?_
      cases p && x <;> cases q <;> rfl
    · rw [if_neg b, if_neg b, ed_and hp, ed_one h1 (by cases po <;> simp)]
      have := ed_go (n := n) (k := k + 1) (pa := true) (po := po) (p := p && x) (q := q) (x := tb_ V s o lA lB rA rB cm nt k) h2 (fun e => by cases e) hq
      exact this
theorem ed_all {S n k : Nat} (h : ∀ j, k ≤ j → j < k + (n + 1) → tt_ok s o lA lB rA rB cm nt bg S j) : ed_ V (tt_all s o lA lB rA rB cm nt bg k (n + 1)) [] = some [b2_ (hv_ V s o lA lB rA rB cm nt bg n (k + 1) (tb_ V s o lA lB rA rB cm nt k))] := by
  show ed_ V (tt_one s o lA lB rA rB cm nt k ++ tt_go s o lA lB rA rB cm nt bg n (k + 1) false false) [] = _
  rw [ed_one (h k (Nat.le_refl _) (by omega)) (by simp)]
  have := ed_go (V := V) (S := S) (n := n) (k := k + 1) (pa := false) (po := false) (p := true) (q := false) (x := tb_ V s o lA lB rA rB cm nt k) (fun j a b => h j (by omega) (by omega)) (fun _ => rfl) (fun _ => rfl)
  rw [Bool.true_and, Bool.false_or] at this
  exact this
/-- a stack in memory -/
def sk_ (f : Nat → Int64) : List Int64 → Prop
  | [] => True
  | x :: r => f r.length = x ∧ sk_ f r
theorem sk_eq {f g : Nat → Int64} : ∀ {L : List Int64}, (∀ j, j < L.length → g j = f j) → sk_ f L → sk_ g L
  | [], _, _ => trivial
  | x :: r, h, q => ⟨(h r.length (by simp)).trans q.1, sk_eq (fun j hj => h j (by simp; omega)) q.2⟩
theorem sg_cons {α : Type} {f : Nat → α} {a n : Nat} : sg_ f a (n + 1) = f a :: sg_ f (a + 1) n := by
  unfold sg_
  rw [List.range_succ_eq_map, List.map_cons, List.map_map]
  congr 1
  apply List.map_congr_left
  intro j _
  show f (a + (j + 1)) = f (a + 1 + j)
  congr 1
  omega
theorem ts_cons {s : Nat → Int32} {o : Nat → Int64} {a n : Nat} : tc_sig s o a (n + 1) = tc_enc (s a) (o a) :: tc_sig s o (a + 1) n := sg_cons (f := fun j => tc_enc (s j) (o j))
theorem km_ (c : Int32) : (-1 - c : Int32).toInt = -1 - c.toInt := by
  have h1 := c.le_toInt
  have h2 := c.toInt_lt
  conv => lhs; rw [iZ_of c, iZ_m1, iZ_sub]
  rw [iZ_toInt (by omega) (by omega)]
theorem km_i (c : Int32) : (-1 - c : Int32) = iZ (-1 - c.toInt) := by
  conv => lhs; rw [iZ_of c, iZ_m1, iZ_sub]
