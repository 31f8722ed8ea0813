def ix_mok (q : ix_Mt) : Prop := match q with
  | (y, c, mL, rt, o, na, mc, ms, l, p) => ix_v c l = true ∧ (Cond.code y c mL rt ∈ ix_T ∧ plainFor y = true ∧ mL ≤ 45 ∧ o < 17 ∧ y.cls = ix_cn o ∧ (y.cls ≠ "java/lang/invoke/MethodHandle" ∧ y.cls ≠ "java/lang/invoke/VarHandle") ∧ (0 < mc → y.name = "<init>") ∧ l.all (fun q => ix_ilen q.2.1 q.2.2) = true)
/-! calls -/
theorem ix_pop_ok : ∀ {n : Nat} {st acc a r : List ix_V}, ix_pop n st acc = some (a, r) → ∃ v : List ix_V, v.length = n ∧ st = v ++ r ∧ a = v.reverse ++ acc
  | 0, st, acc, a, r, h => by
    cases h
    exact ⟨[], rfl, rfl, rfl⟩
  | n + 1, [], acc, a, r, h => by cases h
  | n + 1, v :: st, acc, a, r, h => by
    obtain ⟨w, h1, h2, h3⟩ := ix_pop_ok (n := n) (st := st) (acc := v :: acc) h
    exact ⟨v :: w, by rw [List.length_cons, h1], by rw [h2]; rfl, by rw [h3]; simp⟩
theorem ix_cats {base : Nat} {sp : Nat → Nat} : ∀ (r : List ix_V), ((r.map (ix_g base sp)).map fun v => v.category).sum = (r.map ix_cat).sum
  | [] => rfl
  | v :: t => by
    simp only [List.map_cons, List.sum_cons, ix_cats t]
    congr 1
    rcases v with v | v | (- | v) | v <;> rfl
theorem ix_GoodIn {ws : List Cond} (h : ∀ w ∈ ws, w ∈ ix_T) : GoodIn ix_T ws := fun w hw => ix_T_good w (h w hw)
def ix_Pc (D : va_G) (cy : Nat → ClassId) (base : Nat) (sp : Nat → Nat) (M : ix_M) (U : State) : Prop := (ix_P D cy base M U.heap ∧ ix_Z sp (fun x => base ≤ x) U U.heap) ∧ ix_K D cy U
def ix_Qc (D : va_G) (cy : Nat → ClassId) (base : Nat) (sp : Nat → Nat) (Q : ix_Q) : Array Value → State → Outcome → State → Prop := fun _ st oc t => ∃ (r : Option ix_V) (M' : ix_M), oc = .returned (r.map (ix_g base sp)) ∧ Q r M' ∧ ix_P D cy base M' t.heap ∧ va_F (fun x => base ≤ x) st t
def ix_ws (q : ix_Mt) : List Cond := match q with
  | (y, c, mL, rt, _, _, _, _, _, _) => .code y c mL rt :: ix_T
def ix_Met (l : Launch) (D : va_G) (cy : Nat → ClassId) (base : Nat) (sp : Nat → Nat) (d : Nat) (q : ix_Mt) (a : List ix_V) (M : ix_M) (Q : ix_Q) : Prop := match q with
  | (y, c, mL, rt, o, na, mc, ms, il, p) => Met l y (ix_ws q) { frames := d + 1, cells := mc, slots := ms, locals := 64 * (d + 1) } (va_Pc (a.map (ix_g base sp)) (ix_Pc D cy base sp M)) (ix_Qc D cy base sp Q) mc ms (fun x => base ≤ x)
/-- every contract of depth d is met by the machine -/
def ix_Snd (l : Launch) (D : va_G) (cy : Nat → ClassId) (base : Nat) (sp : Nat → Nat) (d : Nat) : Prop := ∀ (i : Nat) (q : ix_Mt) (a : List ix_V) (M : ix_M) (Q : ix_Q), ix_mt i = some q → ix_C d i a M Q → ix_Met l D cy base sp d q a M Q
theorem ix_blind {D : va_G} {cy : Nat → ClassId} {base : Nat} {sp : Nat → Nat} {M : ix_M} {av : List Value} : FrameBlind (va_Pc av (ix_Pc D cy base sp M)) := fun a U g mk q => ⟨q.1, ⟨q.2.1.1, q.2.1.2.same rfl⟩, va_K.moved (u := U) (U := U.calling g mk a) (Vm.Alike.refl U.vm) q.2.2.1, fun w hw => va_Nw.same rfl rfl (q.2.2.2.1 w hw), fun t ht => q.2.2.2.2 t ht⟩
theorem ix_oi1 : Cond.instanceMethod objectInit ∈ ix_T := ix_in_T (p := 1027) (by decide +kernel)
theorem ix_oi2 : Cond.code objectInit ⟨#[0xb1]⟩ 1 none ∈ ix_T := ix_in_T (p := 1028) (by decide +kernel)
theorem ix_ml4 {o i c na cls mc ms : Nat} {ps : List Nat} (h : ix_mlok o (i, 4, c, na, cls, mc, ms, ps) = true) : Cond.methodLink (ix_cn o) i objectInit ∈ ix_T := by
  rcases ps with - | ⟨p0, - | ⟨p1, t⟩⟩
  · simp [ix_mlok] at h
  · exact ix_in_T h
  · cases hm : ix_mt c with
    | none => simp [ix_mlok, hm] at h
    | some q =>
      obtain ⟨y, cc, mL, rt, cl, na', mc', ms', il, p⟩ := q
      simp [ix_mlok, hm] at h
theorem ix_ml0 {o i c na cls mc ms : Nat} {ps : List Nat} (h : ix_mlok o (i, 0, c, na, cls, mc, ms, ps) = true) : ∃ y cc mL rt il p, ix_mt c = some (y, cc, mL, rt, cls, na, mc, ms, il, p) ∧ Cond.methodLink (ix_cn o) i y ∈ ix_T ∧ Cond.instanceMethod y ∈ ix_T ∧ Cond.selects (ix_cn cls) y y ∈ ix_T ∧ Cond.initialized (ix_cn cls) ∈ ix_T ∧ (cls < 13 ∨ cls = 15) ∧ y.cls = ix_cn cls ∧ (parseMethodDescriptor y.desc).map (fun d => d.parameters.length + 1) = some na := by
  rcases ps with - | ⟨p0, - | ⟨p1, t⟩⟩
  · simp [ix_mlok] at h
  · simp [ix_mlok] at h
  · cases hm : ix_mt c with
    | none => simp [ix_mlok, hm] at h
    | some q =>
      obtain ⟨y, cc, mL, rt, cl, na', mc', ms', il, p⟩ := q
      rcases t with - | ⟨p2, - | ⟨p3, - | ⟨p4, t⟩⟩⟩
      · simp [ix_mlok, hm] at h
      · simp [ix_mlok, hm] at h
      · simp only [ix_mlok, hm, Bool.and_eq_true, Bool.or_eq_true, decide_eq_true_eq] at h
        obtain ⟨rfl, rfl, rfl, rfl, g1, g2, g3, g4, g5, g6, g7⟩ := h
        exact ⟨y, cc, mL, rt, il, p, rfl, ix_in_T g1, ix_in_T g2, ix_in_T g3, ix_in_T g4, g5, g6, g7⟩
      · simp [ix_mlok, hm] at h
theorem ix_ml1 {o i c na cls mc ms : Nat} {ps : List Nat} (h : ix_mlok o (i, 1, c, na, cls, mc, ms, ps) = true) : ∃ y cc mL rt il p, ix_mt c = some (y, cc, mL, rt, cls, na, mc, ms, il, p) ∧ Cond.methodLink (ix_cn o) i y ∈ ix_T ∧ Cond.static y ∈ ix_T ∧ Cond.initialized y.cls ∈ ix_T ∧ (parseMethodDescriptor y.desc).map (fun d => d.parameters.length) = some na := by
  rcases ps with - | ⟨p0, - | ⟨p1, t⟩⟩
  · simp [ix_mlok] at h
  · simp [ix_mlok] at h
  · cases hm : ix_mt c with
    | none => simp [ix_mlok, hm] at h
    | some q =>
      obtain ⟨y, cc, mL, rt, cl, na', mc', ms', il, p⟩ := q
      rcases t with - | ⟨p2, - | ⟨p3, t⟩⟩
      · simp [ix_mlok, hm] at h
      · simp only [ix_mlok, hm, Bool.and_eq_true, decide_eq_true_eq] at h
        obtain ⟨rfl, rfl, rfl, rfl, g1, g2, g3, g4⟩ := h
        exact ⟨y, cc, mL, rt, il, p, rfl, ix_in_T g1, ix_in_T g2, ix_in_T g3, g4⟩
      · simp [ix_mlok, hm] at h
theorem ix_ml2 {o i c na cls mc ms : Nat} {ps : List Nat} (h : ix_mlok o (i, 2, c, na, cls, mc, ms, ps) = true) : ∃ y cc mL il p, ix_mt c = some (y, cc, mL, none, cls, na, mc, ms, il, p) ∧ (o, i, y) ∈ ix_nw ∧ Cond.instanceMethod y ∈ ix_T ∧ Cond.initialized y.cls ∈ ix_T ∧ y.name = "<init>" ∧ (parseMethodDescriptor y.desc).map (fun d => d.parameters.length + 1) = some na := by
  rcases ps with - | ⟨p0, - | ⟨p1, t⟩⟩
  · simp [ix_mlok] at h
  · simp [ix_mlok] at h
  · cases hm : ix_mt c with
    | none => simp [ix_mlok, hm] at h
    | some q =>
      obtain ⟨y, cc, mL, rt, cl, na', mc', ms', il, p⟩ := q
      rcases t with - | ⟨p2, - | ⟨p3, t⟩⟩
      · simp [ix_mlok, hm] at h
      · simp only [ix_mlok, hm, Bool.and_eq_true, decide_eq_true_eq] at h
        obtain ⟨rfl, rfl, rfl, rfl, g1, g2, g3, g4, rfl, g5⟩ := h
        exact ⟨y, cc, mL, il, p, rfl, g1, ix_in_T g2, ix_in_T g3, g4, g5⟩
      · simp [ix_mlok, hm] at h
theorem ix_ml3 {o i c na cls mc ms : Nat} {ps : List Nat} (h : ix_mlok o (i, 3, c, na, cls, mc, ms, ps) = true) : ∃ y cc mL il p, ix_mt c = some (y, cc, mL, none, cls, na, mc, ms, il, p) ∧ Cond.methodLink (ix_cn o) i y ∈ ix_T ∧ Cond.instanceMethod y ∈ ix_T ∧ Cond.initialized y.cls ∈ ix_T ∧ y.name = "<init>" ∧ (parseMethodDescriptor y.desc).map (fun d => d.parameters.length + 1) = some na := by
  rcases ps with - | ⟨p0, - | ⟨p1, t⟩⟩
  · simp [ix_mlok] at h
  · simp [ix_mlok] at h
  · cases hm : ix_mt c with
    | none => simp [ix_mlok, hm] at h
    | some q =>
      obtain ⟨y, cc, mL, rt, cl, na', mc', ms', il, p⟩ := q
      rcases t with - | ⟨p2, - | ⟨p3, t⟩⟩
      · simp [ix_mlok, hm] at h
      · simp only [ix_mlok, hm, Bool.and_eq_true, decide_eq_true_eq] at h
        obtain ⟨rfl, rfl, rfl, rfl, g1, g2, g3, g4, rfl, g5⟩ := h
        exact ⟨y, cc, mL, il, p, rfl, ix_in_T g1, ix_in_T g2, ix_in_T g3, g4, g5⟩
      · simp [ix_mlok, hm] at h
theorem ix_ml9 {o i c na cls mc ms : Nat} {ps : List Nat} (h : ix_mlok o (i, 9, c, na, cls, mc, ms, ps) = true) : Cond.methodLink (ix_cn o) i (ix_bn c) ∈ ix_T := by
  rcases ps with - | ⟨p0, - | ⟨p1, t⟩⟩
  · simp [ix_mlok] at h
  · exact ix_in_T h
  · cases hm : ix_mt c with
    | none => simp [ix_mlok, hm] at h
    | some q =>
      obtain ⟨y, cc, mL, rt, cl, na', mc', ms', il, p⟩ := q
      rcases t with - | ⟨p2, - | ⟨p3, - | ⟨p4, t⟩⟩⟩ <;> simp [ix_mlok, hm] at h
/-- the words of a callee are among ours -/
theorem ix_wsT {q : ix_Mt} (h : ix_mok q) : ∀ w ∈ ix_ws q, w ∈ ix_T := by
  obtain ⟨y, c, mL, rt, o, na, mc, ms, il, p⟩ := q
  intro w hw
  rcases List.mem_cons.mp hw with rfl | hw
  · exact h.2.1
  · exact hw
