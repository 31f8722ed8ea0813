def ix_ilen (i : Instr) (n : Nat) : Bool := match i with
  | .tableswitch _ _ _ _ => true
  | .lookupswitch _ _ => true
  | .bipush _ => Nat.beq n 2
  | .ldc _ => Nat.beq n 2
  | .iload _ => Nat.beq n 2
  | .lload _ => Nat.beq n 2
  | .aload _ => Nat.beq n 2
  | .istore _ => Nat.beq n 2
  | .lstore _ => Nat.beq n 2
  | .astore _ => Nat.beq n 2
  | .newarray _ => Nat.beq n 2
  | .sipush _ => Nat.beq n 3
  | .ldc_w _ => Nat.beq n 3
  | .ldc2_w _ => Nat.beq n 3
  | .iinc _ _ => Nat.beq n 3
  | .ifCond _ _ => Nat.beq n 3
  | .if_icmp _ _ => Nat.beq n 3
  | .ifnonnull _ => Nat.beq n 3
  | .goto _ => Nat.beq n 3
  | .getfield _ => Nat.beq n 3
  | .getstatic _ => Nat.beq n 3
  | .putfield _ => Nat.beq n 3
  | .invokevirtual _ => Nat.beq n 3
  | .invokestatic _ => Nat.beq n 3
  | .invokespecial _ => Nat.beq n 3
  | .new _ => Nat.beq n 3
  | .anewarray _ => Nat.beq n 3
  | .multianewarray _ _ => Nat.beq n 4
  | _ => Nat.beq n 1
def ix_g (base : Nat) (sp : Nat → Nat) : ix_V → Value
  | .inl x => .int x
  | .inr (.inl y) => .long y
  | .inr (.inr (.inl r)) => va_rf (r.map (fun k => base + k))
  | .inr (.inr (.inr j)) => .ref (sp j)
def ix_al (base : Nat) (sp : Nat → Nat) : Nat → List (Option ix_V) → List (Nat × Value)
  | _, [] => []
  | i, none :: t => ix_al base sp (i + 1) t
  | i, some v :: t => (i, ix_g base sp v) :: ix_al base sp (i + 1) t
theorem ix_al_in {base : Nat} {sp : Nat → Nat} : ∀ {L : List (Option ix_V)} {i j : Nat} {v : ix_V}, ix_lg L j = some v → (i + j, ix_g base sp v) ∈ ix_al base sp i L
  | [], _, _, _, h => by cases h
  | none :: t, i, 0, v, h => by cases h
  | some w :: t, i, 0, v, h => by
    cases h
    exact List.mem_cons_self
  | none :: t, i, j + 1, v, h => by
    have := ix_al_in (base := base) (sp := sp) (L := t) (i := i + 1) (j := j) (v := v) h
    rw [show i + (j + 1) = i + 1 + j by omega]
    exact this
  | some w :: t, i, j + 1, v, h => by
    have := ix_al_in (base := base) (sp := sp) (L := t) (i := i + 1) (j := j) (v := v) h
    rw [show i + (j + 1) = i + 1 + j by omega]
    exact List.mem_cons_of_mem _ this
theorem ix_al_of {base : Nat} {sp : Nat → Nat} : ∀ {L : List (Option ix_V)} {i : Nat} {q : Nat × Value}, q ∈ ix_al base sp i L → ∃ (j : Nat) (v : ix_V), ix_lg L j = some v ∧ q = (i + j, ix_g base sp v)
  | [], _, _, h => by cases h
  | none :: t, i, q, h => by
    obtain ⟨j, v, h1, h2⟩ := ix_al_of (L := t) (i := i + 1) h
    exact ⟨j + 1, v, h1, by rw [h2, show i + 1 + j = i + (j + 1) by omega]⟩
  | some w :: t, i, q, h => by
    rcases List.mem_cons.mp h with rfl | h
    · exact ⟨0, w, rfl, rfl⟩
    · obtain ⟨j, v, h1, h2⟩ := ix_al_of (L := t) (i := i + 1) h
      exact ⟨j + 1, v, h1, by rw [h2, show i + 1 + j = i + (j + 1) by omega]⟩
theorem ix_lg_set : ∀ (L : List (Option ix_V)) (i j : Nat) (x : Option ix_V), ix_lg (L.set i x) j = if j = i ∧ i < L.length then x else ix_lg L j
  | [], i, j, x => by simp [ix_lg]
  | a :: t, 0, 0, x => by simp [ix_lg]
  | a :: t, 0, j + 1, x => by simp [ix_lg]
  | a :: t, i + 1, 0, x => by simp [ix_lg]
  | a :: t, i + 1, j + 1, x => by
    have := ix_lg_set t i j x
    simp only [List.set_cons_succ, ix_lg, this, List.length_cons, Nat.add_lt_add_iff_right, Nat.add_right_cancel_iff]
theorem ix_lg_clr : ∀ {L : List (Option ix_V)} {i j : Nat} {w : ix_V}, ix_lg (ix_clr L i) j = some w → ix_lg L j = some w ∧ (j + 1 = i → ix_long (some w) = false)
  | [], i, j, w, h => by cases h
  | x :: t, 0, j, w, h => ⟨h, fun q => by omega⟩
  | x :: t, 1, 0, w, h => by
    unfold ix_clr at h
    cases hx : ix_long x with
    | true => rw [hx] at h; cases h
    | false =>
      rw [hx] at h
      have h : x = some w := h
      subst h
      exact ⟨rfl, fun _ => hx⟩
  | x :: t, 1, j + 1, w, h => ⟨h, fun q => by omega⟩
  | x :: t, i + 2, 0, w, h => ⟨h, fun q => by omega⟩
  | x :: t, i + 2, j + 1, w, h => by
    obtain ⟨h1, h2⟩ := ix_lg_clr (L := t) (i := i + 1) (j := j) (w := w) h
    exact ⟨h1, fun q => h2 (by omega)⟩
theorem ix_clr_len : ∀ (L : List (Option ix_V)) (i : Nat), (ix_clr L i).length = L.length
  | [], _ => rfl
  | _ :: _, 0 => rfl
  | _ :: _, 1 => rfl
  | _ :: t, i + 2 => congrArg Nat.succ (ix_clr_len t (i + 1))
theorem ix_st1_len (L : List (Option ix_V)) (i : Nat) (v : ix_V) : (ix_st1 L i v).length = L.length := by simp [ix_st1, ix_clr_len]
theorem ix_st2_len (L : List (Option ix_V)) (i : Nat) (v : ix_V) : (ix_st2 L i v).length = L.length := by simp [ix_st2, ix_clr_len]
theorem ix_cat2 {base : Nat} {sp : Nat → Nat} (w : ix_V) : ((ix_g base sp w).category == 2) = ix_long (some w) := by
  rcases w with x | y | r | j
  · rfl
  · rfl
  · cases r <;> rfl
  · rfl
theorem ix_mono {ls : Array Slot} {nL : Nat} {l l' : List (Nat × Value)} (h : lv_has ls nL l) (hm : ∀ q ∈ l', q ∈ l) : lv_has ls nL l' := ⟨h.1, h.2.1, fun q hq => h.2.2 q (hm q hq)⟩
theorem ix_has1 {base : Nat} {sp : Nat → Nat} {ls : Array Slot} {nL i : Nat} {L : List (Option ix_V)} {v : ix_V} (h : lv_has ls nL ((i, ix_g base sp v) :: (ix_al base sp 0 L).filter (fun q => !(q.1 == i) && !(q.1 + 1 == i && q.2.category == 2)))) : lv_has ls nL (ix_al base sp 0 (ix_st1 L i v)) := by
  refine ix_mono h (fun q hq => ?_)
  obtain ⟨j, w, h1, rfl⟩ := ix_al_of hq
  unfold ix_st1 at h1
  rw [ix_lg_set] at h1
  by_cases hj : j = i
  · subst hj
    by_cases hl : j < (ix_clr L j).length
    · rw [if_pos ⟨rfl, hl⟩] at h1
      cases h1
      rw [Nat.zero_add]
      exact List.mem_cons_self
    · rw [if_neg (fun q => hl q.2)] at h1
      exfalso
      have : ∀ (L : List (Option ix_V)) (j : Nat), L.length ≤ j → ix_lg L j = none := by
        intro L
        induction L with
        | nil => intro j _; rfl
        | cons a t ih =>
          intro j hj
          cases j with
          | zero => simp at hj
          | succ j => exact ih j (by simpa using hj)
      rw [this _ j (by omega)] at h1
      cases h1
  · rw [if_neg (fun q => hj q.1)] at h1
    obtain ⟨h2, h3⟩ := ix_lg_clr h1
    refine List.mem_cons_of_mem _ (List.mem_filter.mpr ⟨ix_al_in h2, ?_⟩)
    rw [Nat.zero_add, ix_cat2]
    by_cases hi : j + 1 = i
    · rw [h3 hi]
      simp [hj]
    · simp [hj, hi]
theorem ix_has2 {base : Nat} {sp : Nat → Nat} {ls : Array Slot} {nL i : Nat} {L : List (Option ix_V)} {v : ix_V} (hlen : i + 1 < L.length) (h : lv_has ls nL ((i, ix_g base sp v) :: (ix_al base sp 0 L).filter (fun q => !(q.1 == i) && (!(q.1 == i + 1) && !(q.1 + 1 == i && q.2.category == 2))))) : lv_has ls nL (ix_al base sp 0 (ix_st2 L i v)) := by
  refine ix_mono h (fun q hq => ?_)
  obtain ⟨j, w, h1, rfl⟩ := ix_al_of hq
  unfold ix_st2 at h1
  rw [ix_lg_set] at h1
  by_cases hj1 : j = i + 1
  · rw [if_pos ⟨hj1, by rw [List.length_set, ix_clr_len]; exact hlen⟩] at h1
    cases h1
  rw [if_neg (fun q => hj1 q.1), ix_lg_set] at h1
  by_cases hj : j = i
  · subst hj
    rw [if_pos ⟨rfl, by rw [ix_clr_len]; omega⟩] at h1
    cases h1
    rw [Nat.zero_add]
    exact List.mem_cons_self
  · rw [if_neg (fun q => hj q.1)] at h1
    obtain ⟨h2, h3⟩ := ix_lg_clr h1
    refine List.mem_cons_of_mem _ (List.mem_filter.mpr ⟨ix_al_in h2, ?_⟩)
    rw [Nat.zero_add, ix_cat2]
    by_cases hi : j + 1 = i
    · rw [h3 hi]
      simp [hj, hj1]
    · simp [hj, hi, hj1]
/-! the cells as the machine has them -/
def ix_fv (base : Nat) (M : ix_M) (a ci j : Nat) : Value := match M with
  | (_, _, _, I, J, R) => match ix_isK (ix_tyy ci j) with
    | 1 => .long (J a j)
    | 2 => va_rf ((R a j).map (fun k => base + k))
    | _ => .int (I a j)
def ix_ar (base : Nat) (M : ix_M) (a : Nat) : vp_A := match M with
  | (_, tg, ln, I, J, R) => (ln a, if tg a = 15 then .inr (.inl (J a)) else if tg a ≤ 16 then .inl (I a) else .inr (.inr (.inr (.inr (fun i => (R a i).map (fun k => base + k))))))
def ix_E (cy : Nat → ClassId) (base : Nat) (M : ix_M) (a : Nat) : va_E := if M.2.1 a < 13 then .inr (M.2.1 a, (List.range (ix_NN (M.2.1 a))).map (ix_fv base M a (M.2.1 a))) else .inl (cy (M.2.1 a), ix_ar base M a)
def ix_P (D : va_G) (cy : Nat → ClassId) (base : Nat) (M : ix_M) (H : Heap) : Prop := H.size = base + M.1 ∧ ∀ a, a < M.1 → va_at D ix_cls (base + a, ix_E cy base M a) H
def ix_tys (cy : Nat → ClassId) : List (ClassId × FieldType) := [(cy 14, .int), (cy 15, .long), (cy 16, .boolean), (cy 17, .object RX9), (cy 18, .array .int), (cy 19, .array .long), (cy 13, .byte)]
theorem ix_P.obj {D : va_G} {cy : Nat → ClassId} {base : Nat} {M : ix_M} {H : Heap} (h : ix_P D cy base M H) {a ci : Nat} (ha : a < M.1) (ht : M.2.1 a = ci) (hc : ci < 13) : va_at D ix_cls (base + a, .inr (ci, (List.range (ix_NN ci)).map (ix_fv base M a ci))) H := by
  have := h.2 a ha
  unfold ix_E at this
  rw [ht, if_pos hc] at this
  exact this
theorem ix_P.arr {D : va_G} {cy : Nat → ClassId} {base : Nat} {M : ix_M} {H : Heap} (h : ix_P D cy base M H) {a t : Nat} (ha : a < M.1) (ht : M.2.1 a = t) (hc : ¬ t < 13) : va_at D ix_cls (base + a, .inl (cy t, ix_ar base M a)) H := by
  have := h.2 a ha
  unfold ix_E at this
  rw [ht, if_neg hc] at this
  exact this
theorem ix_one {D : va_G} {cl : List vw_C} {q : Nat × va_E} {H : Heap} (h : va_at D cl q H) : va_P D cl [q] H := fun k r hk => by
  have h0 : k < 1 := (List.getElem?_eq_some_iff.mp hk).1
  rw [show k = 0 by omega] at hk
  cases hk
  exact h
/-- one cell is written -/
theorem ix_P.put {D : va_G} {cy : Nat → ClassId} {base : Nat} {M M' : ix_M} {H H1 : Heap} (h : ix_P D cy base M H) {a : Nat} (hN : M'.1 = M.1) (hz : H1.size = H.size) (ho : ∀ q : Nat, q ≠ base + a → H1[q]? = H[q]?) (ha : a < M.1 → va_at D ix_cls (base + a, ix_E cy base M' a) H1) (hE : ∀ b, b ≠ a → ix_E cy base M' b = ix_E cy base M b) : ix_P D cy base M' H1 := by
  refine ⟨by rw [hz, h.1, hN], fun b hb => ?_⟩
  rw [hN] at hb
  by_cases e : b = a
  · subst e
    exact ha hb
  · rw [hE b e]
    exact (h.2 b hb).kept (ho _ (by show base + b ≠ base + a; omega))
