/-! one instruction, as the interpreter does it, is the machine's -/
abbrev ix_B : Type := Program × Launch × Env × Room × State × MethodId × Array Value × List Frame × Method × Code × (State → Prop)
abbrev ix_w (b : ix_B) (H : Heap) (locs : List Loc) (k n : Nat) (g : JFrame) : Prop := W b.1 b.2.1 b.2.2.1 b.2.2.2.1 b.2.2.2.2.1 b.2.2.2.2.2.1 b.2.2.2.2.2.2.1 b.2.2.2.2.2.2.2.1 b.2.2.2.2.2.2.2.2.1 b.2.2.2.2.2.2.2.2.2.1 H locs k n b.2.2.2.2.2.2.2.2.2.2 g
abbrev ix_s (b : ix_B) : State := b.2.2.2.2.1
abbrev ix_mi (b : ix_B) : MethodId := b.2.2.2.2.2.1
abbrev ix_ag (b : ix_B) : Array Value := b.2.2.2.2.2.2.1
abbrev ix_me (b : ix_B) : Method := b.2.2.2.2.2.2.2.2.1
abbrev ix_co (b : ix_B) : Code := b.2.2.2.2.2.2.2.2.2.1
abbrev ix_Rm (b : ix_B) : Room := b.2.2.2.1
/-- the places: tables of classes, classes of arrays, the first cell's address, addresses of what was there, what may change, the heap at the entry, the number of locals -/
abbrev ix_Y : Type := va_G × (Nat → ClassId) × Nat × (Nat → Nat) × (Nat → Prop) × Heap × Nat
abbrev ix_yg (y : ix_Y) : ix_V → Value := ix_g y.2.2.1 y.2.2.2.1
/-- where the machine stands when the interpreter stands at x -/
def ix_at (y : ix_Y) (L : List (Option ix_V)) (M : ix_M) (H : Heap) (ls : Array Slot) (locs : List Loc) : Prop := ix_P y.1 y.2.1 y.2.2.1 M H ∧ lv_has ls y.2.2.2.2.2.2 (ix_al y.2.2.1 y.2.2.2.1 0 L) ∧ L.length = y.2.2.2.2.2.2 ∧ va_S y.2.2.2.2.1 y.2.2.2.2.2.1 H locs
def ix_Pm (b : ix_B) (y : ix_Y) (x : ix_X) : Prop := match x with
  | (pc, L, st, k, n, M) => ∀ (H : Heap) (ls : Array Slot) (locs : List Loc), ix_at y L M H ls locs → ix_w b H locs k n (F0 (ix_mi b) pc ls (st.map (ix_yg y)))
/-- what holds of the tables throughout: classes, arrays, links between nest mates -/
def ix_ow : List FieldType := [.object RX9, .array .int, .array .long]
theorem ix_ow_warm {t : FieldType} {s U : State} (hW : s.WarmedH U.vm) (hZ : va_Nw (.arrayOver t) s) : va_Nw (.arrayOver t) U := by
  have h : (Cond.arrayOver t).before #[] (s.setVm U.vm) = true := by rw [Cond.arrayOver_setVmC hW.alike]; exact hZ
  exact h
def ix_K (D : va_G) (cy : Nat → ClassId) (U : State) : Prop := va_K D ix_cls (ix_tys cy) U ∧ (∀ q ∈ ix_nw, va_Nw (.methodLinkNest (ix_cn q.1) q.2.1 q.2.2 RX11) U) ∧ ∀ t ∈ ix_ow, va_Nw (.arrayOver t) U
theorem ix_K.warm {D : va_G} {cy : Nat → ClassId} {u U : State} (hW : u.WarmedH U.vm) (h : ix_K D cy u) : ix_K D cy U := ⟨va_K.moved hW.alike h.1, fun q hq => va_Nw.warmM hW (h.2.1 q hq), fun t ht => ix_ow_warm hW (h.2.2 t ht)⟩
/-- the four texts, where they lie (sp 1 .. 4, their bytes sp 5 .. 8), what the constants are, COMPACT_STRINGS, and the formatter of which nothing is said -/
def ix_Z (sp : Nat → Nat) (A : Nat → Prop) (U : State) (H : Heap) : Prop := vk_S 4 ix_slen ix_sbyt (fun i => sp (1 + i)) (fun i => sp (5 + i)) A U H ∧ (vk_R RX7 107 ix_sx0 (sp 1) U ∧ vk_R RX7 95 ix_sx1 (sp 2) U ∧ vk_R RX12 358 ix_sx2 (sp 3) U ∧ vk_R RX12 383 ix_sx3 (sp 4) U) ∧ va_Z "java/lang/String" "COMPACT_STRINGS" "Z" (.int 1) A U H ∧ va_Zq "jdk/internal/util/Preconditions" "SIOOBE_FORMATTER" "Ljava/util/function/BiFunction;" A U H
theorem ix_Z.warm {sp : Nat → Nat} {A : Nat → Prop} {s U : State} {H H1 : Heap} (hW : s.WarmedH U.vm) (hq : ∀ a : Nat, a < H.size → ¬ A a → H1[a]? = H[a]?) (h : ix_Z sp A s H) : ix_Z sp A U H1 := ⟨(h.1.kept hq).moved hW.alike, ⟨h.2.1.1.warm hW, h.2.1.2.1.warm hW, h.2.1.2.2.1.warm hW, h.2.1.2.2.2.warm hW⟩, (h.2.2.1.kept hq).moved hW.alike, (h.2.2.2.kept hq).moved hW.alike⟩
theorem ix_Z.narrow {sp : Nat → Nat} {A B : Nat → Prop} {U : State} {H : Heap} (h : ix_Z sp A U H) (hAB : ∀ q, B q → A q) : ix_Z sp B U H := ⟨h.1.narrow hAB, h.2.1, h.2.2.1.narrow hAB, h.2.2.2.narrow hAB⟩
theorem ix_Z.same {sp : Nat → Nat} {A : Nat → Prop} {s U : State} {H : Heap} (hv : U.vm = s.vm) (h : ix_Z sp A s H) : ix_Z sp A U H := ⟨h.1.moved (by rw [hv]; exact Vm.Alike.refl _), ⟨h.2.1.1.same hv, h.2.1.2.1.same hv, h.2.1.2.2.1.same hv, h.2.1.2.2.2.same hv⟩, h.2.2.1.moved (by rw [hv]; exact Vm.Alike.refl _), h.2.2.2.moved (by rw [hv]; exact Vm.Alike.refl _)⟩
/-- what holds of the method's frame -/
def ix_F (b : ix_B) (y : ix_Y) (cc : ByteArray) (own : Nat) (ini : Bool) (sc : Option (Nat × (Nat → Int32))) : Prop :=
  b.1.tables.exec = Jvm.exec ∧ (ix_co b).code = cc ∧ (ix_co b).maxLocals = y.2.2.2.2.2.2 ∧ (ix_s b).vm.findClass (ix_cn own) = some (ix_mi b).cls ∧ (∀ w ∈ ix_T, w.before (ix_ag b) (ix_s b) = true) ∧ ix_K y.1 y.2.1 (ix_s b) ∧ (∀ q : Nat, y.2.2.1 ≤ q → y.2.2.2.2.1 q) ∧ y.2.2.1 ≤ y.2.2.2.2.2.1.size ∧ (ini = true → (ix_me b).name = "<init>") ∧ (∀ (L : Nat) (xs : Nat → Int32), sc = some (L, xs) → va_X (y.2.2.2.1 0) L xs (ix_s b) y.2.2.2.2.2.1 ∧ y.2.2.2.1 0 < y.2.2.2.2.2.1.size ∧ ¬ y.2.2.2.2.1 (y.2.2.2.1 0)) ∧ (y.2.2.2.2.2.1 = (ix_s b).heap ∧ ix_Z y.2.2.2.1 y.2.2.2.2.1 (ix_s b) (ix_s b).heap) ∧ own < 17
theorem ix_rd {base : Nat} {sp : Nat → Nat} {ls : Array Slot} {nL i : Nat} {L : List (Option ix_V)} {v : ix_V} (h : lv_has ls nL (ix_al base sp 0 L)) (hv : ix_lg L i = some v) : ls[i]? = some (.val (ix_g base sp v)) := by
  have := h.2.2 _ (ix_al_in (base := base) (sp := sp) (i := 0) hv)
  rw [Nat.zero_add] at this
  exact this
section SOUND
variable {b : ix_B} {y : ix_Y} {cc : ByteArray} {own mc ms : Nat} {ini : Bool} {sc : Option (Nat × (Nat → Int32))} {pc k n : Nat} {L : List (Option ix_V)} {st : List ix_V} {M : ix_M} {cs : List Bool} {x' : ix_X}
/-- an instruction that leaves cells and locals -/
theorem ix_go1 {st' : List ix_V} {pc' : Nat} (hrow : ∀ (H : Heap) (ls : Array Slot) (locs : List Loc), lv_has ls y.2.2.2.2.2.2 (ix_al y.2.2.1 y.2.2.2.1 0 L) → ix_w b H locs k n (F0 (ix_mi b) pc' ls (st'.map (ix_yg y))) → ix_w b H locs k n (F0 (ix_mi b) pc ls (st.map (ix_yg y)))) (hk : ix_Pm b y (pc', L, st', k, n, M)) : ix_Pm b y (pc, L, st, k, n, M) :=
  fun H ls locs h => hrow H ls locs h.2.1 (hk H ls locs h)
theorem ix_ld_ok {i pc' : Nat} {ok : ix_V → Bool} (h : ix_load pc' L i ok st k n M = some (cs, x'))
    (hrow : ∀ (v : ix_V), ok v = true → ∀ (H : Heap) (ls : Array Slot) (locs : List Loc), ls[i]? = some (.val (ix_yg y v)) → ix_w b H locs k n (F0 (ix_mi b) pc' ls ((v :: st).map (ix_yg y))) → ix_w b H locs k n (F0 (ix_mi b) pc ls (st.map (ix_yg y)))) (hk : ix_Pm b y x') : ix_Pm b y (pc, L, st, k, n, M) := by
  unfold ix_load at h
  cases hg : ix_lg L i with
  | none => rw [hg] at h; cases h
  | some v =>
    rw [hg] at h
    cases ho : ok v with
    | false => simp only [ho] at h; cases h
    | true =>
      simp only [ho] at h
      cases h
      exact ix_go1 (st' := v :: st) (fun H ls locs hl hw => hrow v ho H ls locs (ix_rd hl hg) hw) hk
theorem ix_sto_ok {i pc' : Nat} {ok : ix_V → Bool} (h : ix_sto pc' L i ok st k n M = some (cs, x'))
    (hrow : ∀ (v : ix_V) (r : List ix_V), ok v = true → i < y.2.2.2.2.2.2 → ∀ (H : Heap) (ls : Array Slot) (locs : List Loc) (lv : List (Nat × Value)), lv_has ls y.2.2.2.2.2.2 lv → (∀ ls' : Array Slot, lv_has ls' y.2.2.2.2.2.2 ((i, ix_yg y v) :: lv.filter (fun q => !(q.1 == i) && !(q.1 + 1 == i && q.2.category == 2))) → ix_w b H locs k n (F0 (ix_mi b) pc' ls' (r.map (ix_yg y)))) → ix_w b H locs k n (F0 (ix_mi b) pc ls ((v :: r).map (ix_yg y)))) (hk : ix_Pm b y x') : ix_Pm b y (pc, L, st, k, n, M) := by
  unfold ix_sto at h
  cases st with
  | nil => cases h
  | cons v r =>
    cases ho : (ok v && Nat.blt i L.length) with
    | false => simp only [ho] at h; cases h
    | true =>
      simp only [ho] at h
      cases h
      rw [Bool.and_eq_true] at ho
      intro H ls locs hat
      have hi : i < L.length := by simpa using ho.2
      refine hrow v r ho.1 (by rw [← hat.2.2.1]; exact hi) H ls locs _ hat.2.1 (fun ls' hl' => ?_)
      exact hk H ls' locs ⟨hat.1, ix_has1 hl', by rw [ix_st1_len]; exact hat.2.2.1, hat.2.2.2⟩
theorem ix_sto2_ok {i pc' : Nat} (h : ix_sto2 pc' L i st k n M = some (cs, x'))
    (hrow : ∀ (v : Int64) (r : List ix_V), i + 1 < y.2.2.2.2.2.2 → ∀ (H : Heap) (ls : Array Slot) (locs : List Loc) (lv : List (Nat × Value)), lv_has ls y.2.2.2.2.2.2 lv → (∀ ls' : Array Slot, lv_has ls' y.2.2.2.2.2.2 ((i, Value.long v) :: lv.filter (fun q => !(q.1 == i) && (!(q.1 == i + 1) && !(q.1 + 1 == i && q.2.category == 2)))) → ix_w b H locs k n (F0 (ix_mi b) pc' ls' (r.map (ix_yg y)))) → ix_w b H locs k n (F0 (ix_mi b) pc ls (.long v :: r.map (ix_yg y)))) (hk : ix_Pm b y x') : ix_Pm b y (pc, L, st, k, n, M) := by
  unfold ix_sto2 at h
  rcases st with - | ⟨x | v | z, r⟩
  · cases h
  · cases h
  · cases ho : Nat.blt (i + 1) L.length with
    | false => simp only [ix_isJ, ho] at h; cases h
    | true =>
      simp only [ix_isJ, ho] at h
      cases h
      intro H ls locs hat
      have hi : i + 1 < L.length := by simpa using ho
      refine hrow v r (by rw [← hat.2.2.1]; exact hi) H ls locs _ hat.2.1 (fun ls' hl' => ?_)
      exact hk H ls' locs ⟨hat.1, ix_has2 hi hl', by rw [ix_st2_len]; exact hat.2.2.1, hat.2.2.2⟩
  · cases h
theorem ix_ii_ok {f : Int32 → Int32 → List Bool × ix_V} (h : ix_ii f pc L st k n M = some (cs, x')) (hc : ix_all cs)
    (hrow : ∀ (x z : Int32) (r : List ix_V), ix_all (f x z).1 → ∀ (H : Heap) (ls : Array Slot) (locs : List Loc), ix_w b H locs k n (F0 (ix_mi b) (pc + 1) ls (ix_yg y (f x z).2 :: r.map (ix_yg y))) → ix_w b H locs k n (F0 (ix_mi b) pc ls (.int z :: .int x :: r.map (ix_yg y)))) (hk : ix_Pm b y x') : ix_Pm b y (pc, L, st, k, n, M) := by
  unfold ix_ii at h
  split at h
  · cases h
    exact ix_go1 (fun H ls locs _ hw => hrow _ _ _ hc H ls locs hw) hk
  · cases h
theorem ix_jj_ok {f : Int64 → Int64 → List Bool × ix_V} (h : ix_jj f pc L st k n M = some (cs, x')) (hc : ix_all cs)
    (hrow : ∀ (x z : Int64) (r : List ix_V), ix_all (f x z).1 → ∀ (H : Heap) (ls : Array Slot) (locs : List Loc), ix_w b H locs k n (F0 (ix_mi b) (pc + 1) ls (ix_yg y (f x z).2 :: r.map (ix_yg y))) → ix_w b H locs k n (F0 (ix_mi b) pc ls (.long z :: .long x :: r.map (ix_yg y)))) (hk : ix_Pm b y x') : ix_Pm b y (pc, L, st, k, n, M) := by
  unfold ix_jj at h
  split at h
  · cases h
    exact ix_go1 (fun H ls locs _ hw => hrow _ _ _ hc H ls locs hw) hk
  · cases h
theorem ix_i_ok {f : Int32 → ix_V} (h : ix_i f pc L st k n M = some (cs, x'))
    (hrow : ∀ (x : Int32) (r : List ix_V) (H : Heap) (ls : Array Slot) (locs : List Loc), ix_w b H locs k n (F0 (ix_mi b) (pc + 1) ls (ix_yg y (f x) :: r.map (ix_yg y))) → ix_w b H locs k n (F0 (ix_mi b) pc ls (.int x :: r.map (ix_yg y)))) (hk : ix_Pm b y x') : ix_Pm b y (pc, L, st, k, n, M) := by
  unfold ix_i at h
  split at h
  · cases h
    exact ix_go1 (fun H ls locs _ hw => hrow _ _ H ls locs hw) hk
  · cases h
theorem ix_j_ok {f : Int64 → ix_V} (h : ix_j f pc L st k n M = some (cs, x'))
    (hrow : ∀ (x : Int64) (r : List ix_V) (H : Heap) (ls : Array Slot) (locs : List Loc), ix_w b H locs k n (F0 (ix_mi b) (pc + 1) ls (ix_yg y (f x) :: r.map (ix_yg y))) → ix_w b H locs k n (F0 (ix_mi b) pc ls (.long x :: r.map (ix_yg y)))) (hk : ix_Pm b y x') : ix_Pm b y (pc, L, st, k, n, M) := by
  unfold ix_j at h
  split at h
  · cases h
    exact ix_go1 (fun H ls locs _ hw => hrow _ _ H ls locs hw) hk
  · cases h
theorem ix_jump_ok {off : Int} {f : Nat → Option (List Bool × ix_X)} {r : List Bool × ix_X} (h : ix_jump pc off f = some r) : ∃ t : Nat, (pc : Int) + off = (t : Int) ∧ f t = some r := by
  unfold ix_jump at h
  cases he : (pc : Int) + off with
  | ofNat t => rw [he] at h; exact ⟨t, rfl, h⟩
  | negSucc t => rw [he] at h; cases h
theorem ix_if_ok {cnd : ClassFile.Cond} {off : Int} {t : Nat} {x : Int32} {r : List ix_V} (hx : b.1.tables.exec = Jvm.exec) (hb : (ix_co b).code = cc) (hd : decode cc pc = .ok (.ifCond cnd off, 3)) (ht : (pc : Int) + off = (t : Int)) (hk : ix_Pm b y (ix_if cnd x t (pc + 3), L, r, k, n, M)) : ix_Pm b y (pc, L, .inl x :: r, k, n, M) := by
  intro H ls locs hat
  have hk := hk H ls locs hat
  cases cnd
  · by_cases hc : x = 0
    · rw [ix_if, if_pos hc] at hk
      exact lv_if_eq hx hb hd ht (fun _ => hk) (fun z => absurd hc z)
    · rw [ix_if, if_neg hc] at hk
      exact lv_if_eq hx hb hd ht (fun z => absurd z hc) (fun _ => hk)
  · by_cases hc : x = 0
    · rw [ix_if, if_pos hc] at hk
      exact lv_if_ne hx hb hd ht (fun z => absurd hc z) (fun _ => hk)
    · rw [ix_if, if_neg hc] at hk
      exact lv_if_ne hx hb hd ht (fun _ => hk) (fun z => (hc z).elim)
  · by_cases hc : x < 0
    · rw [ix_if, if_pos hc] at hk
      exact lv_if_lt hx hb hd ht (fun _ => hk) (fun z => absurd hc z)
    · rw [ix_if, if_neg hc] at hk
      exact lv_if_lt hx hb hd ht (fun z => absurd z hc) (fun _ => hk)
  · by_cases hc : x < 0
    · rw [ix_if, if_pos hc] at hk
      exact lv_if_ge hx hb hd ht (fun z => absurd hc (Int32.not_lt.mpr z)) (fun _ => hk)
    · rw [ix_if, if_neg hc] at hk
      exact lv_if_ge hx hb hd ht (fun _ => hk) (fun z => absurd (Int32.not_lt.mp hc) z)
  · by_cases hc : x ≤ 0
    · rw [ix_if, if_pos hc] at hk
      exact lv_if_gt hx hb hd ht (fun z => absurd hc (Int32.not_le.mpr z)) (fun _ => hk)
    · rw [ix_if, if_neg hc] at hk
      exact lv_if_gt hx hb hd ht (fun _ => hk) (fun z => absurd (Int32.not_le.mp hc) z)
  · by_cases hc : x ≤ 0
    · rw [ix_if, if_pos hc] at hk
      exact lv_if_le hx hb hd ht (fun _ => hk) (fun z => absurd hc z)
    · rw [ix_if, if_neg hc] at hk
      exact lv_if_le hx hb hd ht (fun z => absurd z hc) (fun _ => hk)
theorem ix_icmp_ok {cnd : ClassFile.Cond} {off : Int} {t : Nat} {x z : Int32} {r : List ix_V} (hx : b.1.tables.exec = Jvm.exec) (hb : (ix_co b).code = cc) (hd : decode cc pc = .ok (.if_icmp cnd off, 3)) (ht : (pc : Int) + off = (t : Int)) (hk : ix_Pm b y (ix_icmp cnd x z t (pc + 3), L, r, k, n, M)) : ix_Pm b y (pc, L, .inl z :: .inl x :: r, k, n, M) := by
  intro H ls locs hat
  have hk := hk H ls locs hat
  cases cnd
  · by_cases hc : x = z
    · rw [ix_icmp, if_pos hc] at hk
      exact lv_icmp_eq hx hb hd ht (fun _ => hk) (fun z => absurd hc z)
    · rw [ix_icmp, if_neg hc] at hk
      exact lv_icmp_eq hx hb hd ht (fun z => absurd z hc) (fun _ => hk)
  · by_cases hc : x = z
    · rw [ix_icmp, if_pos hc] at hk
      exact lv_icmp_ne hx hb hd ht (fun z => absurd hc z) (fun _ => hk)
    · rw [ix_icmp, if_neg hc] at hk
      exact lv_icmp_ne hx hb hd ht (fun _ => hk) (fun z => (hc z).elim)
  · by_cases hc : x < z
    · rw [ix_icmp, if_pos hc] at hk
      exact lv_icmp_lt hx hb hd ht (fun _ => hk) (fun z => absurd hc z)
    · rw [ix_icmp, if_neg hc] at hk
      exact lv_icmp_lt hx hb hd ht (fun z => absurd z hc) (fun _ => hk)
  · by_cases hc : x < z
    · rw [ix_icmp, if_pos hc] at hk
      exact lv_icmp_ge hx hb hd ht (fun z => absurd hc (Int32.not_lt.mpr z)) (fun _ => hk)
    · rw [ix_icmp, if_neg hc] at hk
      exact lv_icmp_ge hx hb hd ht (fun _ => hk) (fun z => absurd (Int32.not_lt.mp hc) z)
  · by_cases hc : x ≤ z
    · rw [ix_icmp, if_pos hc] at hk
      exact lv_icmp_gt hx hb hd ht (fun z => absurd hc (Int32.not_le.mpr z)) (fun _ => hk)
    · rw [ix_icmp, if_neg hc] at hk
      exact lv_icmp_gt hx hb hd ht (fun _ => hk) (fun z => absurd (Int32.not_le.mp hc) z)
  · by_cases hc : x ≤ z
    · rw [ix_icmp, if_pos hc] at hk
      exact lv_icmp_le hx hb hd ht (fun _ => hk) (fun z => absurd hc z)
    · rw [ix_icmp, if_neg hc] at hk
      exact lv_icmp_le hx hb hd ht (fun z => absurd z hc) (fun _ => hk)
end SOUND
