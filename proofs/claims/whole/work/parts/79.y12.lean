/-! treaties: the reference reads a clause and a treaty -/
set_option maxHeartbeats 4000000 in
theorem yg_ta {b : Nat → Int32} {n L S O : Nat} {R : Nat → Nat → Int32} {RJ : Nat → Nat → Int64} {M : Nat} (hL : L ≤ n) (hn : n ≤ 600 ∧ M ≤ 1800) (hL1 : yk b n L = 21 ∨ yk b n L = 22) (hv : ∀ c, yk b n c = 20 → ∃ m : Nat, m ≤ 9999999 ∧ yv b n c = lZ m) (hO6 : O ≤ 600) {I0 : Nat → Nat → Int32} {J0 : Nat → Nat → Int64} {T : Option Nat} {V : Int32 → (Nat → Nat → Int32) → (Nat → Nat → Int64) → Option Nat → Prop} {P : Int32 → (Nat → Nat → Int32) → (Nat → Nat → Int64) → Option Nat → Prop} (hV : ∀ x1 I J T, wb_X12_test_6 x1 I J T V P → V x1 I J T) (m c c' : Nat) (bg : Bool) (ws : List (Bool × YO)) (x : YO) (o : List YG) (w : List YP) (I I2 : Nat → Nat → Int32) (J J2 : Nat → Nat → Int64) (hm : L < c + (m + 1)) (hc' : c' ≤ L) (hW : 3 * w.length ≤ c) (hO : fr_off yDO I0 I) (hE : fr_off yES J0 J) (o2 : fr_off yDO I I2) (r2 : fr_off yES J J2) (hS2 : S + (o ++ (x.2.1 ++ x.2.2.2)).length ≤ M + c') (h3 : c + 3 ≤ c') (hM3 : yM1 b n S (R 232) (RJ 233) c' (o ++ (x.2.1 ++ x.2.2.2)) I2 J2) (hM4 : yM2 S O R (w ++ [(bg, x.1, o.length, o.length + x.2.1.length, x.2.2.1, o.length + x.2.1.length + x.2.2.2.length)]) I2) (hbad : ∀ k c2 I2 J2, (if yk b n c' = 6 then yte (yk b n) (yv b n) m (c' + 1) true (ws ++ [(bg, x)]) else if yk b n c' = 7 then yte (yk b n) (yv b n) m (c' + 1) false (ws ++ [(bg, x)]) else .inr (ws ++ [(bg, x)], c')) = .inl (k, c2) → fr_off yDO I0 I2 → fr_off yES J0 J2 → yMb b n S O R RJ k c2 I2 J2 → P 0 I2 J2 T) (hok : ∀ nw c2 I2 J2, (if yk b n c' = 6 then yte (yk b n) (yv b n) m (c' + 1) true (ws ++ [(bg, x)]) else if yk b n c' = 7 then yte (yk b n) (yv b n) m (c' + 1) false (ws ++ [(bg, x)]) else .inr (ws ++ [(bg, x)], c')) = .inr (ws ++ nw, c2) → nw ≠ [] → c2 ≤ L → fr_off yDO I0 I2 → fr_off yES J0 J2 → S + (o ++ yss nw).length ≤ M + c2 → 3 * (w ++ yrc o.length nw).length ≤ c2 → yM1 b n S (R 232) (RJ 233) c2 (o ++ yss nw) I2 J2 → yM2 S O R (w ++ yrc o.length nw) I2 → P 1 I2 J2 T) : V 1 I2 J2 T := by
      have kL : ∀ {c : Nat} {a : Int32}, c ≤ L → yk b n c = a → a ≠ 21 → a ≠ 22 → c + 1 ≤ L := fun {c a} hc e h1 h2 => yKL hL1 hc e h1 h2
      have hO2 := fr_trans hO o2
      have hE2 := fr_trans hE r2
      have hx := hM3.1
      have hs := yps_le b n c'
      have hmt := hM3.2.1
      have wl : (w ++ [(bg, x.1, o.length, o.length + x.2.1.length, x.2.2.1, o.length + x.2.1.length + x.2.2.2.length)]).length = w.length + 1 := by rw [List.length_append, List.length_singleton]
      have lo : (o ++ (x.2.1 ++ x.2.2.2)).length = o.length + x.2.1.length + x.2.2.2.length := by simp only [List.length_append]; omega
      -- one more
      have more : ∀ bg2 : Bool, c' + 1 ≤ L → (∀ k c2 I2 J2, yte (yk b n) (yv b n) m (c' + 1) bg2 (ws ++ [(bg, x)]) = .inl (k, c2) → fr_off yDO I0 I2 → fr_off yES J0 J2 → yMb b n S O R RJ k c2 I2 J2 → P 0 I2 J2 T) → (∀ nw c2 I2 J2, yte (yk b n) (yv b n) m (c' + 1) bg2 (ws ++ [(bg, x)]) = .inr (ws ++ nw, c2) → nw ≠ [] → c2 ≤ L → fr_off yDO I0 I2 → fr_off yES J0 J2 → S + (o ++ yss nw).length ≤ M + c2 → 3 * (w ++ yrc o.length nw).length ≤ c2 → yM1 b n S (R 232) (RJ 233) c2 (o ++ yss nw) I2 J2 → yM2 S O R (w ++ yrc o.length nw) I2 → P 1 I2 J2 T) → wp_X12_next I2 J2 T (fun I14 J14 T14 => wp_X12_one (s01_ bg2) I14 J14 T14 (fun v15 I15 J15 T15 => V v15 I15 J15 T15)) := by
        intro bg2 hcL hb hg
        refine yM_nx hM3 (fun I4 J4 o4 r4 hM5 => ?_)
        refine yg_test hL hn hL1 hv hO6 hV m (c' + 1) bg2 (ws ++ [(bg, x)]) _ _ I4 J4 (by omega) hcL (by omega) (by omega) hM5 (yM2_fr hM4 o4 rfl) (fr_trans hO2 (fr_mono (by decide) o4)) (fr_trans hE2 (fr_mono (by decide) r4)) hb (fun nw c2 I6 J6 e6 nn hc2 o6 r6 s6 w6 m6 m7 => ?_)
        have a1 : ws ++ [(bg, x)] ++ nw = ws ++ ((bg, x) :: nw) := by rw [List.append_assoc]; rfl
        have a2 : o ++ (x.2.1 ++ x.2.2.2) ++ yss nw = o ++ yss ((bg, x) :: nw) := by rw [List.append_assoc]; rfl
        have a3 : w ++ [(bg, x.1, o.length, o.length + x.2.1.length, x.2.2.1, o.length + x.2.1.length + x.2.2.2.length)] ++ yrc (o ++ (x.2.1 ++ x.2.2.2)).length nw = w ++ yrc o.length ((bg, x) :: nw) := by rw [List.append_assoc, lo]; rfl
        rw [a1] at e6
        rw [a2] at s6 m6
        rw [a3] at w6 m7
        exact hg _ c2 I6 J6 e6 (by simp) hc2 o6 r6 s6 w6 m6 m7
      apply hV
      unfold wb_X12_test_6
      refine ⟨fun z => absurd z (by decide), fun _ => yg_key hx hs hmt ⟨by decide, by decide⟩ (fun y => ⟨fun z => absurd z (by decide), fun _ => ?_⟩) (fun y6 => ⟨fun _ => yg_key hx hs hmt ⟨by decide, by decide⟩ (fun y => ⟨fun z => absurd z (by decide), fun _ => ?_⟩) (fun y7 => ⟨fun _ => ⟨by decide, ?_⟩, fun z => absurd rfl z⟩), fun z => absurd rfl z⟩)⟩
      · have y : yk b n c' = 6 := y
        rw [if_pos y] at hbad hok
        refine yg_key hx hs hmt ⟨by decide, by decide⟩ (fun _ => ?_) (fun z => absurd y z)
        exact more true (kL hc' y (by decide) (by decide)) hbad hok
      · have y6 : ¬ yk b n c' = 6 := y6
        have y : yk b n c' = 7 := y
        rw [if_neg y6, if_pos y] at hbad hok
        refine yg_key hx hs hmt ⟨by decide, by decide⟩ (fun z => absurd z y6) (fun _ => ?_)
        exact more false (kL hc' y (by decide) (by decide)) hbad hok
      · have y6 : ¬ yk b n c' = 6 := y6
        have y7 : ¬ yk b n c' = 7 := y7
        rw [if_neg y6, if_neg y7] at hok
        refine hok [(bg, x)] c' I2 J2 rfl (by simp) hc' hO2 hE2 ?_ ?_ ?_ ?_
        · show S + (o ++ (x.2.1 ++ x.2.2.2 ++ [])).length ≤ _
          rw [List.append_nil]; exact hS2
        · show 3 * (w ++ [(bg, x.1, o.length, o.length + x.2.1.length, x.2.2.1, o.length + x.2.1.length + x.2.2.2.length)]).length ≤ _
          omega
        · show yM1 b n S (R 232) (RJ 233) c' (o ++ (x.2.1 ++ x.2.2.2 ++ [])) I2 J2
          rw [List.append_nil]; exact hM3
        · exact hM4

theorem yg_tst {b : Nat → Int32} {n L S O c : Nat} {R : Nat → Nat → Int32} {RJ : Nat → Nat → Int64} {o : List YG} {w : List YP} {M : Nat} (hL : L ≤ n) (hn : n ≤ 600 ∧ M ≤ 1800) (hL1 : yk b n L = 21 ∨ yk b n L = 22) (hv : ∀ c, yk b n c = 20 → ∃ m : Nat, m ≤ 9999999 ∧ yv b n c = lZ m) (hO6 : O ≤ 600) {I : Nat → Nat → Int32} {J : Nat → Nat → Int64} {T : Option Nat} {P : Int32 → (Nat → Nat → Int32) → (Nat → Nat → Int64) → Option Nat → Prop} (hc : c ≤ L) (hS : S + o.length ≤ M + c) (hW : 3 * w.length ≤ c) (hM : yM1 b n S (R 232) (RJ 233) c o I J) (hM2 : yM2 S O R w I) (hbad : ∀ k c' I2 J2, yte (yk b n) (yv b n) 700 c true [] = .inl (k, c') → fr_off yDO I I2 → fr_off yES J J2 → yMb b n S O R RJ k c' I2 J2 → P 0 I2 J2 T) (hok : ∀ nw c' I2 J2, yte (yk b n) (yv b n) 700 c true [] = .inr (nw, c') → nw ≠ [] → c' ≤ L → fr_off yDO I I2 → fr_off yES J J2 → S + (o ++ yss nw).length ≤ M + c' → 3 * (w ++ yrc o.length nw).length ≤ c' → yM1 b n S (R 232) (RJ 233) c' (o ++ yss nw) I2 J2 → yM2 S O R (w ++ yrc o.length nw) I2 → P 1 I2 J2 T) : wp_X12_test I J T P := by
  unfold wp_X12_test
  rw [yte] at hbad hok
  refine yg_one (bg := true) hL hn hL1 hv hc hS (by omega) hM hM2 (fun k c' I2 J2 e o2 r2 mb => ?_) (fun x c' I2 J2 e hc' o2 r2 hS2 h3 hM3 hM4 => ?_)
  · rw [e] at hbad
    intro V hV
    apply hV
    unfold wb_X12_test_6
    exact ⟨fun _ => ⟨by decide, hbad k c' I2 J2 rfl o2 r2 mb⟩, fun z => absurd rfl z⟩
  · rw [e] at hbad hok
    intro V hV
    exact yg_ta hL hn hL1 hv hO6 hV 699 c c' true [] x o w I I2 J J2 (by omega) hc' hW fr_refl fr_refl o2 r2 hS2 h3 hM3 hM4 hbad hok
set_option maxHeartbeats 4000000 in
theorem yg_c4 {b : Nat → Int32} {n L S O t c c5 g : Nat} {R : Nat → Nat → Int32} {RJ : Nat → Nat → Int64} {o : List YG} {w : List YP} {q : List YC} {th : Bool} {fr to : Int32} {M : Nat} (hL : L ≤ n) (hn : n ≤ 600 ∧ M ≤ 1800) (hL1 : yk b n L = 21 ∨ yk b n L = 22) (hv : ∀ c, yk b n c = 20 → ∃ m : Nat, m ≤ 9999999 ∧ yv b n c = lZ m) (hO6 : O ≤ 600) (ht : t < 4) (hq : q.length < 12) (hg : g = 12 * t + q.length) {I0 I : Nat → Nat → Int32} {J0 J : Nat → Nat → Int64} {T : Option Nat} {V77 : Int64 → Int32 → (Nat → Nat → Int32) → (Nat → Nat → Int64) → Option Nat → Prop} {V130 : Int64 → Int32 → Int32 → (Nat → Nat → Int32) → (Nat → Nat → Int64) → Option Nat → Prop} {P : Int32 → (Nat → Nat → Int32) → (Nat → Nat → Int64) → Option Nat → Prop} (hc5 : c5 ≤ L) (hS : S + o.length ≤ M + c5) (hW : 3 * w.length ≤ c5) (hM : yM4 b n S O t R RJ c5 o w q I J) (a1 : J 224 g = yna b n c) (a2 : yk b n c = 18) (a3 : I 217 g = s01_ th) (a4 : I 218 g = (if fr = 0 then -1 else fr)) (a5 : I 219 g = (if to = 0 then -1 else to)) (hO : fr_off yDC I0 I) (hE : fr_off yEC J0 J) (hbad : yBd b n S O t R RJ I0 J0 T P (yc4 (yk b n) (yv b n) c th fr to c5)) (hok : yGd M b n L S O t R RJ o w q I0 J0 T P (yc4 (yk b n) (yv b n) c th fr to c5)) : wj_X12_clause_j292_77_130 (nI g) I J T V77 V130 P := by
  have hg6 : g < 60 := by omega
  have ig : ix_inb (nI g) 60 = true := nI_in2 hg6 (by decide)
  have d5 : (nI g).toNatClampNeg = g := nI_clamp (by omega)
  have e45 := hM.2.1.1
  unfold wj_X12_clause_j292_77_130
  rw [d5, e45, hM.1.2.2.1]
  refine ⟨fun _ => ⟨ig, ?_⟩, fun z => absurd (by decide) z⟩
  have hM1 := yM4_w (a := 220) (g := g) (v := nI (O + w.length)) hM ⟨by decide, by decide⟩ hg hg6
  have o1 : fr_off yDC I0 (ix_u2 I 220 g (nI (O + w.length))) := fr_putn rfl (by omega) hO
  have b3 : (ix_u2 I 220 g (nI (O + w.length))) 217 g = s01_ th := by rw [u2_c (by decide)]; exact a3
  have b4 : (ix_u2 I 220 g (nI (O + w.length))) 218 g = (if fr = 0 then -1 else fr) := by rw [u2_c (by decide)]; exact a4
  have b5 : (ix_u2 I 220 g (nI (O + w.length))) 219 g = (if to = 0 then -1 else to) := by rw [u2_c (by decide)]; exact a5
  have b6 : (ix_u2 I 220 g (nI (O + w.length))) 220 g = nI (O + w.length) := by simp [u2_e]
  unfold yc4 at hbad hok
  refine yg_key hM1.1.1 (yps_le b n c5) hM1.1.2.1 ⟨by decide, by decide⟩ (fun y => ⟨fun z => absurd z (by decide), fun _ => ?_⟩) (fun y => ⟨fun _ => ?_, fun z => absurd rfl z⟩)
  · have y : yk b n c5 = 4 := y
    rw [if_pos y] at hbad hok
    have c5L := yKL hL1 hc5 y (by decide) (by decide)
    refine yM4_nx hM1 (fun I2 J2 o2 r2 hM2 => ?_)
    have hO2 := fr_trans o1 (fr_mono (E := yDC) (by decide) o2)
    have hE2 := fr_trans hE (fr_mono (E := yEC) (by decide) r2)
    refine yg_tst hL hn hL1 hv hO6 c5L (by omega) (by omega) hM2.1 hM2.2.1 (fun k c' I4 J4 es q1 q2 mb => ?_) (fun ws c6 I4 J4 es nn hc6 q1 q2 s4 w4 m4 m5 => ?_)
    · rw [es] at hbad
      obtain ⟨f1, f2, f3, f4⟩ := mb
      refine ⟨fun _ => hbad k c' I4 J4 rfl (fr_trans hO2 (fr_mono (by decide) q1)) (fr_trans hE2 (fr_mono (by decide) q2)) f1 f2 ⟨f3, f4, fun a j k1 k2 k3 => ?_, fun j hj => ?_⟩, fun z => absurd rfl z⟩
      · rw [fr_row q1 (show fr_rw yDO 217 224 = true from rfl) k1 (by omega)]; exact hM2.2.2.2.2.2.1 a j k1 k2 k3
      · rw [fr_rw1 q1 216 rfl]; exact hM2.2.2.2.2.2.2 j hj
    · rw [es] at hbad hok
      refine ⟨fun z => absurd z (by decide), fun _ => ?_⟩
      have rr : ∀ a, 217 ≤ a → a ≤ 220 → I4 a g = (ix_u2 I 220 g (nI (O + w.length))) a g := fun a k1 k2 => by
        rw [fr_row q1 (show fr_rw yDO 217 224 = true from rfl) k1 (by omega), fr_row o2 (show fr_rw [(204, 205, 17, 20)] 217 224 = true from rfl) k1 (by omega)]
      refine yg_c5 hL hn hL1 hv ht hq hg hc6 s4 w4 (yM4_to hM2 q1 q2 rfl rfl m4 m5) ?_ a2 ?_ ?_ ?_ ?_ (fr_trans hO2 (fr_mono (by decide) q1)) (fr_trans hE2 (fr_mono (by decide) q2)) hbad hok
      · rw [fr_rw1 q2 224 rfl, fr_rw1 r2 224 rfl]; exact a1
      · rw [rr _ (by decide) (by decide)]; exact b3
      · rw [rr _ (by decide) (by decide)]; exact b4
      · rw [rr _ (by decide) (by decide)]; exact b5
      · rw [rr _ (by decide) (by decide)]; exact b6
  · have y : ¬ yk b n c5 = 4 := y
    rw [if_neg y] at hbad hok
    have n1 : o ++ yss [] = o := List.append_nil o
    have n2 : w ++ yrc o.length [] = w := List.append_nil w
    exact yg_c5 (ws := []) hL hn hL1 hv ht hq hg hc5 (by rw [n1]; exact hS) (by rw [n2]; exact hW) (by rw [n1, n2]; exact hM1) a1 a2 b3 b4 b5 b6 o1 hE hbad hok
theorem yli_k {K : Nat → Int32} {v : Nat → Int64} : ∀ m c x k c', yli K v m c x = .inl (k, c') → k = 2 ∨ k = 5 := by
  intro m
  induction m with
  | zero => intro c x k c' h; rw [yli] at h; have := congrArg Prod.fst (Sum.inl.inj h); exact Or.inl this.symm
  | succ m ih =>
    intro c x k c' h
    rw [yli] at h
    split at h
    · split at h
      · split at h
        · split at h
          · exact ih _ _ _ _ h
          · cases h
        · have := congrArg Prod.fst (Sum.inl.inj h); exact Or.inr this.symm
      · have := congrArg Prod.fst (Sum.inl.inj h); exact Or.inr this.symm
    · have := congrArg Prod.fst (Sum.inl.inj h); exact Or.inl this.symm
theorem yft_p {b : Nat → Int32} {n c : Nat} {k : Int32} (h : k = 2 ∨ k = 5) : ¬ yft b n c k ≤ 0 ∧ ¬ yft b n c k = 0 := by
  unfold yft
  split
  · decide
  · rcases h with g | g <;> rw [g] <;> decide
theorem yg_lis {b : Nat → Int32} {n L S c : Nat} {r : Nat → Int32} {rj : Nat → Int64} {o : List YG} {M : Nat} (hL : L ≤ n) (hn : n ≤ 600 ∧ M ≤ 1800) (hL1 : yk b n L = 21 ∨ yk b n L = 22) {I : Nat → Nat → Int32} {J : Nat → Nat → Int64} {T : Option Nat} {P : Int32 → (Nat → Nat → Int32) → (Nat → Nat → Int64) → Option Nat → Prop} (hc : c ≤ L) (hM : yM1 b n S r rj c o I J) (hbad : ∀ k c' y I2 J2, yli (yk b n) (yv b n) 700 c 0 = .inl (k, c') → fr_off yDL I I2 → fr_off yEL J J2 → I2 204 22 = yft b n c' k → I2 204 21 = nI (yps b n c') → P y I2 J2 T) (hok : ∀ y c' I2 J2, yli (yk b n) (yv b n) 700 c 0 = .inr (y, c') → c' ≤ L → fr_off yDL I I2 → fr_off yEL J J2 → yM1 b n S r rj c' o I2 J2 → P y I2 J2 T) : wp_X12_list I J T P := by
  unfold wp_X12_list
  intro V hV
  exact yg_li hL1 hV 700 c 0 I J (by omega) hc hM fr_refl fr_refl hbad hok
/-- behind a list -/
theorem yM4_li {b : Nat → Int32} {n S O t c c2 : Nat} {R : Nat → Nat → Int32} {RJ : Nat → Nat → Int64} {o : List YG} {w : List YP} {q : List YC} {I I2 : Nat → Nat → Int32} {J J2 : Nat → Nat → Int64} (h : yM4 b n S O t R RJ c o w q I J) (o1 : fr_off yDL I I2) (r1 : fr_off yEL J J2) (m1 : yM1 b n S (R 232) (RJ 233) c2 o I2 J2) : yM4 b n S O t R RJ c2 o w q I2 J2 := by
  have := yM4_to (o2 := []) (w2 := []) h o1 r1 rfl rfl (by rw [List.append_nil]; exact m1) (by rw [List.append_nil]; exact yM2_fr h.2.1 o1 rfl)
  rw [List.append_nil, List.append_nil] at this
  exact this
theorem ylow_li {b : Nat → Int32} {n S O t c g a : Nat} {v : Int32} {R : Nat → Nat → Int32} {RJ : Nat → Nat → Int64} {o : List YG} {w : List YP} {q : List YC} {I I2 : Nat → Nat → Int32} {J J2 : Nat → Nat → Int64} (h : yM4 b n S O t R RJ c o w q I J) (o1 : fr_off yDL I I2) (r1 : fr_off yEL J J2) (hg : g = 12 * t + q.length) (ha : 217 ≤ a ∧ a ≤ 223) : ylow S O t R RJ (ix_u2 I2 a g v) J2 := by
  obtain ⟨h1, h2, h3, h4, h5, h6, h7⟩ := h
  refine ⟨fun j hj => ?_, fun a2 j k1 k2 k3 => ?_, fun a2 j k1 k2 k3 => ?_, fun j hj => ?_⟩
  · rw [u2_c (by omega), fr_rw1 o1 232 rfl, fr_rw1 r1 233 rfl]; exact h1.2.2.2.2.2 j hj
  · rw [u2_c (by omega), fr_row o1 (show fr_rw yDL 225 232 = true from rfl) k1 (by omega)]; exact h2.2.2 a2 j k1 k2 k3
  · have e : I2 a2 j = R a2 j := by rw [fr_row o1 (show fr_rw yDL 217 224 = true from rfl) k1 (by omega)]; exact h6 a2 j k1 k2 k3
    rw [u2_e, if_neg (show ¬ j = g by omega), ← e]; split <;> rfl
  · rw [u2_c (by omega), fr_rw1 o1 216 rfl]; exact h7 j hj
set_option maxHeartbeats 4000000 in
theorem yg_c3 {b : Nat → Int32} {n L S O t c c4 g : Nat} {R : Nat → Nat → Int32} {RJ : Nat → Nat → Int64} {o : List YG} {w : List YP} {q : List YC} {th : Bool} {fr : Int32} {M : Nat} (hL : L ≤ n) (hn : n ≤ 600 ∧ M ≤ 1800) (hL1 : yk b n L = 21 ∨ yk b n L = 22) (hv : ∀ c, yk b n c = 20 → ∃ m : Nat, m ≤ 9999999 ∧ yv b n c = lZ m) (hO6 : O ≤ 600) (ht : t < 4) (hq : q.length < 12) (hg : g = 12 * t + q.length) {I0 I : Nat → Nat → Int32} {J0 J : Nat → Nat → Int64} {T : Option Nat} {V77 : Int64 → Int32 → (Nat → Nat → Int32) → (Nat → Nat → Int64) → Option Nat → Prop} {V130 : Int64 → Int32 → Int32 → (Nat → Nat → Int32) → (Nat → Nat → Int64) → Option Nat → Prop} {P : Int32 → (Nat → Nat → Int32) → (Nat → Nat → Int64) → Option Nat → Prop} (hc4 : c4 ≤ L) (hS : S + o.length ≤ M + c4) (hW : 3 * w.length ≤ c4) (hM : yM4 b n S O t R RJ c4 o w q I J) (a1 : J 224 g = yna b n c) (a2 : yk b n c = 18) (a3 : I 217 g = s01_ th) (a4 : I 218 g = (if fr = 0 then -1 else fr)) (a5 : I 219 g = -1) (hO : fr_off yDC I0 I) (hE : fr_off yEC J0 J) (hbad : yBd b n S O t R RJ I0 J0 T P (yc3 (yk b n) (yv b n) c th fr c4)) (hok : yGd M b n L S O t R RJ o w q I0 J0 T P (yc3 (yk b n) (yv b n) c th fr c4)) : wj_X12_clause_j263_77_130 (nI g) I J T V77 V130 P := by
  have hg6 : g < 60 := by omega
  have ig : ix_inb (nI g) 60 = true := nI_in2 hg6 (by decide)
  have d5 : (nI g).toNatClampNeg = g := nI_clamp (by omega)
  unfold wj_X12_clause_j263_77_130
  rw [d5]
  refine ⟨fun _ => ?_, fun z => absurd hM.1.2.2.1 z⟩
  unfold yc3 at hbad hok
  refine yg_key hM.1.1 (yps_le b n c4) hM.1.2.1 ⟨by decide, by decide⟩ (fun y => ⟨fun z => absurd z (by decide), fun _ => ?_⟩) (fun y => ⟨fun _ => ?_, fun z => absurd rfl z⟩)
  · have y : yk b n c4 = 3 := y
    rw [if_pos y] at hbad hok
    have c4L := yKL hL1 hc4 y (by decide) (by decide)
    refine yM4_nx hM (fun I2 J2 o2 r2 hM2 => ?_)
    have hO2 := fr_trans hO (fr_mono (E := yDC) (by decide) o2)
    have hE2 := fr_trans hE (fr_mono (E := yEC) (by decide) r2)
    refine yg_lis hL hn hL1 c4L hM2.1 (fun k c' y2 I4 J4 es q1 q2 f1 f2 => ⟨ig, ?_⟩) (fun to c5 I4 J4 es hc5 q1 q2 m4 => ⟨ig, ?_⟩)
    · rw [es] at hbad
      have hp := yft_p (b := b) (n := n) (c := c') (yli_k _ _ _ _ _ es)
      have f1' : (ix_u2 I4 219 g y2) 204 22 = yft b n c' k := by rw [u2_c (by decide)]; exact f1
      unfold wj_X12_clause_j292_77_130
      refine ⟨fun z => absurd z (by rw [f1']; exact hp.1), fun _ => ?_⟩
      exact hbad k c' _ J4 rfl (fr_putn rfl (by omega) (fr_trans hO2 (fr_mono (by decide) q1))) (fr_trans hE2 (fr_mono (by decide) q2)) f1' (by rw [u2_c (by decide)]; exact f2) (ylow_li hM2 q1 q2 hg ⟨by decide, by decide⟩)
    · rw [es] at hbad hok
      obtain ⟨⟨k, k1, k2, k3⟩, hcc⟩ := yli_nz hv _ _ _ _ _ ⟨0, by omega, rfl⟩ es
      have nz : ¬ to = 0 := fun e => by
        rw [k3] at e
        have := (nI_eq (b := 0) (by omega) (by omega)).mp e
        omega
      have rr : ∀ a, 217 ≤ a → a ≤ 218 → (ix_u2 I4 219 g to) a g = I a g := fun a k1 k2 => by
        rw [u2_c (by omega), fr_row q1 (show fr_rw yDL 217 224 = true from rfl) k1 (by omega), fr_row o2 (show fr_rw [(204, 205, 17, 20)] 217 224 = true from rfl) k1 (by omega)]
      refine yg_c4 hL hn hL1 hv hO6 ht hq hg hc5 (by omega) (by omega) (yM4_w (yM4_li hM2 q1 q2 m4) ⟨by decide, by decide⟩ hg hg6) ?_ a2 ?_ ?_ ?_ (fr_putn rfl (by omega) (fr_trans hO2 (fr_mono (by decide) q1))) (fr_trans hE2 (fr_mono (by decide) q2)) hbad hok
      · rw [fr_rw1 q2 224 rfl, fr_rw1 r2 224 rfl]; exact a1
      · rw [rr _ (by decide) (by decide)]; exact a3
      · rw [rr _ (by decide) (by decide)]; exact a4
      · rw [if_neg nz]; simp [u2_e]
  · have y : ¬ yk b n c4 = 3 := y
    rw [if_neg y] at hbad hok
    exact yg_c4 hL hn hL1 hv hO6 ht hq hg hc4 hS hW hM a1 a2 a3 a4 (by rw [if_pos rfl]; exact a5) hO hE hbad hok
set_option maxHeartbeats 4000000 in
theorem yg_c2 {b : Nat → Int32} {n L S O t c c2 g : Nat} {R : Nat → Nat → Int32} {RJ : Nat → Nat → Int64} {o : List YG} {w : List YP} {q : List YC} {th : Bool} {M : Nat} (hL : L ≤ n) (hn : n ≤ 600 ∧ M ≤ 1800) (hL1 : yk b n L = 21 ∨ yk b n L = 22) (hv : ∀ c, yk b n c = 20 → ∃ m : Nat, m ≤ 9999999 ∧ yv b n c = lZ m) (hO6 : O ≤ 600) (ht : t < 4) (hq : q.length < 12) (hg : g = 12 * t + q.length) {I0 I : Nat → Nat → Int32} {J0 J : Nat → Nat → Int64} {T : Option Nat} {V77 : Int64 → Int32 → (Nat → Nat → Int32) → (Nat → Nat → Int64) → Option Nat → Prop} {V130 : Int64 → Int32 → Int32 → (Nat → Nat → Int32) → (Nat → Nat → Int64) → Option Nat → Prop} {P : Int32 → (Nat → Nat → Int32) → (Nat → Nat → Int64) → Option Nat → Prop} (hc2 : c2 + 1 ≤ L) (hS : S + o.length ≤ M + c2) (hW : 3 * w.length ≤ c2) (hM : yM4 b n S O t R RJ c2 o w q I J) (a1 : J 224 g = yna b n c) (a2 : yk b n c = 18) (hO : fr_off yDC I0 I) (hE : fr_off yEC J0 J) (hbad : yBd b n S O t R RJ I0 J0 T P (yc2 (yk b n) (yv b n) c th (c2 + 1))) (hok : yGd M b n L S O t R RJ o w q I0 J0 T P (yc2 (yk b n) (yv b n) c th (c2 + 1))) : wj_X12_clause_j222_77_130_k217 (nI g) (nI g) (s01_ th) I J T V77 V130 P := by
  have hg6 : g < 60 := by omega
  have ig : ix_inb (nI g) 60 = true := nI_in2 hg6 (by decide)
  have d5 : (nI g).toNatClampNeg = g := nI_clamp (by omega)
  unfold wj_X12_clause_j222_77_130_k217
  rw [d5]
  refine ⟨ig, yM4_nx (yM4_w hM ⟨by decide, by decide⟩ hg hg6) (fun I2 J2 o2 r2 hM2 => ⟨ig, ig, ?_⟩)⟩
  have O2 : fr_off yDC I0 (ix_u2 (ix_u2 I2 218 g (-1)) 219 g (-1)) := fr_putn rfl (by omega) (fr_putn rfl (by omega) (fr_trans (fr_putn rfl (by omega) hO) (fr_mono (by decide) o2)))
  have E2 := fr_trans hE (fr_mono (E := yEC) (by decide) r2)
  have hM3 := yM4_w (a := 219) (g := g) (v := -1) (yM4_w (a := 218) (g := g) (v := -1) hM2 ⟨by decide, by decide⟩ hg hg6) ⟨by decide, by decide⟩ hg hg6
  have b3 : (ix_u2 (ix_u2 I2 218 g (-1)) 219 g (-1)) 217 g = s01_ th := by
    rw [u2_c (by decide), u2_c (by decide), fr_row o2 (show fr_rw [(204, 205, 17, 20)] 217 224 = true from rfl) (by decide) (by decide)]
    simp [u2_e]
  have b4 : (ix_u2 (ix_u2 I2 218 g (-1)) 219 g (-1)) 218 g = -1 := by simp [u2_e]
  have b5 : (ix_u2 (ix_u2 I2 218 g (-1)) 219 g (-1)) 219 g = -1 := by simp [u2_e]
  have b1 : J2 224 g = yna b n c := by rw [fr_rw1 r2 224 rfl]; exact a1
  unfold yc2 at hbad hok
  refine yg_key hM3.1.1 (yps_le b n (c2 + 1)) hM3.1.2.1 ⟨by decide, by decide⟩ (fun y => ⟨fun z => absurd z (by decide), fun _ => ?_⟩) (fun y => ⟨fun _ => ?_, fun z => absurd rfl z⟩)
  · have y : yk b n (c2 + 1) = 2 := y
    rw [if_pos y] at hbad hok
    have c4L := yKL hL1 hc2 y (by decide) (by decide)
    refine yM4_nx hM3 (fun I4 J4 o4 r4 hM4 => ?_)
    have hO4 := fr_trans O2 (fr_mono (E := yDC) (by decide) o4)
    have hE4 := fr_trans E2 (fr_mono (E := yEC) (by decide) r4)
    refine yg_lis hL hn hL1 c4L hM4.1 (fun k c' y2 I5 J5 es q1 q2 f1 f2 => ⟨ig, ?_⟩) (fun fr c5 I5 J5 es hc5 q1 q2 m5 => ⟨ig, ?_⟩)
    · rw [es] at hbad
      have hp := yft_p (b := b) (n := n) (c := c') (yli_k _ _ _ _ _ es)
      have f1' : (ix_u2 I5 218 g y2) 204 22 = yft b n c' k := by rw [u2_c (by decide)]; exact f1
      unfold wj_X12_clause_j263_77_130
      refine ⟨fun z => absurd z (by rw [f1']; exact hp.2), fun _ => ?_⟩
      unfold wj_X12_clause_j292_77_130
      refine ⟨fun z => absurd z (by rw [f1']; exact hp.1), fun _ => ?_⟩
      exact hbad k c' _ J5 rfl (fr_putn rfl (by omega) (fr_trans hO4 (fr_mono (by decide) q1))) (fr_trans hE4 (fr_mono (by decide) q2)) f1' (by rw [u2_c (by decide)]; exact f2) (ylow_li hM4 q1 q2 hg ⟨by decide, by decide⟩)
    · rw [es] at hbad hok
      obtain ⟨⟨k, k1, k2, k3⟩, hcc⟩ := yli_nz hv _ _ _ _ _ ⟨0, by omega, rfl⟩ es
      have nz : ¬ fr = 0 := fun e => by
        rw [k3] at e
        have := (nI_eq (b := 0) (by omega) (by omega)).mp e
        omega
      have rr : ∀ a, 217 ≤ a → a ≤ 219 → a ≠ 218 → (ix_u2 I5 218 g fr) a g = (ix_u2 (ix_u2 I2 218 g (-1)) 219 g (-1)) a g := fun a k1 k2 k3 => by
        rw [u2_c k3, fr_row q1 (show fr_rw yDL 217 224 = true from rfl) k1 (by omega), fr_row o4 (show fr_rw [(204, 205, 17, 20)] 217 224 = true from rfl) k1 (by omega)]
      refine yg_c3 hL hn hL1 hv hO6 ht hq hg hc5 (by omega) (by omega) (yM4_w (yM4_li hM4 q1 q2 m5) ⟨by decide, by decide⟩ hg hg6) ?_ a2 ?_ ?_ ?_ (fr_putn rfl (by omega) (fr_trans hO4 (fr_mono (by decide) q1))) (fr_trans hE4 (fr_mono (by decide) q2)) hbad hok
      · rw [fr_rw1 q2 224 rfl, fr_rw1 r4 224 rfl]; exact b1
      · rw [rr _ (by decide) (by decide) (by decide)]; exact b3
      · rw [if_neg nz]; simp [u2_e]
      · rw [rr _ (by decide) (by decide) (by decide)]; exact b5
  · have y : ¬ yk b n (c2 + 1) = 2 := y
    rw [if_neg y] at hbad hok
    exact yg_c3 hL hn hL1 hv hO6 ht hq hg hc2 (by omega) (by omega) hM3 b1 a2 b3 (by rw [if_pos rfl]; exact b4) b5 O2 E2 hbad hok
