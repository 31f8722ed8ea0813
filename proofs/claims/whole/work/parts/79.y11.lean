/-! treaties: the reference reads a clause -/
def yBd (b : Nat → Int32) (n S O t : Nat) (R : Nat → Nat → Int32) (RJ : Nat → Nat → Int64) (I0 : Nat → Nat → Int32) (J0 : Nat → Nat → Int64) (T : Option Nat) (P : Int32 → (Nat → Nat → Int32) → (Nat → Nat → Int64) → Option Nat → Prop) (r : Sum (Int32 × Nat) (YC × Nat)) : Prop := ∀ k c' I2 J2, r = .inl (k, c') → fr_off yDC I0 I2 → fr_off yEC J0 J2 → I2 204 22 = yft b n c' k → I2 204 21 = nI (yps b n c') → ylow S O t R RJ I2 J2 → P 0 I2 J2 T
def yGd (M : Nat) (b : Nat → Int32) (n L S O t : Nat) (R : Nat → Nat → Int32) (RJ : Nat → Nat → Int64) (o : List YG) (w : List YP) (q : List YC) (I0 : Nat → Nat → Int32) (J0 : Nat → Nat → Int64) (T : Option Nat) (P : Int32 → (Nat → Nat → Int32) → (Nat → Nat → Int64) → Option Nat → Prop) (r : Sum (Int32 × Nat) (YC × Nat)) : Prop := ∀ x c' I2 J2, r = .inr (x, c') → c' ≤ L → fr_off yDC I0 I2 → fr_off yEC J0 J2 → S + (o ++ (yss x.2.2.2.2.1 ++ x.2.2.2.2.2)).length ≤ M + c' → 3 * (w ++ yrc o.length x.2.2.2.2.1).length ≤ c' → yM4 b n S O t R RJ c' (o ++ (yss x.2.2.2.2.1 ++ x.2.2.2.2.2)) (w ++ yrc o.length x.2.2.2.2.1) (q ++ [x]) I2 J2 → P 1 I2 J2 T
theorem yKL {b : Nat → Int32} {n L c : Nat} {a : Int32} (hL1 : yk b n L = 21 ∨ yk b n L = 22) (hc : c ≤ L) (e : yk b n c = a) (h1 : a ≠ 21) (h2 : a ≠ 22) : c + 1 ≤ L := by
  by_cases e2 : c = L
  · rw [← e2] at hL1
    rcases hL1 with g | g
    · exact absurd (e.symm.trans g) h1
    · exact absurd (e.symm.trans g) h2
  · omega
theorem app_r {α : Type} {l m : List α} {j : Nat} {y : α} (h : m[j]? = some y) : (l ++ m)[l.length + j]? = some y := by
  rw [List.getElem?_append_right (by omega), show l.length + j - l.length = j by omega]; exact h
theorem app_l {α : Type} {l m : List α} {j : Nat} {y : α} (h : l[j]? = some y) : (l ++ m)[j]? = some y := by
  rw [List.getElem?_append_left (List.getElem?_eq_some_iff.mp h).1]; exact h
set_option maxHeartbeats 4000000 in
theorem yg_c5 {b : Nat → Int32} {n L S O t c c6 g : Nat} {R : Nat → Nat → Int32} {RJ : Nat → Nat → Int64} {o : List YG} {w : List YP} {q : List YC} {th : Bool} {fr to : Int32} {ws : List (Bool × YO)} {M : Nat} (hL : L ≤ n) (hn : n ≤ 600 ∧ M ≤ 1800) (hL1 : yk b n L = 21 ∨ yk b n L = 22) (hv : ∀ c, yk b n c = 20 → ∃ m : Nat, m ≤ 9999999 ∧ yv b n c = lZ m) (ht : t < 4) (hq : q.length < 12) (hg : g = 12 * t + q.length) {I0 I : Nat → Nat → Int32} {J0 J : Nat → Nat → Int64} {T : Option Nat} {V77 : Int64 → Int32 → (Nat → Nat → Int32) → (Nat → Nat → Int64) → Option Nat → Prop} {V130 : Int64 → Int32 → Int32 → (Nat → Nat → Int32) → (Nat → Nat → Int64) → Option Nat → Prop} {P : Int32 → (Nat → Nat → Int32) → (Nat → Nat → Int64) → Option Nat → Prop} (hc6 : c6 ≤ L) (hS : S + (o ++ yss ws).length ≤ M + c6) (hW : 3 * (w ++ yrc o.length ws).length ≤ c6) (hM : yM4 b n S O t R RJ c6 (o ++ yss ws) (w ++ yrc o.length ws) q I J) (a1 : J 224 g = yna b n c) (a2 : yk b n c = 18) (a3 : I 217 g = s01_ th) (a4 : I 218 g = (if fr = 0 then -1 else fr)) (a5 : I 219 g = (if to = 0 then -1 else to)) (a6 : I 220 g = nI (O + w.length)) (hO : fr_off yDC I0 I) (hE : fr_off yEC J0 J) (hbad : yBd b n S O t R RJ I0 J0 T P (yc5 (yk b n) (yv b n) c th fr to ws c6)) (hok : yGd M b n L S O t R RJ o w q I0 J0 T P (yc5 (yk b n) (yv b n) c th fr to ws c6)) : wj_X12_clause_j332_77_130 (nI g) I J T V77 V130 P := by
  have hg6 : g < 60 := by omega
  have ig : ix_inb (nI g) 60 = true := nI_in2 hg6 (by decide)
  have it : ix_inb (nI t) 5 = true := nI_in2 (by omega) (by decide)
  have d5 : (nI g).toNatClampNeg = g := nI_clamp (by omega)
  have dt : (nI t).toNatClampNeg = t := nI_clamp (by omega)
  have e45 := hM.2.1.1
  have lw : (w ++ yrc o.length ws).length = w.length + ws.length := by rw [List.length_append, yrc_len]
  unfold wj_X12_clause_j332_77_130
  rw [d5, e45, lw]
  refine ⟨ig, ?_⟩
  have hM1 := yM4_w (a := 221) (g := g) (v := nI (O + (w.length + ws.length))) hM ⟨by decide, by decide⟩ hg hg6
  have o1 : fr_off yDC I0 (ix_u2 I 221 g (nI (O + (w.length + ws.length)))) := fr_putn rfl (by omega) hO
  unfold yc5 at hbad hok
  refine yg_key hM1.1.1 (yps_le b n c6) hM1.1.2.1 ⟨by decide, by decide⟩ (fun y => ⟨fun z => absurd z (by decide), fun _ => ?_⟩) (fun y => ⟨fun _ => ?_, fun z => absurd rfl z⟩)
  · have y : yk b n c6 = 5 := y
    rw [if_pos y] at hbad hok
    have c6L := yKL hL1 hc6 y (by decide) (by decide)
    refine yM4_nx hM1 (fun I2 J2 o2 r2 hM2 => ⟨ig, ?_⟩)
    rw [hM2.1.2.2.2.1]
    have hM3 := yM4_w (a := 222) (g := g) (v := nI (S + (o ++ yss ws).length)) hM2 ⟨by decide, by decide⟩ hg hg6
    have o3 : fr_off yDC I0 (ix_u2 I2 222 g (nI (S + (o ++ yss ws).length))) := fr_putn rfl (by omega) (fr_trans o1 (fr_mono (by decide) o2))
    have r3 : fr_off yEC J0 J2 := fr_trans hE (fr_mono (by decide) r2)
    refine yg_sum hL hn hL1 c6L (by omega) hM3.1 (fun k c' I4 J4 es q1 q2 q3 q4 q5 => ?_) (fun sm c7 I4 J4 es hc7 q1 q2 q3 => ?_)
    · rw [es] at hbad
      refine ⟨fun _ => hbad k c' I4 J4 rfl (fr_trans o3 (fr_mono (by decide) q1)) (fr_trans r3 (fr_mono (by decide) q2)) q3 q4 ⟨q5, fun a j k1 k2 k3 => ?_, fun a j k1 k2 k3 => ?_, fun j hj => ?_⟩, fun z => absurd rfl z⟩
      · rw [fr_row q1 (show fr_rw yDS 225 232 = true from rfl) k1 (by omega)]; exact hM3.2.1.2.2 a j k1 k2 k3
      · rw [fr_row q1 (show fr_rw yDS 217 224 = true from rfl) k1 (by omega)]; exact hM3.2.2.2.2.2.1 a j k1 k2 k3
      · rw [fr_rw1 q1 216 rfl]; exact hM3.2.2.2.2.2.2 j hj
    · rw [es] at hbad hok
      simp only at hbad hok
      have wf1 := ysm_ok hv _ _ _ _ _ _ _ _ es ⟨⟨by decide, Or.inl rfl, Or.inl rfl⟩, rfl⟩ (by simp) (fun x hx => by cases hx) rfl
      have wl1 : sm.length + (c6 + 1) ≤ c7 := by have := wf1.2.2.2; simp only [List.length_nil] at this; have e0 : yw [((0 : Nat), (0 : Int32), (0 : Int32))] = 0 := rfl; omega
      have hM4 : yM4 b n S O t R RJ c7 (o ++ yss ws ++ sm) (w ++ yrc o.length ws) q I4 J4 := by
        have := yM4_to (o2 := sm) (w2 := []) hM3 q1 q2 rfl rfl q3 (by rw [List.append_nil]; exact yM2_fr hM3.2.1 q1 rfl)
        rw [List.append_nil] at this
        exact this
      have l3 : (o ++ yss ws ++ sm).length = (o ++ yss ws).length + sm.length := List.length_append
      refine ⟨fun z => absurd z (by decide), fun _ => ⟨ig, ?_⟩⟩
      rw [hM4.1.2.2.2.1, hM4.2.2.1, dt, hM4.2.2.2.1, nI_1]
      refine ⟨it, it, ?_⟩
      have hM5 := yM4_w (a := 223) (g := g) (v := nI (S + (o ++ yss ws ++ sm).length)) hM4 ⟨by decide, by decide⟩ hg hg6
      have o5 : fr_off [(216, 217, 0, 2147483648)] (ix_u2 I4 223 g (nI (S + (o ++ yss ws ++ sm).length))) (ix_u2 (ix_u2 I4 223 g (nI (S + (o ++ yss ws ++ sm).length))) 216 t (nI (q.length + 1))) := fr_putn rfl (by omega) fr_refl
      have O5 : fr_off yDC I0 (ix_u2 (ix_u2 I4 223 g (nI (S + (o ++ yss ws ++ sm).length))) 216 t (nI (q.length + 1))) := fr_putn rfl (by omega) (fr_putn rfl (by omega) (fr_trans o3 (fr_mono (by decide) q1)))
      have R5 : fr_off yEC J0 J4 := fr_trans r3 (fr_mono (by decide) q2)
      have hM6 := yM1_fr hM5.1 o5 (fr_refl (D := [])) rfl rfl
      unfold wp_X12_want
      refine yg_sg hM6.1 (yps_le b n c7) hM6.2.1 (by decide) (fun y => ⟨fun z => absurd z (by decide), fun _ => ?_⟩) (fun y => ⟨fun _ => ?_, fun z => absurd rfl z⟩)
      · have y : yk b n c7 = 59 := y
        rw [if_pos y] at hok
        refine yM_nx hM6 (fun I7 J7 o7 r7 hM7 => ⟨by decide, ?_⟩)
        have hM8 : yM1 b n S (R 232) (RJ 233) (c7 + 1) (o ++ (yss ws ++ sm)) I7 J7 := by rw [← List.append_assoc]; exact hM7
        refine hok (c, th, fr, to, ws, sm) (c7 + 1) I7 J7 rfl (yKL hL1 hc7 y (by decide) (by decide)) (fr_trans O5 (fr_mono (by decide) o7)) (fr_trans R5 (fr_mono (by decide) r7)) ?_ (by show 3 * (w ++ yrc o.length ws).length ≤ _; omega) ⟨hM8, ?_, ?_, ?_, fun i x hx => ?_, fun a j k1 k2 k3 => ?_, fun j hj => ?_⟩
        · show S + (o ++ (yss ws ++ sm)).length ≤ _
          rw [← List.append_assoc, l3]; omega
        · exact yM2_fr (yM2_fr hM5.2.1 o5 rfl) o7 rfl
        · rw [fr_at 204 24 o7 rfl, u2_c (by decide)]; exact hM5.2.2.1
        · rw [fr_rw1 o7 216 rfl, show (q ++ [(c, th, fr, to, ws, sm)]).length = q.length + 1 by simp]; simp [u2_e]
        · have rw7 : ∀ a j, 217 ≤ a → a ≤ 223 → I7 a j = (ix_u2 I4 223 g (nI (S + (o ++ yss ws ++ sm).length))) a j := fun a j k1 k2 => by
            rw [fr_row o7 (show fr_rw [(204, 205, 17, 20)] 217 224 = true from rfl) k1 (by omega), u2_c (by omega)]
          have j7 : J7 224 = J4 224 := fr_rw1 r7 224 rfl
          by_cases hi : i < q.length
          · rw [List.getElem?_append_left hi] at hx
            refine yC1_to (hM5.2.2.2.2.1 i x hx) (fun a k1 k2 => rw7 a _ k1 k2) (by rw [j7]) (fun j y hy => ?_) (fun j y hy => hy) (Nat.le_refl _)
            rw [← List.append_assoc]; exact hy
          · rw [List.getElem?_append_right (by omega)] at hx
            have : i = q.length := by
              have := (List.getElem?_eq_some_iff.mp hx).1
              rw [List.length_singleton] at this
              omega
            subst this
            rw [Nat.sub_self] at hx
            have hx := Option.some.inj hx
            rw [← hx]
            unfold yC1
            rw [← hg]
            have i4 : ∀ a, 217 ≤ a → a ≤ 223 → I4 a g = (ix_u2 I2 222 g (nI (S + (o ++ yss ws).length))) a g := fun a k1 k2 => by rw [fr_row q1 (show fr_rw yDS 217 224 = true from rfl) k1 (by omega)]
            have i2 : ∀ a, 217 ≤ a → a ≤ 223 → I2 a g = (ix_u2 I 221 g (nI (O + (w.length + ws.length)))) a g := fun a k1 k2 => by rw [fr_row o2 (show fr_rw [(204, 205, 17, 20)] 217 224 = true from rfl) k1 (by omega)]
            have old : ∀ a, 217 ≤ a → a ≤ 220 → I7 a g = I a g := fun a k1 k2 => by
              rw [rw7 a g k1 (by omega), u2_c (by omega), i4 a k1 (by omega), u2_c (by omega), i2 a k1 (by omega), u2_c (by omega)]
            refine ⟨?_, a2, ?_, ?_, ?_, w.length, o.length, (o ++ yss ws).length, ?_, ?_, ?_, ?_, Nat.le_of_eq lw.symm, fun j y hy => app_r hy, fun j y hy => ?_, fun j y hy => ?_⟩
            · rw [j7, fr_rw1 q2 224 rfl, fr_rw1 r2 224 rfl]; exact a1
            · rw [old 217 (by decide) (by decide)]; exact a3
            · rw [old 218 (by decide) (by decide)]; exact a4
            · rw [old 219 (by decide) (by decide)]; exact a5
            · rw [old 220 (by decide) (by decide)]; exact a6
            · rw [rw7 221 g (by decide) (by decide), u2_c (by decide), i4 221 (by decide) (by decide), u2_c (by decide), i2 221 (by decide) (by decide)]
              simp [u2_e, Nat.add_assoc]
            · rw [rw7 222 g (by decide) (by decide), u2_c (by decide), i4 222 (by decide) (by decide)]
              simp [u2_e]
            · rw [rw7 223 g (by decide) (by decide), l3]
              simp [u2_e, Nat.add_assoc]
            · exact app_r (app_l hy)
            · rw [← List.append_assoc]; exact app_r hy
        · rw [fr_row o7 (show fr_rw [(204, 205, 17, 20)] 217 224 = true from rfl) k1 (by omega), u2_c (by omega)]
          exact hM5.2.2.2.2.2.1 a j k1 k2 k3
        · rw [fr_rw1 o7 216 rfl, u2_j hj]
          exact hM5.2.2.2.2.2.2 j hj
      · have y : ¬ yk b n c7 = 59 := y
        rw [if_neg y] at hbad
        refine yM_fl hM6 (fun I7 o7 f1 f2 => ⟨by decide, by decide, hbad 2 c7 I7 J4 rfl (fr_trans O5 (fr_mono (by decide) o7)) R5 f1 f2 ⟨fun j hj => ?_, fun a j k1 k2 k3 => ?_, fun a j k1 k2 k3 => ?_, fun j hj => ?_⟩⟩)
        · rw [fr_rw1 o7 232 rfl]; exact hM6.2.2.2.2.2 j hj
        · rw [fr_row o7 (show fr_rw [(204, 205, 21, 23)] 225 232 = true from rfl) k1 (by omega), u2_c (by omega)]; exact hM5.2.1.2.2 a j k1 k2 k3
        · rw [fr_row o7 (show fr_rw [(204, 205, 21, 23)] 217 224 = true from rfl) k1 (by omega), u2_c (by omega)]
          exact hM5.2.2.2.2.2.1 a j k1 k2 k3
        · rw [fr_rw1 o7 216 rfl, u2_j hj]
          exact hM5.2.2.2.2.2.2 j hj
  · have y : ¬ yk b n c6 = 5 := y
    rw [if_neg y] at hbad
    exact yM4_fl hM1 o1 hE (fun I2 q1 q2 q3 q4 q5 => hbad 2 c6 I2 J rfl q1 q2 q3 q4 q5)
