/-! ways: the class finds the best one -/
theorem tw_fr {I I2 : Nat → Nat → Int32} {J J2 : Nat → Nat → Int64} (h : tw_ I J) {D E : List fr_R} (o : fr_off D I I2) (oj : fr_off E J J2) (d1 : ((!fr_in D 51 0) && ((!fr_in D 204 24) && (fr_rw D 53 54 && (fr_rw D 215 216 && (fr_rw D 59 95 && (fr_rw D 216 217 && (fr_rw D 217 218 && (fr_rw D 218 219 && (fr_rw D 219 220 && (fr_rw D 220 221 && (fr_rw D 221 222 && (fr_rw D 222 223 && (fr_rw D 223 224 && (fr_rw D 225 226 && (fr_rw D 226 227 && (fr_rw D 227 228 && (fr_rw D 228 229 && (fr_rw D 229 230 && (fr_rw D 230 231 && (fr_rw D 231 232 && (fr_rw D 232 233 && ((!fr_in D 204 44) && ((!fr_in D 204 45) && (fr_rw E 233 234)))))))))))))))))))))))) = true) (d2 : ((!fr_in D 51 3) && ((!fr_in D 204 53) && (fr_rw D 54 55 && (fr_rw D 55 56 && (fr_rw D 56 57 && (fr_rw D 57 58 && (fr_rw D 58 59 && (fr_rw D 237 238 && (fr_rw D 238 239 && (fr_rw D 239 240 && (fr_rw D 240 241))))))))))) = true) : tw_ I2 J2 := ⟨fr_trty o oj d1 h.1, fr_resv o d2 h.2⟩
theorem wz_in {m v : Nat} (hm : m < 4) (hv : v < 7) : fr_in [(67, 68, 0, 2147483648), (76, 77, 0, 2147483648), (85, 86, 0, 2147483648), (94, 95, 0, 2147483648), (96, 97, 0, 2147483648), (97, 98, 3, 4), (97, 98, 10, 11), (98, 99, 0, 2147483648), (100, 104, 0, 2147483648)] (100 + m) v = true := by
  unfold fr_in
  rw [List.any_eq_true]
  refine ⟨(100, 104, 0, 2147483648), by simp, ?_⟩
  rw [fr_1_iff]
  show 100 ≤ 100 + m ∧ 100 + m < 104 ∧ 0 ≤ v ∧ v < 2147483648
  omega
def duX (X : Nat → Nat → Int32) (s : Int32) (w p : Int64) (d : Int32) (fr to : Nat) (m : Nat) : Int64 := ow_ X (vm_ s w p (d / 365) (nI m) (-1)) 0 (nI fr) (nI to) (nI to) d
def thX (X : Nat → Nat → Int32) (s : Int32) (w p : Int64) (d : Int32) (fr to : Nat) (m v : Nat) : Int64 := ow_ X (vm_ s w p (d / 365) (nI m) (nI v)) 1 (nI fr) (nI to) (nI v) d
section
variable (X : Nat → Nat → Int32) (L fr to : Nat) (s d : Int32) (w p : Int64)
def wfI (m : Nat) (I I1 : Nat → Nat → Int32) (J J1 : Nat → Nat → Int64) : Prop := fr_off [(95, 96, 2, 3), (97, 98, 2, 10), (104, 106, 0, 2147483648)] I I1 ∧ fr_off [(67, 68, 0, 2147483648), (76, 77, 0, 2147483648), (85, 86, 0, 2147483648), (94, 95, 0, 2147483648), (96, 97, 0, 2147483648), (97, 98, 3, 4), (97, 98, 10, 11), (98, 99, 0, 2147483648), (100, 104, 0, 2147483648)] J J1 ∧ (∃ t u, ml_ I1 J1 (nI fr) (nI to) s w p d t u) ∧ I1 97 2 = nI to ∧ I1 97 8 = 0 ∧ J1 97 3 = w ∧ (∀ i, i < m → J1 98 i = duX X s w p d fr to i) ∧ ∀ i x, 1 ≤ i → i < m → x < L → x ≠ fr → x ≠ to → J1 (100 + i) x = thX X s w p d fr to i x
end
variable {X : Nat → Nat → Int32} {L fr to : Nat} {s d : Int32} {w p : Int64}
theorem lp_f51 {m : Nat} (hm1 : 1 ≤ m) (hm : m < 4) (hL : L ≤ 7) (hfr : fr < L) (hto : to < L) {I : Nat → Nat → Int32} {J : Nat → Nat → Int64} {T : Option Nat} {P : Int32 → (Nat → Nat → Int32) → (Nat → Nat → Int64) → Option Nat → Prop} {V23 : Int32 → (Nat → Nat → Int32) → (Nat → Nat → Int64) → Option Nat → Prop} (h : tw_ I J) (hX : bI I 51 44 = X) (eL : I 8 0 = nI L) {I0 : Nat → Nat → Int32} {J0 : Nat → Nat → Int64} (w0 : wfI X L fr to s d w p m I I0 J J0) (e0 : J0 98 m = duX X s w p d fr to m) (nx : ∀ I1 J1, wfI X L fr to s d w p (m + 1) I I1 J J1 → V23 (nI (m + 1)) I1 J1 T) : wl_X10_findBest_51_23_c95 (nI m) 0 I0 J0 T V23 P := by
  have im : ix_inb (nI m) 4 = true := nI_in2 hm (by decide)
  have mp : ¬ nI m ≤ 0 := fun z => by
    rw [Int32.le_iff_toInt_le, nI_toInt (by omega)] at z
    have z : (m : Int) ≤ 0 := z
    omega
  intro V hV
  have key : ∀ (k v : Nat) (I1 : Nat → Nat → Int32) (J1 : Nat → Nat → Int64), v + k = L → wfI X L fr to s d w p m I I1 J J1 → J1 98 m = duX X s w p d fr to m → (∀ x, x < v → x ≠ fr → x ≠ to → J1 (100 + m) x = thX X s w p d fr to m x) → V (nI m) (nI v) I1 J1 T := by
    intro k
    induction k with
    | zero =>
      intro v I1 J1 hv wf e q
      have hv : v = L := by omega
      subst hv
      obtain ⟨o, oj, ml, f1, f2, f3, f4, f5⟩ := wf
      apply hV
      unfold wb_X10_findBest_51_23_c95 wp_X5_count
      rw [fr_at 8 0 o rfl, eL]
      simp only [nI_1]
      refine ⟨fun z => absurd z (nI_nlt (Nat.le_refl _) (by omega)), fun _ => nx I1 J1 ⟨o, oj, ml, f1, f2, f3, fun i hi => ?_, fun i x i1 i2 x1 x2 x3 => ?_⟩⟩
      · by_cases c : i = m
        · subst c; exact e
        · exact f4 i (by omega)
      · by_cases c : i = m
        · subst c; exact q x x1 x2 x3
        · exact f5 i x i1 (by omega) x1 x2 x3
    | succ k ih =>
      intro v I1 J1 hv wf e q
      have wf0 := wf
      obtain ⟨o, oj, ⟨t, u, ml⟩, f1, f2, f3, f4, f5⟩ := wf
      have vL : v < L := by omega
      have skip : (v = fr ∨ v = to) → V (nI m) (nI (v + 1)) I1 J1 T := fun c => ih (v + 1) I1 J1 (by omega) wf0 e (fun x hx x2 x3 => by
        by_cases c2 : x = v
        · subst c2; rcases c with c | c
          · exact absurd c x2
          · exact absurd c x3
        · exact q x (by omega) x2 x3)
      apply hV
      unfold wb_X10_findBest_51_23_c95 wp_X5_count wp_X6_from
      rw [fr_at 8 0 o rfl, eL]
      simp only [nI_1]
      refine ⟨fun _ => ⟨fun z => absurd z mp, fun _ => ?_⟩, fun z => absurd (nI_lt (by omega) (by omega)) z⟩
      rw [ml.1, f1, nI_eq (show v < 2 ^ 31 by omega) (show fr < 2 ^ 31 by omega), nI_eq (show v < 2 ^ 31 by omega) (show to < 2 ^ 31 by omega)]
      refine ⟨fun c => skip (Or.inl c), fun c1 => ⟨fun c => skip (Or.inr c), fun c2 => ?_⟩⟩
      refine fn_gov ml (fun I2 J2 o2 oj2 m2 => ⟨im, ?_⟩)
      have o3 : fr_off [(95, 96, 2, 3), (97, 98, 2, 10), (104, 106, 0, 2147483648)] I I2 := fr_trans o (fr_mono (by decide) o2)
      have oj3 : fr_off [(67, 68, 0, 2147483648), (76, 77, 0, 2147483648), (85, 86, 0, 2147483648), (94, 95, 0, 2147483648), (96, 97, 0, 2147483648), (97, 98, 3, 4), (97, 98, 10, 11), (98, 99, 0, 2147483648), (100, 104, 0, 2147483648)] J J2 := fr_trans oj (fr_mono (by decide) oj2)
      have eX : bI I2 51 44 = X := (fr_bI o3 51 44 rfl).trans hX
      refine fn_chM (tw_fr h o3 oj3 rfl rfl) m2 (fun J3 oj4 => ⟨nI_in2 (by omega) (by decide), ?_⟩)
      rw [if_neg (by decide), eX, re_99 hm, nI_clamp (show v < 2 ^ 31 by omega)]
      have oj5 : fr_off [(67, 68, 0, 2147483648), (76, 77, 0, 2147483648), (85, 86, 0, 2147483648), (94, 95, 0, 2147483648), (96, 97, 0, 2147483648), (97, 98, 3, 4), (97, 98, 10, 11), (98, 99, 0, 2147483648), (100, 104, 0, 2147483648)] J J3 := fr_trans oj3 (fr_mono (by decide) oj4)
      refine ih (v + 1) I2 _ (by omega) ⟨o3, fr_put (wz_in hm (by omega)) oj5, ⟨nI m, nI v, m2.1, m2.2.1, m2.2.2.1, m2.2.2.2.1, fun i hi => ?_⟩, ?_, ?_, ?_, fun i hi => ?_, fun i x i1 i2 x1 x2 x3 => ?_⟩ ?_ (fun x hx x2 x3 => ?_)
      · rw [u2_c (by omega), fr_rw1 oj4 96 rfl]; exact m2.2.2.2.2 i hi
      · rw [fr_at 97 2 o2 rfl]; exact f1
      · rw [fr_at 97 8 o2 rfl]; exact f2
      · rw [u2_c (by omega), fr_at 97 3 oj4 rfl, fr_at 97 3 oj2 rfl]; exact f3
      · rw [u2_c (by omega), fr_rw1 oj4 98 rfl, fr_rw1 oj2 98 rfl]; exact f4 i hi
      · rw [u2_c (by omega), fr_row oj4 (a := 100) (b := 104) rfl (show 100 ≤ 100 + i by omega) (by omega), fr_row oj2 (a := 100) (b := 104) rfl (show 100 ≤ 100 + i by omega) (by omega)]; exact f5 i x i1 i2 x1 x2 x3
      · rw [u2_c (by omega), fr_rw1 oj4 98 rfl, fr_rw1 oj2 98 rfl]; exact e
      · by_cases c : x = v
        · subst c; exact u2_s
        · rw [u2_j c, fr_row oj4 (a := 100) (b := 104) rfl (show 100 ≤ 100 + m by omega) (by omega), fr_row oj2 (a := 100) (b := 104) rfl (show 100 ≤ 100 + m by omega) (by omega)]; exact q x (by omega) x2 x3
  exact key L 0 I0 J0 (by omega) w0 e0 (fun x hx => by omega)
theorem fn_fb {rd : Nat → Nat → Nat} {F : Nat → Nat → Int64} {t0 u0 : Int32} (hL : L ≤ 7) (hfr : fr < L) (hto : to < L) (hft : fr ≠ to) {I : Nat → Nat → Int32} {J : Nat → Nat → Int64} {T : Option Nat} {P : Int32 → (Nat → Nat → Int32) → (Nat → Nat → Int64) → Option Nat → Prop} (h : tw_ I J) (hX : bI I 51 44 = X) (eL : I 8 0 = nI L) (hr : ∀ a b, a < 7 → b < 7 → rd a b ≤ 60 ∧ I (13 + a) b = nI (rd a b) ∧ F a b = w * (I (21 + a) b).toInt64 / 1000) (m0 : ml_ I J (nI fr) (nI to) s w p d t0 u0) (hP : ∀ I2 J2 R, fr_off [(95, 96, 2, 3), (97, 98, 2, 10), (104, 106, 0, 2147483648)] I I2 → fr_off [(67, 68, 0, 2147483648), (76, 77, 0, 2147483648), (85, 86, 0, 2147483648), (94, 95, 0, 2147483648), (96, 97, 0, 2147483648), (97, 98, 3, 4), (97, 98, 10, 11), (98, 99, 0, 2147483648), (100, 104, 0, 2147483648)] J J2 → (∃ t u, ml_ I2 J2 (nI fr) (nI to) s w p d t u) → wzB L fr to rd F (duX X s w p d fr to) (thX X s w p d fr to) (fun _ _ => True) R → wzR rd F (duX X s w p d fr to) (thX X s w p d fr to) I2 J2 R → wzK L fr to rd F (duX X s w p d fr to) (thX X s w p d fr to) w I2 J2 → P (s01_ R.isSome) I2 J2 T) : wp_X10_findBest I J T P := by
  unfold wp_X10_findBest wp_X6_to wp_X6_weight
  have m1 := m0
  obtain ⟨e1, e2, e3, e4, e5⟩ := m1
  have ew : ix_u2 I 97 2 (nI to) 95 0 = nI fr := e1
  dsimp only
  rw [e2, show ((0 : Int32)).toNatClampNeg = 0 from rfl, e5 0 (by omega), show vm_ s w p (d / 365) t0 u0 0 = w from rfl]
  intro V hV
  have key : ∀ (k m : Nat) (I1 : Nat → Nat → Int32) (J1 : Nat → Nat → Int64), m + k = 4 → wfI X L fr to s d w p m I I1 J J1 → V (nI m) I1 J1 T := by
    intro k
    induction k with
    | zero =>
      intro m I1 J1 hm wf
      have hm : m = 4 := by omega
      subst hm
      obtain ⟨o, oj, ⟨t, u, ml⟩, f1, f2, f3, f4, f5⟩ := wf
      apply hV
      unfold wb_X10_findBest_23_c95 wp_X6_from
      refine ⟨fun z => absurd z (by decide), fun _ => ?_⟩
      dsimp only
      rw [ml.1, show ((0 : Int32)).toNatClampNeg = 0 from rfl]
      have K1 : wzK L fr to rd F (duX X s w p d fr to) (thX X s w p d fr to) w I1 J1 := ⟨hL, hfr, hto, by rw [fr_at 8 0 o rfl]; exact eL, f1, f3, fun a b ha hb => by rw [fr_row o (a := 13) (b := 20) rfl (show 13 ≤ 13 + a by omega) (by omega), fr_row o (a := 21) (b := 28) rfl (show 21 ≤ 21 + a by omega) (by omega)]; exact hr a b ha hb, f4, f5⟩
      have ow : fr_off [(97, 98, 8, 10), (104, 106, 0, 2147483648)] I1 (ix_u2 I1 104 0 (nI fr)) := fr_put rfl fr_refl
      refine fn_ex1 (R := none) (w := fun _ => fr) K1 ⟨rfl, fun k hk => ⟨hfr, hft⟩, fun k hk => by omega, fun i k hi hk => by omega⟩ ow fr_refl (fun k hk => by rw [show k = 0 by omega]; exact u2_s) rfl rfl (wz_0 hL rfl) (show ix_u2 I1 104 0 (nI fr) 97 8 = 0 from f2) (fun I2 J2 R2 o2 oj2 _ b2 r2 => ?_)
      have hp := hP I2 J2 R2 (fr_trans o (fr_mono (by decide) o2)) (fr_trans oj (fr_mono (by decide) oj2)) ⟨t, u, by rw [fr_at 95 0 o2 rfl]; exact ml.1, by rw [fr_at 95 1 o2 rfl]; exact ml.2.1, by rw [fr_at 95 2 o2 rfl]; exact ml.2.2.1, by rw [fr_at 95 3 o2 rfl]; exact ml.2.2.2.1, by rw [fr_rw1 oj2 96 rfl]; exact ml.2.2.2.2⟩ (wz_end hL rfl b2) r2 (wzK_fr K1 o2 oj2)
      match R2, r2, hp with
      | none, r2, hp =>
        have r2 : I2 97 8 = 0 := r2
        rw [r2]
        exact ⟨fun _ => hp, fun z => absurd (by decide) z⟩
      | some r, r2, hp =>
        rw [r2.1]
        refine ⟨fun z => ?_, fun _ => hp⟩
        rw [Int32.le_iff_toInt_le, nI_toInt (by have := r2.2.2.2.2.1; omega)] at z
        have z : (r.1 : Int) ≤ 0 := z
        have := r2.2.2.2.1
        omega
    | succ k ih =>
      intro m I1 J1 hm wf
      obtain ⟨o, oj, ⟨t, u, ml⟩, f1, f2, f3, f4, f5⟩ := wf
      have im : ix_inb (nI m) 4 = true := nI_in2 (by omega) (by decide)
      have m3 : nI m ≤ 3 := by
        rw [Int32.le_iff_toInt_le, nI_toInt (by omega)]
        show (m : Int) ≤ 3
        omega
      apply hV
      unfold wb_X10_findBest_23_c95
      refine ⟨fun _ => ?_, fun z => absurd m3 z⟩
      refine fn_gov ml (fun I2 J2 o2 oj2 m2 => ?_)
      have o3 : fr_off [(95, 96, 2, 3), (97, 98, 2, 10), (104, 106, 0, 2147483648)] I I2 := fr_trans o (fr_mono (by decide) o2)
      have oj3 : fr_off [(67, 68, 0, 2147483648), (76, 77, 0, 2147483648), (85, 86, 0, 2147483648), (94, 95, 0, 2147483648), (96, 97, 0, 2147483648), (97, 98, 3, 4), (97, 98, 10, 11), (98, 99, 0, 2147483648), (100, 104, 0, 2147483648)] J J2 := fr_trans oj (fr_mono (by decide) oj2)
      have eX : bI I2 51 44 = X := (fr_bI o3 51 44 rfl).trans hX
      refine fn_chM (tw_fr h o3 oj3 rfl rfl) m2 (fun J3 oj4 => ⟨im, ?_⟩)
      rw [if_pos rfl, eX, nI_clamp (show m < 2 ^ 31 by omega)]
      have oj5 : fr_off [(67, 68, 0, 2147483648), (76, 77, 0, 2147483648), (85, 86, 0, 2147483648), (94, 95, 0, 2147483648), (96, 97, 0, 2147483648), (97, 98, 3, 4), (97, 98, 10, 11), (98, 99, 0, 2147483648), (100, 104, 0, 2147483648)] J J3 := fr_trans oj3 (fr_mono (by decide) oj4)
      have wf2 : wfI X L fr to s d w p m I I2 J (ix_u2 J3 98 m (duX X s w p d fr to m)) := by
        refine ⟨o3, fr_putn rfl (by omega) oj5, ⟨nI m, -1, m2.1, m2.2.1, m2.2.2.1, m2.2.2.2.1, fun i hi => ?_⟩, ?_, ?_, ?_, fun i hi => ?_, fun i x i1 i2 x1 x2 x3 => ?_⟩
        · rw [u2_c (by omega), fr_rw1 oj4 96 rfl]; exact m2.2.2.2.2 i hi
        · rw [fr_at 97 2 o2 rfl]; exact f1
        · rw [fr_at 97 8 o2 rfl]; exact f2
        · rw [u2_c (by omega), fr_at 97 3 oj4 rfl, fr_at 97 3 oj2 rfl]; exact f3
        · rw [u2_j (by omega), fr_rw1 oj4 98 rfl, fr_rw1 oj2 98 rfl]; exact f4 i hi
        · rw [u2_c (by omega), fr_row oj4 (a := 100) (b := 104) rfl (show 100 ≤ 100 + i by omega) (by omega), fr_row oj2 (a := 100) (b := 104) rfl (show 100 ≤ 100 + i by omega) (by omega)]; exact f5 i x i1 i2 x1 x2 x3
      by_cases c : m = 0
      · subst c
        intro W hW
        apply hW
        unfold wb_X10_findBest_51_23_c95 wp_X5_count
        rw [fr_at 8 0 o3 rfl, eL]
        obtain ⟨g1, g2, g3, g4, g5, g6, g7, g8⟩ := wf2
        have wf3 : V (nI 1) I2 (ix_u2 J3 98 0 (duX X s w p d fr to 0)) T := ih 1 I2 _ (by omega) ⟨g1, g2, g3, g4, g5, g6, fun i hi => by rw [show i = 0 by omega]; exact u2_s, fun i x i1 i2 => by omega⟩
        exact ⟨fun _ => ⟨fun _ => wf3, fun z => absurd (by decide) z⟩, fun z => absurd (nI_lt (a := 0) (b := L) (by omega) (by omega)) z⟩
      · exact lp_f51 (by omega) (by omega) hL hfr hto h hX eL wf2 u2_s (fun I4 J4 wf4 => ih (m + 1) I4 J4 (by omega) wf4)
  refine key 4 0 _ _ (by omega) ⟨fr_put rfl (fr_put rfl fr_refl), fr_put rfl fr_refl, ⟨t0, u0, e1, e2, e3, e4, e5⟩, rfl, rfl, rfl, fun i hi => by omega, fun i x i1 i2 => by omega⟩
