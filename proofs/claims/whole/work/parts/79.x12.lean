/-! books: the search of a column for a new row -/
def uN_ (u : Nat → Int) (p : Nat → Nat) (us : Nat → Bool) (st : Int) : Nat → Nat → Int
  | 0 => u
  | c + 1 => if us c then (fun r => if r = p c then uN_ u p us st c r + st else uN_ u p us st c r) else uN_ u p us st c
theorem uN_no {u : Nat → Int} {p : Nat → Nat} {us : Nat → Bool} {st : Int} {r : Nat} : ∀ {c : Nat}, (∀ s, s < c → us s = true → p s ≠ r) → uN_ u p us st c r = u r
  | 0, _ => rfl
  | c + 1, h => by
    have ih := uN_no (u := u) (st := st) (r := r) (c := c) (fun s hs => h s (by omega))
    rw [uN_]
    by_cases e : us c = true
    · rw [if_pos e]
      rw [if_neg (fun z => h c (by omega) e z.symm)]
      exact ih
    · rw [if_neg e]
      exact ih
theorem uN_ye {u : Nat → Int} {p : Nat → Nat} {us : Nat → Bool} {st : Int} {s0 : Nat} : ∀ {c : Nat}, s0 < c → us s0 = true → (∀ s, s < c → us s = true → p s = p s0 → s = s0) → uN_ u p us st c (p s0) = u (p s0) + st
  | 0, h, _, _ => by omega
  | c + 1, h, hs, q => by
    rw [uN_]
    by_cases e : c = s0
    · subst e
      rw [if_pos hs]
      rw [if_pos rfl, uN_no (fun s hc hu z => by have := q s (by omega) hu z; omega)]
    · have ih := uN_ye (u := u) (st := st) (c := c) (by omega) hs (fun s a b d => q s (by omega) b d)
      by_cases d : us c = true
      · rw [if_pos d]
        rw [if_neg (fun z => e (q c (by omega) d z.symm))]
        exact ih
      · rw [if_neg d]
        exact ih
theorem lp_83 {m k nr i : Nat} {kn : Nat → Prop} {u v sl : Nat → Int} {p wy : Nat → Nat} {us : Nat → Bool} {st : Int} (hm : m ≤ 24) (hi : i ≤ 11) (hp : ∀ c, c ≤ m → us c = true → p c ≤ i + 1) {I : Nat → Nat → Int32} {J : Nat → Nat → Int64} {T : Option Nat} {P : Int32 → (Nat → Nat → Int32) → (Nat → Nat → Int64) → Option Nat → Prop} {V2 V41 : Int32 → Int32 → Int32 → (Nat → Nat → Int32) → (Nat → Nat → Int64) → Option Nat → Prop} (mm : hM m kn I J u v sl p wy us) (nx : ∀ J2, fr_off [(194, 197, 0, 2147483648)] J J2 → hM m kn I J2 (uN_ u p us st (m + 1)) (fun c => if us c then v c - st else v c) (fun c => if us c then sl c else sl c - st) p wy us → V41 (nI m) (nI nr) (nI (k + 1)) I J2 T) : wl_X2_putIn_83_2_41 (nI m) (nI k) (nI nr) (lZ st) 0 I J T V2 V41 P := by
  intro V hV
  have key : ∀ (q c : Nat) (J1 : Nat → Nat → Int64), c + q = m + 1 → fr_off [(194, 197, 0, 2147483648)] J J1 → hM m kn I J1 (uN_ u p us st c) (fun x => if x < c then (if us x then v x - st else v x) else v x) (fun x => if x < c then (if us x then sl x else sl x - st) else sl x) p wy us → V (nI m) (nI k) (nI nr) (lZ st) (nI c) I J1 T := by
    intro q
    induction q with
    | zero =>
      intro c J1 hc oj hm1
      have hc : c = m + 1 := by omega
      subst hc
      apply hV
      unfold wb_X2_putIn_83_2_41
      have nle : ¬ nI (m + 1) ≤ nI m := fun z => by
        rw [Int32.le_iff_toInt_le, nI_toInt (by omega), nI_toInt (by omega)] at z
        omega
      simp only [nI_1]
      refine ⟨fun z => absurd z nle, fun _ => nx J1 oj ⟨hm1.1, fun x hx => ?_⟩⟩
      have := hm1.2 x hx
      try dsimp only at this ⊢
      rw [if_pos (show x < m + 1 by omega), if_pos (show x < m + 1 by omega)] at this
      exact this
    | succ q ih =>
      intro c J1 hc oj hm1
      have cm : c ≤ m := by omega
      have le : nI c ≤ nI m := by
        rw [Int32.le_iff_toInt_le, nI_toInt (by omega), nI_toInt (by omega)]
        omega
      have ic : ix_inb (nI c) 25 = true := nI_in2 (by omega) (by decide)
      obtain ⟨t1, t2, t3, t4, t5⟩ := hm1.2 c cm
      try dsimp only at t1 t2
      rw [if_neg (show ¬ c < c by omega)] at t1 t2
      apply hV
      unfold wb_X2_putIn_83_2_41
      rw [nI_clamp (show c < 2 ^ 31 by omega), t5, t3]
      simp only [nI_1]
      refine ⟨fun _ => ⟨ic, ?_⟩, fun z => absurd le z⟩
      cases hu : us c with
      | false =>
        refine ⟨fun _ => ⟨ic, ic, ?_⟩, fun z => absurd rfl z⟩
        rw [t2, lZ_sub]
        refine ih (c + 1) _ (by omega) (fr_putn rfl (by omega) oj) ⟨fun r hr => ?_, fun x hx => ?_⟩
        · rw [u2_c (by decide), uN_, if_neg (show ¬ us c = true by rw [hu]; decide)]
          exact hm1.1 r hr
        · obtain ⟨z1, z2, z3, z4, z5⟩ := hm1.2 x hx
          rw [u2_c (show 195 ≠ 196 by decide)]
          try dsimp only at z1 z2 ⊢
          by_cases e : x = c
          · subst e
            rw [if_neg (show ¬ x < x by omega)] at z1
            rw [u2_s, if_pos (show x < x + 1 by omega), if_pos (show x < x + 1 by omega), if_neg (show ¬ us x = true by rw [hu]; decide), if_neg (show ¬ us x = true by rw [hu]; decide)]
            exact ⟨z1, rfl, z3, z4, z5⟩
          · rw [u2_j e]
            by_cases l : x < c
            · rw [if_pos l] at z1 z2
              rw [if_pos (show x < c + 1 by omega), if_pos (show x < c + 1 by omega)]
              exact ⟨z1, z2, z3, z4, z5⟩
            · rw [if_neg l] at z1 z2
              rw [if_neg (show ¬ x < c + 1 by omega), if_neg (show ¬ x < c + 1 by omega)]
              exact ⟨z1, z2, z3, z4, z5⟩
      | true =>
        have pc := hp c cm hu
        have ip : ix_inb (nI (p c)) 13 = true := nI_in2 (by omega) (by decide)
        refine ⟨fun z => absurd z (show ¬ (1 : Int32) = 0 by decide), fun _ => ⟨ic, ip, ip, ic, ic, ?_⟩⟩
        rw [nI_clamp (show p c < 2 ^ 31 by omega), hm1.1 (p c) (by omega), t1, lZ_add, lZ_sub]
        refine ih (c + 1) _ (by omega) (fr_putn rfl (by omega) (fr_putn rfl (by omega) oj)) ⟨fun r hr => ?_, fun x hx => ?_⟩
        · rw [u2_c (by decide), uN_, if_pos hu]
          try dsimp only
          by_cases e : r = p c
          · rw [if_pos e, e]; exact u2_s
          · rw [if_neg e, u2_j e]; exact hm1.1 r hr
        · obtain ⟨z1, z2, z3, z4, z5⟩ := hm1.2 x hx
          rw [u2_c (show 196 ≠ 195 by decide), u2_c (show 196 ≠ 194 by decide)]
          try dsimp only at z1 z2 ⊢
          by_cases e : x = c
          · subst e
            rw [if_neg (show ¬ x < x by omega)] at z1 z2
            rw [u2_s, if_pos (show x < x + 1 by omega), if_pos (show x < x + 1 by omega), if_pos hu, if_pos hu]
            exact ⟨rfl, z2, z3, z4, z5⟩
          · rw [u2_j e, u2_c (show 195 ≠ 194 by decide)]
            by_cases l : x < c
            · rw [if_pos l] at z1 z2
              rw [if_pos (show x < c + 1 by omega), if_pos (show x < c + 1 by omega)]
              exact ⟨z1, z2, z3, z4, z5⟩
            · rw [if_neg l] at z1 z2
              rw [if_neg (show ¬ x < c + 1 by omega), if_neg (show ¬ x < c + 1 by omega)]
              exact ⟨z1, z2, z3, z4, z5⟩
  refine key (m + 1) 0 J (by omega) fr_refl ⟨mm.1, fun x hx => ?_⟩
  have := mm.2 x hx
  try dsimp only
  rw [if_neg (show ¬ x < 0 by omega), if_neg (show ¬ x < 0 by omega)]
  exact this
/-- bounds of what the search holds -/
theorem hu_bd {m i k : Nat} {w : Nat → Nat → Int} {u v sl : Nat → Int} {p wy rk : Nat → Nat} {us : Nat → Bool} {a : Nat} (h : hu_P m 605750213184506 w i k u v p sl wy us rk a) (hw : ∀ r c, -605750213184506 ≤ w r c ∧ w r c ≤ 605750213184506) : (∀ r, 1 ≤ r → r ≤ i + 1 → -605750213184506 ≤ u r ∧ u r ≤ 605750213184506) ∧ (∀ c, 1 ≤ c → c ≤ m → -1211500426369012 ≤ v c ∧ v c ≤ 0) ∧ (∀ c, 1 ≤ c → c ≤ m → us c = false → 0 < k → -605750213184506 * 4 ≤ sl c ∧ sl c ≤ 605750213184506 * 4) ∧ (∀ c, c ≤ m → p c ≤ i + 1) ∧ (∀ c, c ≤ m → us c = true → p c ≠ 0) := by
  obtain ⟨⟨p0, hA, hB, hC⟩, ⟨hD, hE, hF, hG⟩, ⟨ha1, ha2⟩, hk, hrk⟩ := h
  have b1 : ∀ r, 1 ≤ r → r ≤ i + 1 → -605750213184506 ≤ u r ∧ u r ≤ 605750213184506 := fun r r1 r2 => by
    by_cases e : r = i + 1
    · subst e
      rcases hk with ⟨-, -, -, z⟩ | ⟨-, -, -, -, -, z, -⟩
      · rw [z]; omega
      · exact z
    · exact hG r r1 (by omega)
  have b4 : ∀ c, c ≤ m → p c ≤ i + 1 := fun c hc => by
    by_cases e : c = 0
    · subst e; omega
    · have := hA c (by omega) hc; omega
  have b2 : ∀ c, 1 ≤ c → c ≤ m → -1211500426369012 ≤ v c ∧ v c ≤ 0 := fun c c1 c2 => by
    refine ⟨?_, (hF c c1 c2).1⟩
    by_cases e : p c = 0
    · rw [(hF c c1 c2).2 e]; omega
    · have h1 := hE c c1 c2 e
      have h2 := b1 (p c) (by omega) (b4 c c2)
      have h3 := hw (p c) c
      omega
  have b5 : ∀ c, c ≤ m → us c = true → p c ≠ 0 := fun c c2 hs => by
    rcases hk with ⟨-, -, z, -⟩ | ⟨-, -, -, -, -, -, z, -⟩
    · rw [z c c2] at hs; cases hs
    · by_cases e : c = 0
      · subst e; omega
      · exact z c (by omega) c2 hs
  refine ⟨b1, b2, fun c c1 c2 hs hk0 => ?_, b4, b5⟩
  rcases hk with ⟨z, -⟩ | ⟨-, -, -, -, -, -, -, z, -⟩
  · omega
  · obtain ⟨⟨y1, y2, y3⟩, -⟩ := z c c1 c2 hs
    have h1 := b1 (p (wy c)) (by have := b5 (wy c) y1 y2; omega) (b4 _ y1)
    have h2 := b2 c c1 c2
    have h3 := hw (p (wy c)) c
    omega
theorem hu_ex {m i : Nat} {p : Nat → Nat} {us1 : Nat → Bool} (hi : i < m) (hA : ∀ c, 1 ≤ c → c ≤ m → p c ≤ i) (hB : ∀ c d, 1 ≤ c → c ≤ m → 1 ≤ d → d ≤ m → p c = p d → p c ≠ 0 → c = d) (hs : ∀ c, 1 ≤ c → c ≤ m → us1 c = true → p c ≠ 0) : ∃ c, 1 ≤ c ∧ c ≤ m ∧ us1 c = false := by
  by_cases e : ∃ c, 1 ≤ c ∧ c ≤ m ∧ us1 c = false
  · exact e
  · exfalso
    have all : ∀ c, 1 ≤ c → c ≤ m → us1 c = true := fun c c1 c2 => by
      cases h : us1 c with
      | true => rfl
      | false => exact absurd ⟨c, c1, c2, h⟩ e
    have := hs_pigeon (n := m) (m := i) (s := p) (fun c c1 c2 => ⟨by have := hs c c1 c2 (all c c1 c2); omega, hA c c1 c2⟩) (fun c d c1 c2 d1 d2 z => hB c d c1 c2 d1 d2 z (hs c c1 c2 (all c c1 c2)))
    omega
theorem fn_put {m n0 n1 i : Nat} {N D G : Nat → Nat → Nat} {u v : Nat → Int} {p : Nat → Nat} (h0 : n0 ≤ 12) (h1 : n1 ≤ 12) (hmn : m = n0 + n1) (hi : i < n0) {I : Nat → Nat → Int32} {J : Nat → Nat → Int64} {T : Option Nat} {P : Int32 → (Nat → Nat → Int32) → (Nat → Nat → Int64) → Option Nat → Prop} (e1 : I 182 1 = nI n1) (h : bkM I n0 n1 N D G) (hf : ∀ k, k < 12 → J 193 k = lZ (13 ^ (11 - k))) (mg1 : ∀ r, r ≤ 12 → J 194 r = lZ (u r)) (mg2 : ∀ c, c ≤ m → J 195 c = lZ (v c) ∧ I 197 c = nI (p c)) (hI : hu_I m 605750213184506 (bkw n1 (bko N D G)) i u v p) (u0 : u (i + 1) = 0) (hP : ∀ I2 J2 k u2 v2 sl2 p2 wy2 us2 rk a, fr_off [(197, 200, 0, 2147483648)] I I2 → fr_off [(194, 197, 0, 2147483648)] J J2 → hM m (fun c => 0 < k ∧ 1 ≤ c) I2 J2 u2 v2 sl2 p2 wy2 us2 → hu_P m 605750213184506 (bkw n1 (bko N D G)) i k u2 v2 p2 sl2 wy2 us2 rk a → p2 a = 0 → P (nI a) I2 J2 T) : wp_X2_putIn (nI (i + 1)) (nI m) I J T P := by
  have cb : ∀ a b, bko N D G a b ≤ 50 := fun a b => bko_le
  have wb := bkw_bd h1 cb
  unfold wp_X2_putIn
  intro V2 hV2
  have main : ∀ (I3 : Nat → Nat → Int32) (J3 : Nat → Nat → Int64) (wy3 : Nat → Nat), fr_off [(197, 200, 0, 2147483648)] I I3 → fr_off [(194, 197, 0, 2147483648)] J J3 → hM m (fun c => 0 < 0 ∧ 1 ≤ c) I3 J3 u v (fun _ => 2305843009213693951) (fun c => if c = 0 then i + 1 else p c) wy3 (fun _ => false) → wl_X2_putIn_41_2 (nI m) 0 0 I3 J3 T V2 P := by
    intro I3 J3 wy3 o3 oj3 mm3
    obtain ⟨iA, iB, iC, iD, iE, iF, iG⟩ := hI
    have hP0 : hu_P m 605750213184506 (bkw n1 (bko N D G)) i 0 u v (fun c => if c = 0 then i + 1 else p c) (fun _ => 2305843009213693951) wy3 (fun _ => false) (fun _ => 0) 0 := by
      refine ⟨⟨rfl, fun c c1 c2 => ?_, fun c d c1 c2 d1 d2 => ?_, fun r r1 r2 => ?_⟩, ⟨iD, fun c c1 c2 => ?_, fun c c1 c2 => ?_, iG⟩, ⟨by omega, rfl⟩, Or.inl ⟨rfl, rfl, fun _ _ => rfl, u0⟩, fun j hj => by omega⟩
      · try dsimp only; rw [if_neg (by omega)]; exact iA c c1 c2
      · try dsimp only; rw [if_neg (by omega), if_neg (by omega)]; exact iB c d c1 c2 d1 d2
      · obtain ⟨c, c1, c2, c3⟩ := iC r r1 r2
        exact ⟨c, c1, c2, by try dsimp only; rw [if_neg (by omega)]; exact c3⟩
      · try dsimp only; rw [if_neg (by omega)]; exact iE c c1 c2
      · try dsimp only; rw [if_neg (by omega)]; exact iF c c1 c2
    intro V41 hV41
    have key : ∀ (q k : Nat) (I1 : Nat → Nat → Int32) (J1 : Nat → Nat → Int64) (u1 v1 sl1 : Nat → Int) (p1 wy1 : Nat → Nat) (us1 : Nat → Bool) (rk : Nat → Nat) (a : Nat), k + q = i + 2 → fr_off [(197, 200, 0, 2147483648)] I I1 → fr_off [(194, 197, 0, 2147483648)] J J1 → hM m (fun c => 0 < k ∧ 1 ≤ c) I1 J1 u1 v1 sl1 p1 wy1 us1 → hu_P m 605750213184506 (bkw n1 (bko N D G)) i k u1 v1 p1 sl1 wy1 us1 rk a → (k = 0 → ∀ c, sl1 c = 2305843009213693951) → V41 (nI m) (nI a) (nI k) I1 J1 T := by
      intro q
      induction q with
      | zero =>
        intro k I1 J1 u1 v1 sl1 p1 wy1 us1 rk a hk o oj mm1 hp _
        have := hu_few hp
        omega
      | succ q ih =>
        intro k I1 J1 u1 v1 sl1 p1 wy1 us1 rk a hk o oj mm1 hp hs0
        obtain ⟨b1, b2, b3, b4, b5⟩ := hu_bd hp wb
        have hp' := hp
        obtain ⟨⟨p0, hA, hB, hC⟩, -, ⟨ha1, ha2⟩, hkk, -⟩ := hp'
        have few := hu_few hp
        have ia : ix_inb (nI a) 25 = true := nI_in2 (by omega) (by decide)
        have le : nI k ≤ nI m := by
          rw [Int32.le_iff_toInt_le, nI_toInt (by omega), nI_toInt (by omega)]
          omega
        have pa := b4 a ha1
        have pz : nI (p1 a) = 0 ↔ p1 a = 0 := nI_eq (a := p1 a) (b := 0) (by omega) (by omega)
        apply hV41
        unfold wb_X2_putIn_41_2
        rw [nI_clamp (show a < 2 ^ 31 by omega), (mm1.2 a ha1).2.2.1, pz]
        refine ⟨fun _ => ⟨ia, fun z => hP I1 J1 k u1 v1 sl1 p1 wy1 us1 rk a o oj mm1 hp z, fun z => ⟨ia, ?_⟩⟩, fun z => absurd le z⟩
        have o4 : fr_off [(197, 200, 0, 2147483648)] I (ix_u2 I1 199 a 1) := fr_putn rfl (by omega) o
        have mm4 : hM m (fun c => 0 < k ∧ 1 ≤ c) (ix_u2 I1 199 a 1) J1 u1 v1 sl1 p1 wy1 (fun c => if c = a then true else us1 c) := by
          refine ⟨mm1.1, fun x hx => ?_⟩
          obtain ⟨z1, z2, z3, z4, z5⟩ := mm1.2 x hx
          rw [u2_c (show 197 ≠ 199 by decide), u2_c (show 198 ≠ 199 by decide)]
          try dsimp only
          by_cases e : x = a
          · subst e
            rw [u2_s, if_pos rfl]
            exact ⟨z1, z2, z3, z4, rfl⟩
          · rw [u2_j e, if_neg e]
            exact ⟨z1, z2, z3, z4, z5⟩
        have h4 : bkM (ix_u2 I1 199 a 1) n0 n1 N D G := by
          unfold bkM
          rw [fr_rw1 o4 184 rfl, fr_rw1 o4 185 rfl, fr_rw1 o4 187 rfl, fr_rw1 o4 188 rfl, fr_rw1 o4 190 rfl, fr_rw1 o4 191 rfl]
          exact h
        have ex := hu_ex (us1 := fun c => if c = a then true else us1 c) (p := p1) (show i < m by omega) hA hB (fun c c1 c2 hc => by
          by_cases e : c = a
          · subst e; exact z
          · try dsimp only at hc
            rw [if_neg e] at hc
            exact b5 c c2 hc)
        refine fn_near (k := k) (i := i) (us := us1) (us1 := fun c => if c = a then true else us1 c) h0 h1 hmn hi (by rw [fr_at 182 1 o4 rfl]; exact e1) h4 (by rw [fr_rw1 oj 193 rfl]; exact hf) ha1 (fun c _ => rfl) mm4 (fun k0 c c1 c2 => by
          rcases hkk with ⟨-, y1, y2, -⟩ | ⟨y, -⟩
          · show (if c = a then true else us1 c) = false
            rw [if_neg (by omega)]; exact y2 c c2
          · omega) ⟨by omega, pa⟩ (b1 _ (by omega) pa) b2 (fun c c1 c2 hc => ?_) ex (fun I5 J5 nr sl5 wy5 o5 oj5 mm5 g1 g2 g3 g4 => ⟨nI_in2 (by omega) (by decide), ?_⟩)
        · have hc : us1 c = false := by
            by_cases e : c = a
            · subst e; exact ha2
            · try dsimp only at hc
              rw [if_neg e] at hc
              exact hc
          by_cases k0 : k = 0
          · exact Or.inl ⟨k0, hs0 k0 c⟩
          · exact Or.inr ⟨by omega, b3 c c1 c2 hc (by omega)⟩
        · rw [nI_clamp (show nr < 2 ^ 31 by omega), (mm5.2 nr g4.2.1).2.1]
          have seen : ∀ c, c ≤ m → (if c = a then true else us1 c) = true → p1 c ≤ i + 1 := fun c c2 _ => b4 c c2
          refine lp_83 (i := i) (by omega) (by omega) seen mm5 (fun J6 oj6 mm6 => ?_)
          have inj : ∀ s t, s ≤ m → t ≤ m → (if s = a then true else us1 s) = true → (if t = a then true else us1 t) = true → p1 s = p1 t → s = t := fun s t s2 t2 hs ht e => by
            have ns : p1 s ≠ 0 := by
              by_cases c : s = a
              · subst c; exact z
              · rw [if_neg c] at hs; exact b5 s s2 hs
            by_cases s0 : s = 0
            · by_cases t0 : t = 0
              · omega
              · have := hA t (by omega) t2
                subst s0
                omega
            · by_cases t0 : t = 0
              · have := hA s (by omega) s2
                subst t0
                omega
              · exact hB s t (by omega) s2 (by omega) t2 e ns
          have st := hu_step (u2 := uN_ u1 p1 (fun c => if c = a then true else us1 c) (sl5 nr) (m + 1)) (v2 := fun c => if (if c = a then true else us1 c) then v1 c - sl5 nr else v1 c) (sl2 := fun c => if (if c = a then true else us1 c) then sl5 c else sl5 c - sl5 nr) (us1 := fun c => if c = a then true else us1 c) hp (fun r c _ _ _ _ => wb r c) (by omega) z (fun c _ => rfl) g1 g2 g4 (fun s s1 s2 => uN_ye (by omega) s2 (fun t t1 t2 t3 => inj t s (by omega) s1 t2 s2 t3)) (fun r hr => uN_no (fun s s1 s2 => hr s (by omega) s2)) (fun c _ => rfl) (fun c c1 c2 hc => by
            show (if (if c = a then true else us1 c) = true then sl5 c else sl5 c - sl5 nr) = _
            have hc : (if c = a then true else us1 c) = false := hc
            rw [hc]
            rfl)
          have o6 : fr_off [(197, 200, 0, 2147483648)] I I5 := fr_trans o4 (fr_mono (by decide) o5)
          have oj7 : fr_off [(194, 197, 0, 2147483648)] J J6 := fr_trans oj (fr_trans (fr_mono (by decide) oj5) oj6)
          exact ih (k + 1) I5 J6 _ _ _ _ _ _ _ nr (by omega) o6 oj7 ⟨mm6.1, fun x hx => ⟨(mm6.2 x hx).1, (mm6.2 x hx).2.1, (mm6.2 x hx).2.2.1, fun kx => (mm6.2 x hx).2.2.2.1 kx.2, (mm6.2 x hx).2.2.2.2⟩⟩ st (fun z => by omega)
    exact key (i + 2) 0 I3 J3 u v _ _ wy3 _ _ 0 (by omega) o3 oj3 mm3 hP0 (fun _ _ => rfl)
  have key2 : ∀ (q c : Nat) (I1 : Nat → Nat → Int32) (J1 : Nat → Nat → Int64), c + q = m + 1 → fr_off [(197, 200, 0, 2147483648)] I I1 → fr_off [(194, 197, 0, 2147483648)] J J1 → (∀ r, r ≤ 12 → J1 194 r = lZ (u r)) → (∀ x, x ≤ m → J1 195 x = lZ (v x) ∧ I1 197 x = nI (p x)) → (∀ x, x < c → J1 196 x = lZ 2305843009213693951 ∧ I1 199 x = 0) → V2 (nI (i + 1)) (nI m) (nI c) I1 J1 T := by
    intro q
    induction q with
    | zero =>
      intro c I1 J1 hc o oj g1 g2 g3
      have hc : c = m + 1 := by omega
      subst hc
      apply hV2
      unfold wb_X2_putIn_2
      have nle : ¬ nI (m + 1) ≤ nI m := fun z => by
        rw [Int32.le_iff_toInt_le, nI_toInt (by omega), nI_toInt (by omega)] at z
        omega
      rw [show ((0 : Int32)).toNatClampNeg = 0 from rfl]
      refine ⟨fun z => absurd z nle, fun _ => main _ J1 (fun _ => 0) (fr_put rfl o) oj ⟨g1, fun x hx => ?_⟩⟩
      obtain ⟨z1, z2⟩ := g2 x hx
      obtain ⟨z4, z5⟩ := g3 x (by omega)
      rw [u2_c (show 198 ≠ 197 by decide), u2_c (show 199 ≠ 197 by decide)]
      try dsimp only
      by_cases e : x = 0
      · subst e
        rw [u2_s, if_pos rfl]
        exact ⟨z1, z4, rfl, fun kx => absurd kx.1 (by omega), z5⟩
      · rw [u2_j e, if_neg e]
        exact ⟨z1, z4, z2, fun kx => absurd kx.1 (by omega), z5⟩
    | succ q ih =>
      intro c I1 J1 hc o oj g1 g2 g3
      have ic : ix_inb (nI c) 25 = true := nI_in2 (by omega) (by decide)
      have le : nI c ≤ nI m := by
        rw [Int32.le_iff_toInt_le, nI_toInt (by omega), nI_toInt (by omega)]
        omega
      apply hV2
      unfold wb_X2_putIn_2
      rw [nI_clamp (show c < 2 ^ 31 by omega)]
      simp only [nI_1]
      refine ⟨fun _ => ⟨ic, ic, ih (c + 1) _ _ (by omega) (fr_putn rfl (by omega) o) (fr_putn rfl (by omega) oj) (fun r hr => by rw [u2_c (by decide)]; exact g1 r hr) (fun x hx => ?_) (fun x hx => ?_)⟩, fun z => absurd le z⟩
      · rw [u2_c (show 195 ≠ 196 by decide), u2_c (show 197 ≠ 199 by decide)]
        exact g2 x hx
      · by_cases e : x = c
        · subst e; rw [u2_s, u2_s]; exact ⟨rfl, rfl⟩
        · rw [u2_j e, u2_j e]; exact g3 x (by omega)
  exact key2 (m + 1) 0 I J (by omega) fr_refl fr_refl mg1 mg2 (fun x hx => by omega)
theorem fn_shf {m n0 n1 i k : Nat} {w : Nat → Nat → Int} {u v sl : Nat → Int} {p wy rk : Nat → Nat} {us : Nat → Bool} {a : Nat} (h0 : n0 ≤ 12) (h1 : n1 ≤ 12) (hmn : m = n0 + n1) (hi : i < n0) (hw : ∀ r c, -605750213184506 ≤ w r c ∧ w r c ≤ 605750213184506) {I : Nat → Nat → Int32} {J : Nat → Nat → Int64} {T : Option Nat} {P : (Nat → Nat → Int32) → (Nat → Nat → Int64) → Option Nat → Prop} (mm : hM m (fun c => 0 < k ∧ 1 ≤ c) I J u v sl p wy us) (hp : hu_P m 605750213184506 w i k u v p sl wy us rk a) (pa : p a = 0) (hP : ∀ I2 p2, fr_off [(197, 200, 0, 2147483648)] I I2 → hM m (fun c => 0 < k ∧ 1 ≤ c) I2 J u v sl p2 wy us → hu_I m 605750213184506 w (i + 1) u v p2 → P I2 J T) : wp_X2_shift (nI a) (nI m) I J T P := by
  obtain ⟨b1, b2, b3, b4, b5⟩ := hu_bd hp hw
  have few := hu_few hp
  have hp' := hp
  obtain ⟨⟨p0, hA, hB, hC⟩, -, ⟨ha1, ha2⟩, hkk, -⟩ := hp'
  have a0 : a ≠ 0 := fun z => by rw [z, p0] at pa; omega
  have seen : ∀ c, 1 ≤ c → c ≤ m → us c = true → wy c ≤ m ∧ us (wy c) = true ∧ rk (wy c) < rk c ∧ w (p (wy c)) c = u (p (wy c)) + v c := by
    rcases hkk with ⟨-, z, -⟩ | ⟨-, -, -, -, -, -, -, -, z, -⟩
    · exact absurd z a0
    · exact z
  have kp : 0 < k := by
    rcases hkk with ⟨-, z, -⟩ | ⟨z, -⟩
    · exact absurd z a0
    · exact z
  unfold wp_X2_shift
  intro V hV
  have key : ∀ (q j : Nat) (I1 : Nat → Nat → Int32) (p1 : Nat → Nat) (x R : Nat), j + q = m + 1 → j + R ≤ k → x ≤ m → fr_off [(197, 200, 0, 2147483648)] I I1 → hM m (fun c => 0 < k ∧ 1 ≤ c) I1 J u v sl p1 wy us → hu_T m w i u v p wy us rk p1 x R → V (nI m) (nI x) (nI j) I1 J T := by
    intro q
    induction q with
    | zero =>
      intro j I1 p1 x R hj hR hx o mm1 ht
      omega
    | succ q ih =>
      intro j I1 p1 x R hj hR hx o mm1 ht
      have le : nI j ≤ nI m := by
        rw [Int32.le_iff_toInt_le, nI_toInt (by omega), nI_toInt (by omega)]
        omega
      have xz : nI x = 0 ↔ x = 0 := nI_eq (a := x) (b := 0) (by omega) (by omega)
      apply hV
      unfold wb_X2_shift_5
      rw [xz, nI_clamp (show x < 2 ^ 31 by omega)]
      refine ⟨fun _ => ⟨fun z => ?_, fun z => ?_⟩, fun z => absurd le z⟩
      · subst z
        exact hP I1 p1 o mm1 (hu_end hp a0 ht)
      · have ht' := ht
        obtain ⟨-, -, -, -, -, g6, -⟩ := ht'
        obtain ⟨x1, x2, x3, x4, x5, x6⟩ := g6.resolve_left z
        have t1 := hu_T1 (p2 := fun c => if c = x then p1 (wy x) else p1 c) ht z b5 seen (fun c _ => rfl)
        have pw : I1 197 (wy x) = nI (p1 (wy x)) := (mm1.2 (wy x) x3).2.2.1
        rw [(mm1.2 x hx).2.2.2.1 ⟨kp, by omega⟩, nI_clamp (show wy x < 2 ^ 31 by omega), pw, nI_1]
        have ix : ix_inb (nI x) 25 = true := nI_in2 (by omega) (by decide)
        refine ⟨ix, nI_in2 (by omega) (by decide), ix, ix, ih (j + 1) _ _ (wy x) (rk (wy x)) (by omega) (by omega) x3 (fr_putn rfl (by omega) o) ⟨mm1.1, fun c hc => ?_⟩ t1⟩
        obtain ⟨z1, z2, z3, z4, z5⟩ := mm1.2 c hc
        rw [u2_c (show 198 ≠ 197 by decide), u2_c (show 199 ≠ 197 by decide)]
        try dsimp only
        by_cases e : c = x
        · subst e
          rw [u2_s, if_pos rfl]
          exact ⟨z1, z2, rfl, z4, z5⟩
        · rw [u2_j e, if_neg e]
          exact ⟨z1, z2, z3, z4, z5⟩
  exact key (m + 1) 0 I p a k (by omega) (by omega) ha1 fr_refl mm (hu_T0 hp pa)
