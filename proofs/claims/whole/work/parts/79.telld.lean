/-! telling: the model's choices in their order, and both sides -/
def dd_ (a b c : Nat) : Nat → Nat := fun j => if j = 0 then a else if j = 1 then b else c
def up_ (K : Nat → Nat → Nat) (w n : Nat) (d : Nat → Nat) (s : Nat × (Nat → Nat)) : Nat × (Nat → Nat) := if ft_ K d w n < s.1 then (ft_ K d w n, d) else s
def e1_ (w : Nat) : Nat := if w < 2 then 1 else 52
def s1_ (w a : Nat) : Nat := if w < 2 then 0 else a + 1
def e2_ (w : Nat) : Nat := if w < 3 then 1 else 52
def s2_ (w b : Nat) : Nat := if w < 3 then 0 else b + 1
def mC_ (K : Nat → Nat → Nat) (w n a b : Nat) : Nat → Nat → Nat × (Nat → Nat) → Nat × (Nat → Nat)
  | 0, _, s => s
  | m + 1, c, s => mC_ K w n a b m (c + 1) (up_ K w n (dd_ a b c) s)
def mB_ (K : Nat → Nat → Nat) (w n a : Nat) : Nat → Nat → Nat × (Nat → Nat) → Nat × (Nat → Nat)
  | 0, _, s => s
  | m + 1, b, s => mB_ K w n a m (b + 1) (mC_ K w n a b (e2_ w - s2_ w b) (s2_ w b) s)
def mA_ (K : Nat → Nat → Nat) (w n : Nat) : Nat → Nat → Nat × (Nat → Nat) → Nat × (Nat → Nat)
  | 0, _, s => s
  | m + 1, a, s => mA_ K w n m (a + 1) (mB_ K w n a (e1_ w - s1_ w a) (s1_ w a) s)
theorem mA_s {K : Nat → Nat → Nat} {w n m a : Nat} {s : Nat × (Nat → Nat)} : mA_ K w n (m + 1) a s = mA_ K w n m (a + 1) (mB_ K w n a (e1_ w - s1_ w a) (s1_ w a) s) := rfl
theorem mB_s {K : Nat → Nat → Nat} {w n a m b : Nat} {s : Nat × (Nat → Nat)} : mB_ K w n a (m + 1) b s = mB_ K w n a m (b + 1) (mC_ K w n a b (e2_ w - s2_ w b) (s2_ w b) s) := rfl
def eS_ (w : Nat) (s t : Nat × (Nat → Nat)) : Prop := s.1 = t.1 ∧ ∀ j, j < w → s.2 j = t.2 j
theorem sN_congr {f g : Nat → Nat} : ∀ {n : Nat}, (∀ k, k < n → f k = g k) → sN_ f n = sN_ g n
  | 0, _ => rfl
  | n + 1, h => by rw [sN_, sN_, sN_congr (n := n) (fun k hk => h k (by omega)), h n (by omega)]
theorem ft_congr {K : Nat → Nat → Nat} {d e : Nat → Nat} {w n : Nat} (h : ∀ j, j < w → d j = e j) : ft_ K d w n = ft_ K e w n := by
  unfold ft_
  refine sN_congr (fun k hk => ?_)
  unfold fd_
  rw [sN_congr (n := w) (f := fun j => K k (d j)) (g := fun j => K k (e j)) (fun j hj => by rw [h j hj])]
theorem up_eS {K : Nat → Nat → Nat} {w n : Nat} {d e : Nat → Nat} {s t : Nat × (Nat → Nat)} (h : ∀ j, j < w → d j = e j) (q : eS_ w s t) : eS_ w (up_ K w n d s) (up_ K w n e t) := by
  unfold up_
  rw [ft_congr h, q.1]
  by_cases c : ft_ K e w n < t.1
  · rw [if_pos c, if_pos c]; exact ⟨rfl, h⟩
  · rw [if_neg c, if_neg c]; exact q
theorem bz_s {K : Nat → Nat → Nat} {w n f : Nat} {d : Nat → Nat} {s : Nat × (Nat → Nat)} {k : Nat} (h : nk_ w d w = some k) : bz_ K w n (f + 1) d s.1 s.2 = bz_ K w n f (nd_ d k) (up_ K w n d s).1 (up_ K w n d s).2 := by
  rw [bz_, h]
  unfold up_
  by_cases c : ft_ K d w n < s.1
  · rw [if_pos c]; exact if_pos c
  · rw [if_neg c]; exact if_neg c
theorem bz_e {K : Nat → Nat → Nat} {w n f : Nat} {d : Nat → Nat} {s : Nat × (Nat → Nat)} (h : nk_ w d w = none) : bz_ K w n (f + 1) d s.1 s.2 = up_ K w n d s := by
  rw [bz_, h]
  rfl
theorem nk_sp {w : Nat} {d : Nat → Nat} {k : Nat} : ∀ {c : Nat}, nk_ w d c = some k → k < c ∧ d k < 52 - w + k
  | 0, h => by cases h
  | c + 1, h => by
    rw [nk_] at h
    by_cases q : d c < 52 - w + c
    · rw [if_pos q] at h
      cases h
      exact ⟨by omega, q⟩
    · rw [if_neg q] at h
      have := nk_sp h
      exact ⟨by omega, this.2⟩
theorem bz_le {K : Nat → Nat → Nat} {w n : Nat} (hw : w ≤ 52) : ∀ {f : Nat} {d : Nat → Nat} {s : Nat × (Nat → Nat)}, (∀ j, j < w → d j < 52) → (∀ j, j < w → s.2 j < 52) → (bz_ K w n f d s.1 s.2).1 ≤ s.1 ∧ ∀ j, j < w → (bz_ K w n f d s.1 s.2).2 j < 52
  | 0, d, s, _, h2 => ⟨Nat.le_refl _, h2⟩
  | f + 1, d, s, h1, h2 => by
    have u1 : (up_ K w n d s).1 ≤ s.1 := by
      unfold up_
      by_cases c : ft_ K d w n < s.1
      · rw [if_pos c]; exact Nat.le_of_lt c
      · rw [if_neg c]; exact Nat.le_refl _
    have u2 : ∀ j, j < w → (up_ K w n d s).2 j < 52 := by
      unfold up_
      by_cases c : ft_ K d w n < s.1
      · rw [if_pos c]; exact h1
      · rw [if_neg c]; exact h2
    cases e : nk_ w d w with
    | none => rw [bz_e e]; exact ⟨u1, u2⟩
    | some k =>
      rw [bz_s e]
      obtain ⟨k1, k2⟩ := nk_sp e
      have := bz_le (K := K) (n := n) hw (f := f) (d := nd_ d k) (s := up_ K w n d s) (fun j hj => by
        unfold nd_
        by_cases c : j < k
        · rw [if_pos c]; exact h1 j hj
        · rw [if_neg c]; omega) u2
      exact ⟨Nat.le_trans this.1 u1, this.2⟩
theorem bz_lf {K : Nat → Nat → Nat} {w n f : Nat} (hw : w ≤ 52) {d : Nat → Nat} {s : Nat × (Nat → Nat)} (h1 : ∀ j, j < w → d j < 52) (h2 : ∀ j, j < w → s.2 j < 52) : (bz_ K w n (f + 1) d s.1 s.2).1 ≤ ft_ K d w n := by
  have u1 : (up_ K w n d s).1 ≤ ft_ K d w n := by
    unfold up_
    by_cases c : ft_ K d w n < s.1
    · rw [if_pos c]; exact Nat.le_refl _
    · rw [if_neg c]; omega
  have u2 : ∀ j, j < w → (up_ K w n d s).2 j < 52 := by
    unfold up_
    by_cases c : ft_ K d w n < s.1
    · rw [if_pos c]; exact h1
    · rw [if_neg c]; exact h2
  cases e : nk_ w d w with
  | none => rw [bz_e e]; exact u1
  | some k =>
    rw [bz_s e]
    obtain ⟨k1, k2⟩ := nk_sp e
    have := bz_le (K := K) (n := n) hw (f := f) (d := nd_ d k) (s := up_ K w n d s) (fun j hj => by
      unfold nd_
      by_cases c : j < k
      · rw [if_pos c]; exact h1 j hj
      · rw [if_neg c]; omega) u2
    exact Nat.le_trans this.1 u1
theorem fu_4 {x f : Nat} (h : 2704 * x + 8165 ≤ f + 1) (hx : x ≤ 48) : 2704 * x + 5408 + (53 * x + 53) ≤ f := by
  omega
theorem fu_3 {a f : Nat} (h : (51 - a) * 2704 + (51 - 50) * 52 + (52 - 51) ≤ f + 1) (c : a < 49) : (51 - (a + 1))*2704 + (51-(a+2))*52 + (52-(a+3)) ≤ f := by
  obtain ⟨x, hx⟩ : ∃ x, x = 48 - a := ⟨_, rfl⟩
  have hx2 : x ≤ 48 := by omega
  rw [show 51 - a = x + 3 by omega, show (x + 3) * 2704 = 2704 * x + 8112 by rw [Nat.add_mul, Nat.mul_comm]] at h
  rw [show 51 - (a + 1) = x + 2 by omega, show 51 - (a + 2) = x + 1 by omega, show 52 - (a + 3) = x + 1 by omega]
  rw [show (x + 2) * 2704 = 2704 * x + 5408 by rw [Nat.add_mul, Nat.mul_comm]]
  have := fu_4 h hx2
  omega
theorem bz_3 {K : Nat → Nat → Nat} {n : Nat} : ∀ (f a b c : Nat) (d : Nat → Nat) (s t : Nat × (Nat → Nat)), a < b → b < c → c < 52 → (51 - a) * 2704 + (51 - b) * 52 + (52 - c) ≤ f → d 0 = a → d 1 = b → d 2 = c → eS_ 3 s t → eS_ 3 (bz_ K 3 n f d s.1 s.2) (mA_ K 3 n (51 - a) (a + 1) (mB_ K 3 n a (51 - b) (b + 1) (mC_ K 3 n a b (52 - c) c t))) := by
  intro f
  induction f with
  | zero => intros; omega
  | succ f ih =>
    intro a b c d s t h1 h2 h3 h4 d0 d1 d2 hs
    have hd : ∀ j, j < 3 → d j = dd_ a b c j := fun j hj => by
      match j, hj with
      | 0, _ => exact d0
      | 1, _ => exact d1
      | 2, _ => exact d2
    have hu := up_eS (K := K) (n := n) hd hs
    have eC : mC_ K 3 n a b (52 - c) c t = mC_ K 3 n a b (51 - c) (c + 1) (up_ K 3 n (dd_ a b c) t) := by
      rw [show 52 - c = (51 - c) + 1 by omega]; rfl
    rw [eC]
    by_cases c1 : c < 51
    · have e : nk_ 3 d 3 = some 2 := nk_some (w := 3) (k := 2) (c := 0) (by omega) (fun j a b => by omega)
      rw [bz_s e]
      have := ih a b (c + 1) (nd_ d 2) _ _ h1 (by omega) (by omega) (by omega) d0 d1 (show d 2 + 1 + 0 = c + 1 by omega) hu
      rw [show 52 - (c + 1) = 51 - c by omega] at this
      exact this
    · have hc : c = 51 := by omega
      subst hc
      rw [show mC_ K 3 n a b (51 - 51) (51 + 1) (up_ K 3 n (dd_ a b 51) t) = up_ K 3 n (dd_ a b 51) t from rfl]
      by_cases c2 : b < 50
      · have e : nk_ 3 d 3 = some 1 := nk_some (w := 3) (k := 1) (c := 1) (by omega) (fun j a b => by
          have : j = 2 := by omega
          subst this; omega)
        rw [bz_s e]
        have := ih a (b + 1) (b + 2) (nd_ d 1) _ _ (by omega) (by omega) (by omega) (by omega) d0 (show d 1 + 1 + 0 = b + 1 by omega) (show d 1 + 1 + 1 = b + 2 by omega) hu
        rw [show 51 - b = (51 - (b + 1)) + 1 by omega]
        exact this
      · have hb : b = 50 := by omega
        subst hb
        have eB : ∀ S : Nat × (Nat → Nat), mB_ K 3 n a (51 - 50) (50 + 1) S = S := fun S => by
          have e9 : mB_ K 3 n a (51 - 50) (50 + 1) S = mB_ K 3 n a 0 52 (mC_ K 3 n a 51 (e2_ 3 - s2_ 3 51) (s2_ 3 51) S) := mB_s (m := 0) (b := 51)
          have e8 : e2_ 3 - s2_ 3 51 = 0 := by decide
          rw [e9, e8]; rfl
        rw [eB]
        by_cases c3 : a < 49
        · have e : nk_ 3 d 3 = some 0 := nk_some (w := 3) (k := 0) (c := 2) (by omega) (fun j a b => by
            have : j = 1 ∨ j = 2 := by omega
            rcases this with rfl | rfl <;> omega)
          rw [bz_s e]
          have := ih (a + 1) (a + 2) (a + 3) (nd_ d 0) _ _ (by omega) (by omega) (by omega) (fu_3 h4 c3) (show d 0 + 1 + 0 = a + 1 by omega) (show d 0 + 1 + 1 = a + 2 by omega) (show d 0 + 1 + 2 = a + 3 by omega) hu
          rw [show 51 - a = (51 - (a + 1)) + 1 by omega]
          show eS_ 3 _ (mA_ K 3 n (51 - (a + 1)) (a + 1 + 1) (mB_ K 3 n (a + 1) (52 - (a + 1 + 1)) (a + 1 + 1) (up_ K 3 n (dd_ a 50 51) t)))
          rw [show 52 - (a + 1 + 1) = (51 - (a + 2)) + 1 by omega]
          exact this
        · have ha : a = 49 := by omega
          subst ha
          have e : nk_ 3 d 3 = none := nk_none (fun j hj => by
            have : j = 0 ∨ j = 1 ∨ j = 2 := by omega
            rcases this with rfl | rfl | rfl <;> omega)
          rw [bz_e e]
          exact hu
theorem bz_2 {K : Nat → Nat → Nat} {n : Nat} : ∀ (f a b : Nat) (d : Nat → Nat) (s t : Nat × (Nat → Nat)), a < b → b < 52 → (51 - a) * 52 + (52 - b) ≤ f → d 0 = a → d 1 = b → eS_ 2 s t → eS_ 2 (bz_ K 2 n f d s.1 s.2) (mA_ K 2 n (51 - a) (a + 1) (mB_ K 2 n a (52 - b) b t)) := by
  intro f
  induction f with
  | zero => intros; omega
  | succ f ih =>
    intro a b d s t h1 h2 h4 d0 d1 hs
    have hd : ∀ j, j < 2 → d j = dd_ a b 0 j := fun j hj => by
      match j, hj with
      | 0, _ => exact d0
      | 1, _ => exact d1
    have hu := up_eS (K := K) (n := n) hd hs
    have eC : mB_ K 2 n a (52 - b) b t = mB_ K 2 n a (51 - b) (b + 1) (up_ K 2 n (dd_ a b 0) t) := by
      rw [show 52 - b = (51 - b) + 1 by omega]; rfl
    rw [eC]
    by_cases c1 : b < 51
    · have e : nk_ 2 d 2 = some 1 := nk_some (w := 2) (k := 1) (c := 0) (by omega) (fun j a b => by omega)
      rw [bz_s e]
      have := ih a (b + 1) (nd_ d 1) _ _ (by omega) (by omega) (by omega) d0 (show d 1 + 1 + 0 = b + 1 by omega) hu
      rw [show 52 - (b + 1) = 51 - b by omega] at this
      exact this
    · have hb : b = 51 := by omega
      subst hb
      rw [show mB_ K 2 n a (51 - 51) (51 + 1) (up_ K 2 n (dd_ a 51 0) t) = up_ K 2 n (dd_ a 51 0) t from rfl]
      by_cases c3 : a < 50
      · have e : nk_ 2 d 2 = some 0 := nk_some (w := 2) (k := 0) (c := 1) (by omega) (fun j a b => by
          have : j = 1 := by omega
          subst this; omega)
        rw [bz_s e]
        have := ih (a + 1) (a + 2) (nd_ d 0) _ _ (by omega) (by omega) (by omega) (show d 0 + 1 + 0 = a + 1 by omega) (show d 0 + 1 + 1 = a + 2 by omega) hu
        rw [show 51 - a = (51 - (a + 1)) + 1 by omega]
        exact this
      · have ha : a = 50 := by omega
        subst ha
        have e : nk_ 2 d 2 = none := nk_none (fun j hj => by
          have : j = 0 ∨ j = 1 := by omega
          rcases this with rfl | rfl <;> omega)
        rw [bz_e e]
        exact hu
theorem bz_1 {K : Nat → Nat → Nat} {n : Nat} : ∀ (f a : Nat) (d : Nat → Nat) (s t : Nat × (Nat → Nat)), a < 52 → 52 - a ≤ f → d 0 = a → eS_ 1 s t → eS_ 1 (bz_ K 1 n f d s.1 s.2) (mA_ K 1 n (52 - a) a t) := by
  intro f
  induction f with
  | zero => intros; omega
  | succ f ih =>
    intro a d s t h1 h4 d0 hs
    have hd : ∀ j, j < 1 → d j = dd_ a 0 0 j := fun j hj => by
      match j, hj with
      | 0, _ => exact d0
    have hu := up_eS (K := K) (n := n) hd hs
    have eC : mA_ K 1 n (52 - a) a t = mA_ K 1 n (51 - a) (a + 1) (up_ K 1 n (dd_ a 0 0) t) := by
      rw [show 52 - a = (51 - a) + 1 by omega]; rfl
    rw [eC]
    by_cases c1 : a < 51
    · have e : nk_ 1 d 1 = some 0 := nk_some (w := 1) (k := 0) (c := 0) (by omega) (fun j a b => by omega)
      rw [bz_s e]
      have := ih (a + 1) (nd_ d 0) _ _ (by omega) (by omega) (show d 0 + 1 + 0 = a + 1 by omega) hu
      rw [show 52 - (a + 1) = 51 - a by omega] at this
      exact this
    · have ha : a = 51 := by omega
      subst ha
      have e : nk_ 1 d 1 = none := nk_none (fun j hj => by
        have : j = 0 := by omega
        subst this; omega)
      rw [bz_e e]
      exact hu
theorem bz_M {K : Nat → Nat → Nat} {w n : Nat} (hw : 1 ≤ w) (hw3 : w ≤ 3) (s : Nat × (Nat → Nat)) : eS_ w (bz_ K w n 140608 (fun j => j) s.1 s.2) (mA_ K w n 52 0 s) := by
  have hs : ∀ w, eS_ w s s := fun w => ⟨rfl, fun _ _ => rfl⟩
  have : w = 1 ∨ w = 2 ∨ w = 3 := by omega
  rcases this with rfl | rfl | rfl
  · exact bz_1 140608 0 (fun j => j) s s (by omega) (by omega) rfl (hs 1)
  · have := bz_2 (K := K) (n := n) 140608 0 1 (fun j => j) s s (by omega) (by omega) (by omega) rfl rfl (hs 2)
    have e : mA_ K 2 n 52 0 s = mA_ K 2 n (51 - 0) (0 + 1) (mB_ K 2 n 0 (52 - 1) 1 s) := mA_s (m := 51) (a := 0)
    rw [e]
    exact this
  · have := bz_3 (K := K) (n := n) 140608 0 1 2 (fun j => j) s s (by omega) (by omega) (by omega) (by omega) rfl rfl rfl (hs 3)
    have e : mA_ K 3 n 52 0 s = mA_ K 3 n (51 - 0) (0 + 1) (mB_ K 3 n 0 51 1 s) := mA_s (m := 51) (a := 0)
    have e2 : mB_ K 3 n 0 51 1 s = mB_ K 3 n 0 (51 - 1) (1 + 1) (mC_ K 3 n 0 1 (52 - 2) 2 s) := mB_s (m := 50) (b := 1)
    rw [e, e2]
    exact this
