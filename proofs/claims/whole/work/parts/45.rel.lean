/-! the relation of both sides, piece by piece -/
/-- n rows of ints from a on -/
def bI (f : Nat → Nat → Int32) (a n : Nat) : Nat → Nat → Int32 := fun i j => if i < n then f (a + i) j else 0
def bJ (f : Nat → Nat → Int64) (a n : Nat) : Nat → Nat → Int64 := fun i j => if i < n then f (a + i) j else 0
theorem bI_lt {f : Nat → Nat → Int32} {a n i j : Nat} (h : i < n) : bI f a n i j = f (a + i) j := if_pos h
theorem bJ_lt {f : Nat → Nat → Int64} {a n i j : Nat} (h : i < n) : bJ f a n i j = f (a + i) j := if_pos h
def fr_rw (D : List fr_R) (a b : Nat) : Bool := D.all (fun d => Nat.ble b d.1 || Nat.ble d.2.1 a)
theorem fr_row {α : Type} {D : List fr_R} {f g : Nat → Nat → α} (h : fr_off D f g) {a b : Nat} (hd : fr_rw D a b = true) {x : Nat} (h1 : a ≤ x) (h2 : x < b) : g x = f x := funext fun j => h x j (by
  cases e : fr_in D x j with
  | false => rfl
  | true =>
    exfalso
    unfold fr_in at e
    rw [List.any_eq_true] at e
    obtain ⟨d, hd9, e⟩ := e
    unfold fr_rw at hd
    rw [List.all_eq_true] at hd
    have h3 := hd d hd9
    rw [fr_1_iff] at e
    simp only [Bool.or_eq_true, Nat.ble_eq] at h3
    omega)
theorem fr_rw1 {α : Type} {D : List fr_R} {f g : Nat → Nat → α} (h : fr_off D f g) (a : Nat) (hd : fr_rw D a (a + 1) = true) : g a = f a := fr_row h hd (Nat.le_refl _) (Nat.lt_succ_self _)
theorem fr_bI {D : List fr_R} {f g : Nat → Nat → Int32} (h : fr_off D f g) (a n : Nat) (hd : fr_rw D a (a + n) = true) : bI g a n = bI f a n := funext fun i => funext fun j => by
  unfold bI
  by_cases q : i < n
  · rw [if_pos q, if_pos q, fr_row h hd (Nat.le_add_right a i) (by omega)]
  · rw [if_neg q, if_neg q]
theorem fr_bJ {D : List fr_R} {f g : Nat → Nat → Int64} (h : fr_off D f g) (a n : Nat) (hd : fr_rw D a (a + n) = true) : bJ g a n = bJ f a n := funext fun i => funext fun j => by
  unfold bJ
  by_cases q : i < n
  · rw [if_pos q, if_pos q, fr_row h hd (Nat.le_add_right a i) (by omega)]
  · rw [if_neg q, if_neg q]
def rl_stat (s z : Int32) : Prop := s = z
abbrev RL_stat (I : Nat → Nat → Int32) : Prop := rl_stat (I 0 0) (I 204 0)
theorem fr_stat {DI : List fr_R} {I I2 : Nat → Nat → Int32} (o : fr_off DI I I2) (hd : ((!fr_in DI 0 0) && ((!fr_in DI 204 0))) = true) (h : RL_stat I) : RL_stat I2 := by
  simp only [Bool.and_eq_true] at hd
  obtain ⟨d0, d1⟩ := hd
  unfold RL_stat
  rw [fr_at 0 0 o (by simpa using d0), fr_at 204 0 o (by simpa using d1)]
  exact h
def rl_frac (t b u c : Int64) : Prop := t = u ∧ b = c
abbrev RL_frac (J : Nat → Nat → Int64) : Prop := rl_frac (J 0 1) (J 0 2) (J 204 1) (J 204 2)
theorem fr_frac {DJ : List fr_R} {J J2 : Nat → Nat → Int64} (oj : fr_off DJ J J2) (hd : ((!fr_in DJ 0 1) && ((!fr_in DJ 0 2) && ((!fr_in DJ 204 1) && ((!fr_in DJ 204 2))))) = true) (h : RL_frac J) : RL_frac J2 := by
  simp only [Bool.and_eq_true] at hd
  obtain ⟨d0, d1, d2, d3⟩ := hd
  unfold RL_frac
  rw [fr_at 0 1 oj (by simpa using d0), fr_at 0 2 oj (by simpa using d1), fr_at 204 1 oj (by simpa using d2), fr_at 204 2 oj (by simpa using d3)]
  exact h
def rl_tray (so si zo zn : Nat → Int32) (tr : Nat → Nat → Int64) (ztr : Nat → Int64) : Prop := ∀ t, t < 4 → (so t = -1 ∧ zn t = -1) ∨ ∃ s m : Nat, s < 4 ∧ m ≤ 60 ∧ so t = nI s ∧ zo t = nI s ∧ si t = nI m ∧ zn t = nI m ∧ ∀ k, k < m → tr t k = ztr (60 * t + k)
abbrev RL_tray (I : Nat → Nat → Int32) (J : Nat → Nat → Int64) : Prop := rl_tray (I 6) (I 7) (I 205) (I 206) (bJ J 2 4) (J 207)
theorem fr_tray {DI : List fr_R} {I I2 : Nat → Nat → Int32} (o : fr_off DI I I2) {DJ : List fr_R} {J J2 : Nat → Nat → Int64} (oj : fr_off DJ J J2) (hd : (fr_rw DI 6 7 && (fr_rw DI 7 8 && (fr_rw DI 205 206 && (fr_rw DI 206 207 && (fr_rw DJ 2 6 && (fr_rw DJ 207 208)))))) = true) (h : RL_tray I J) : RL_tray I2 J2 := by
  simp only [Bool.and_eq_true] at hd
  obtain ⟨d0, d1, d2, d3, d4, d5⟩ := hd
  unfold RL_tray
  rw [fr_rw1 o 6 d0, fr_rw1 o 7 d1, fr_rw1 o 205 d2, fr_rw1 o 206 d3, fr_bJ oj 2 4 d4, fr_rw1 oj 207 d5]
  exact h
def rl_land (c z : Int32) : Prop := ∃ n : Nat, n ≤ 7 ∧ c = nI n ∧ z = nI n
abbrev RL_land (I : Nat → Nat → Int32) : Prop := rl_land (I 8 0) (I 204 6)
theorem fr_land {DI : List fr_R} {I I2 : Nat → Nat → Int32} (o : fr_off DI I I2) (hd : ((!fr_in DI 8 0) && ((!fr_in DI 204 6))) = true) (h : RL_land I) : RL_land I2 := by
  simp only [Bool.and_eq_true] at hd
  obtain ⟨d0, d1⟩ := hd
  unfold RL_land
  rw [fr_at 8 0 o (by simpa using d0), fr_at 204 6 o (by simpa using d1)]
  exact h
def rl_gold (c z : Int32) (a b d u v w : Nat → Int32) : Prop := ∃ n : Nat, n ≤ 40 ∧ c = nI n ∧ z = nI n ∧ ∀ k, k < n → a k = u k ∧ b k = v k ∧ d k = w k
abbrev RL_gold (I : Nat → Nat → Int32) : Prop := rl_gold (I 8 1) (I 204 7) (I 9) (I 10) (I 11) (I 208) (I 209) (I 210)
theorem fr_gold {DI : List fr_R} {I I2 : Nat → Nat → Int32} (o : fr_off DI I I2) (hd : ((!fr_in DI 8 1) && ((!fr_in DI 204 7) && (fr_rw DI 9 10 && (fr_rw DI 10 11 && (fr_rw DI 11 12 && (fr_rw DI 208 209 && (fr_rw DI 209 210 && (fr_rw DI 210 211)))))))) = true) (h : RL_gold I) : RL_gold I2 := by
  simp only [Bool.and_eq_true] at hd
  obtain ⟨d0, d1, d2, d3, d4, d5, d6, d7⟩ := hd
  unfold RL_gold
  rw [fr_at 8 1 o (by simpa using d0), fr_at 204 7 o (by simpa using d1), fr_rw1 o 9 d2, fr_rw1 o 10 d3, fr_rw1 o 11 d4, fr_rw1 o 208 d5, fr_rw1 o 209 d6, fr_rw1 o 210 d7]
  exact h
def rl_road (c : Int32) (dy fr : Nat → Nat → Int32) (zd zf : Nat → Int32) : Prop := ∀ a b, a < 7 → b < 7 → ∃ d f : Nat, d ≤ 60 ∧ f ≤ 10000 ∧ dy a b = nI d ∧ dy b a = nI d ∧ zd (7 * a + b) = nI d ∧ fr a b = nI f ∧ fr b a = nI f ∧ (0 < d → zf (7 * a + b) = nI f ∧ a ≠ b ∧ (a : Int) < c.toInt ∧ (b : Int) < c.toInt)
abbrev RL_road (I : Nat → Nat → Int32) : Prop := rl_road (I 8 0) (bI I 13 7) (bI I 21 7) (I 211) (I 212)
theorem fr_road {DI : List fr_R} {I I2 : Nat → Nat → Int32} (o : fr_off DI I I2) (hd : ((!fr_in DI 8 0) && (fr_rw DI 13 20 && (fr_rw DI 21 28 && (fr_rw DI 211 212 && (fr_rw DI 212 213))))) = true) (h : RL_road I) : RL_road I2 := by
  simp only [Bool.and_eq_true] at hd
  obtain ⟨d0, d1, d2, d3, d4⟩ := hd
  unfold RL_road
  rw [fr_at 8 0 o (by simpa using d0), fr_bI o 13 7 d1, fr_bI o 21 7 d2, fr_rw1 o 211 d3, fr_rw1 o 212 d4]
  exact h
def fw_0 (dy fr : Nat → Nat → Int32) (a b : Nat) : Int32 := if a = b then 0 else if 0 < dy a b then fr a b else 1000000
def fw_1 (v k : Nat) (m : Nat → Nat → Int32) : Nat → Nat → Int32 := ix_u2 m (k / 7) (k % 7) (if m (k / 7) (k % 7) ≤ m (k / 7) v + m v (k % 7) then m (k / 7) (k % 7) else m (k / 7) v + m v (k % 7))
def fw_r (v : Nat) : Nat → (Nat → Nat → Int32) → Nat → Nat → Int32
  | 0, m => m
  | k + 1, m => fw_1 v k (fw_r v k m)
def fw_v : Nat → (Nat → Nat → Int32) → Nat → Nat → Int32
  | 0, m => m
  | v + 1, m => fw_r v 49 (fw_v v m)
def rl_carr (dy fr ca : Nat → Nat → Int32) : Prop := ∀ a b, a < 7 → b < 7 → ca a b = fw_v 7 (fw_0 dy fr) a b
abbrev RL_carr (I : Nat → Nat → Int32) : Prop := rl_carr (bI I 13 7) (bI I 21 7) (bI I 29 7)
theorem fr_carr {DI : List fr_R} {I I2 : Nat → Nat → Int32} (o : fr_off DI I I2) (hd : (fr_rw DI 13 20 && (fr_rw DI 21 28 && (fr_rw DI 29 36))) = true) (h : RL_carr I) : RL_carr I2 := by
  simp only [Bool.and_eq_true] at hd
  obtain ⟨d0, d1, d2⟩ := hd
  unfold RL_carr
  rw [fr_bI o 13 7 d0, fr_bI o 21 7 d1, fr_bI o 29 7 d2]
  exact h
def rl_rate (r : Nat → Nat → Int32) (z : Nat → Int32) : Prop := ∀ a b, a < 7 → b < 7 → ∃ p : Nat, p ≤ 1000000000 ∧ r a b = nI p ∧ z (7 * a + b) = nI p
abbrev RL_rate (I : Nat → Nat → Int32) : Prop := rl_rate (bI I 37 7) (I 246)
theorem fr_rate {DI : List fr_R} {I I2 : Nat → Nat → Int32} (o : fr_off DI I I2) (hd : (fr_rw DI 37 44 && (fr_rw DI 246 247)) = true) (h : RL_rate I) : RL_rate I2 := by
  simp only [Bool.and_eq_true] at hd
  obtain ⟨d0, d1⟩ := hd
  unfold RL_rate
  rw [fr_bI o 37 7 d0, fr_rw1 o 246 d1]
  exact h
def rl_tape (c z : Int32) (t u : Nat → Int32) : Prop := ∃ n : Nat, n ≤ 600 ∧ c = nI n ∧ z = nI n ∧ ∀ k, k < n → t k = u k ∧ (t k).toInt8.toInt32 = t k
abbrev RL_tape (I : Nat → Nat → Int32) : Prop := rl_tape (I 44 1) (I 204 15) (I 45) (I 213)
theorem fr_tape {DI : List fr_R} {I I2 : Nat → Nat → Int32} (o : fr_off DI I I2) (hd : ((!fr_in DI 44 1) && ((!fr_in DI 204 15) && (fr_rw DI 45 46 && (fr_rw DI 213 214)))) = true) (h : RL_tape I) : RL_tape I2 := by
  simp only [Bool.and_eq_true] at hd
  obtain ⟨d0, d1, d2, d3⟩ := hd
  unfold RL_tape
  rw [fr_at 44 1 o (by simpa using d0), fr_at 204 15 o (by simpa using d1), fr_rw1 o 45 d2, fr_rw1 o 213 d3]
  exact h
def rl_falt (a b u v : Int32) : Prop := a = u ∧ b = v
abbrev RL_falt (I : Nat → Nat → Int32) : Prop := rl_falt (I 44 10) (I 44 11) (I 204 20) (I 204 21)
theorem fr_falt {DI : List fr_R} {I I2 : Nat → Nat → Int32} (o : fr_off DI I I2) (hd : ((!fr_in DI 44 10) && ((!fr_in DI 44 11) && ((!fr_in DI 204 20) && ((!fr_in DI 204 21))))) = true) (h : RL_falt I) : RL_falt I2 := by
  simp only [Bool.and_eq_true] at hd
  obtain ⟨d0, d1, d2, d3⟩ := hd
  unfold RL_falt
  rw [fr_at 44 10 o (by simpa using d0), fr_at 44 11 o (by simpa using d1), fr_at 204 20 o (by simpa using d2), fr_at 204 21 o (by simpa using d3)]
  exact h
def rl_resv (c z : Int32) (l t q d o zl zc zd zo : Nat → Int32) : Prop := ∃ n : Nat, n ≤ 40 ∧ c = nI n ∧ z = nI n ∧ ∀ k, k < n → l k = zl k ∧ d k = zd k ∧ o k = zo k ∧ (o k = 0 ∨ o k = 1) ∧ ∃ i j : Nat, i < 4 ∧ j < 12 ∧ t k = nI i ∧ q k = nI j ∧ zc k = nI (12 * i + j)
abbrev RL_resv (I : Nat → Nat → Int32) : Prop := rl_resv (I 51 3) (I 204 53) (I 54) (I 55) (I 56) (I 57) (I 58) (I 237) (I 238) (I 239) (I 240)
theorem fr_resv {DI : List fr_R} {I I2 : Nat → Nat → Int32} (o : fr_off DI I I2) (hd : ((!fr_in DI 51 3) && ((!fr_in DI 204 53) && (fr_rw DI 54 55 && (fr_rw DI 55 56 && (fr_rw DI 56 57 && (fr_rw DI 57 58 && (fr_rw DI 58 59 && (fr_rw DI 237 238 && (fr_rw DI 238 239 && (fr_rw DI 239 240 && (fr_rw DI 240 241))))))))))) = true) (h : RL_resv I) : RL_resv I2 := by
  simp only [Bool.and_eq_true] at hd
  obtain ⟨d0, d1, d2, d3, d4, d5, d6, d7, d8, d9, d10⟩ := hd
  unfold RL_resv
  rw [fr_at 51 3 o (by simpa using d0), fr_at 204 53 o (by simpa using d1), fr_rw1 o 54 d2, fr_rw1 o 55 d3, fr_rw1 o 56 d4, fr_rw1 o 57 d5, fr_rw1 o 58 d6, fr_rw1 o 237 d7, fr_rw1 o 238 d8, fr_rw1 o 239 d9, fr_rw1 o 240 d10]
  exact h
def sm_w (w : Nat → Int32) : Nat → Int32
  | 0 => 0
  | k + 1 => sm_w w k + w k
def rl_flow (c z ld : Int32) (f t s p tr : Nat → Int32) (kg : Nat → Nat → Int32) (zf zt zs zp zk : Nat → Int32) : Prop := ∃ n : Nat, n ≤ 8 ∧ c = nI n ∧ z = nI n ∧ ∀ k, k < n → f k = zf k ∧ t k = zt k ∧ s k = zs k ∧ p k = zp k ∧ (∃ i j s9 p9 : Nat, f k = nI i ∧ t k = nI j ∧ (i : Int) < ld.toInt ∧ (j : Int) < ld.toInt ∧ i ≠ j ∧ s k = nI s9 ∧ s9 ≤ 3 ∧ p k = nI p9 ∧ 1 ≤ p9 ∧ p9 ≤ 100) ∧ (∀ w, w < 52 → kg k w = zk (52 * k + w) ∧ ∃ q : Nat, q ≤ 10000 ∧ kg k w = nI q) ∧ tr k = sm_w (kg k) 52
abbrev RL_flow (I : Nat → Nat → Int32) : Prop := rl_flow (I 106 0) (I 204 65) (I 8 0) (I 107) (I 108) (I 109) (I 110) (I 111) (bI I 113 8) (I 247) (I 248) (I 249) (I 250) (I 251)
theorem fr_flow {DI : List fr_R} {I I2 : Nat → Nat → Int32} (o : fr_off DI I I2) (hd : ((!fr_in DI 106 0) && ((!fr_in DI 204 65) && ((!fr_in DI 8 0) && (fr_rw DI 107 108 && (fr_rw DI 108 109 && (fr_rw DI 109 110 && (fr_rw DI 110 111 && (fr_rw DI 111 112 && (fr_rw DI 113 121 && (fr_rw DI 247 248 && (fr_rw DI 248 249 && (fr_rw DI 249 250 && (fr_rw DI 250 251 && (fr_rw DI 251 252)))))))))))))) = true) (h : RL_flow I) : RL_flow I2 := by
  simp only [Bool.and_eq_true] at hd
  obtain ⟨d0, d1, d2, d3, d4, d5, d6, d7, d8, d9, d10, d11, d12, d13⟩ := hd
  unfold RL_flow
  rw [fr_at 106 0 o (by simpa using d0), fr_at 204 65 o (by simpa using d1), fr_at 8 0 o (by simpa using d2), fr_rw1 o 107 d3, fr_rw1 o 108 d4, fr_rw1 o 109 d5, fr_rw1 o 110 d6, fr_rw1 o 111 d7, fr_bI o 113 8 d8, fr_rw1 o 247 d9, fr_rw1 o 248 d10, fr_rw1 o 249 d11, fr_rw1 o 250 d12, fr_rw1 o 251 d13]
  exact h
def rl_draw (c z : Int32) (d u : Nat → Int32) : Prop := ∃ n : Nat, n ≤ 52 ∧ c = nI n ∧ z = nI n ∧ ∀ k, k < n → d k = u k ∧ ∃ w : Nat, w < 52 ∧ d k = nI w
abbrev RL_draw (I : Nat → Nat → Int32) : Prop := rl_draw (I 106 7) (I 204 66) (I 121) (I 252)
theorem fr_draw {DI : List fr_R} {I I2 : Nat → Nat → Int32} (o : fr_off DI I I2) (hd : ((!fr_in DI 106 7) && ((!fr_in DI 204 66) && (fr_rw DI 121 122 && (fr_rw DI 252 253)))) = true) (h : RL_draw I) : RL_draw I2 := by
  simp only [Bool.and_eq_true] at hd
  obtain ⟨d0, d1, d2, d3⟩ := hd
  unfold RL_draw
  rw [fr_at 106 7 o (by simpa using d0), fr_at 204 66 o (by simpa using d1), fr_rw1 o 121 d2, fr_rw1 o 252 d3]
  exact h
def rl_tell (c z : Int32) (d u : Nat → Int32) : Prop := ∃ n : Nat, n ≤ 3 ∧ c = nI n ∧ z = nI n ∧ ∀ k, k < n → d k = u k ∧ ∃ w : Nat, w < 52 ∧ d k = nI w
abbrev RL_tell (I : Nat → Nat → Int32) : Prop := rl_tell (I 106 9) (I 204 67) (I 122) (I 253)
theorem fr_tell {DI : List fr_R} {I I2 : Nat → Nat → Int32} (o : fr_off DI I I2) (hd : ((!fr_in DI 106 9) && ((!fr_in DI 204 67) && (fr_rw DI 122 123 && (fr_rw DI 253 254)))) = true) (h : RL_tell I) : RL_tell I2 := by
  simp only [Bool.and_eq_true] at hd
  obtain ⟨d0, d1, d2, d3⟩ := hd
  unfold RL_tell
  rw [fr_at 106 9 o (by simpa using d0), fr_at 204 67 o (by simpa using d1), fr_rw1 o 122 d2, fr_rw1 o 253 d3]
  exact h
def rl_acct (c z : Int32) (o : Nat → Nat → Int64) (u : Nat → Int64) : Prop := c = z ∧ (c = 0 ∨ c = 1) ∧ ∀ a b, a < 7 → b < 7 → o a b = u (7 * a + b) ∧ 0 ≤ (o a b).toInt ∧ (o a b).toInt ≤ 100000000000000
abbrev RL_acct (I : Nat → Nat → Int32) (J : Nat → Nat → Int64) : Prop := rl_acct (I 124 0) (I 204 80) (bJ J 126 7) (J 255)
theorem fr_acct {DI : List fr_R} {I I2 : Nat → Nat → Int32} (o : fr_off DI I I2) {DJ : List fr_R} {J J2 : Nat → Nat → Int64} (oj : fr_off DJ J J2) (hd : ((!fr_in DI 124 0) && ((!fr_in DI 204 80) && (fr_rw DJ 126 133 && (fr_rw DJ 255 256)))) = true) (h : RL_acct I J) : RL_acct I2 J2 := by
  simp only [Bool.and_eq_true] at hd
  obtain ⟨d0, d1, d2, d3⟩ := hd
  unfold RL_acct
  rw [fr_at 124 0 o (by simpa using d0), fr_at 204 80 o (by simpa using d1), fr_bJ oj 126 7 d2, fr_rw1 oj 255 d3]
  exact h
def rl_rule (g l s u v w : Int32) : Prop := g = u ∧ l = v ∧ s = w ∧ (0 ≤ g.toInt ∧ g.toInt ≤ 60) ∧ (1 ≤ l.toInt ∧ l.toInt ≤ 365) ∧ 0 ≤ s.toInt ∧ s.toInt ≤ 100000
abbrev RL_rule (I : Nat → Nat → Int32) : Prop := rl_rule (I 142 0) (I 142 1) (I 142 2) (I 204 84) (I 204 85) (I 204 86)
theorem fr_rule {DI : List fr_R} {I I2 : Nat → Nat → Int32} (o : fr_off DI I I2) (hd : ((!fr_in DI 142 0) && ((!fr_in DI 142 1) && ((!fr_in DI 142 2) && ((!fr_in DI 204 84) && ((!fr_in DI 204 85) && ((!fr_in DI 204 86))))))) = true) (h : RL_rule I) : RL_rule I2 := by
  simp only [Bool.and_eq_true] at hd
  obtain ⟨d0, d1, d2, d3, d4, d5⟩ := hd
  unfold RL_rule
  rw [fr_at 142 0 o (by simpa using d0), fr_at 142 1 o (by simpa using d1), fr_at 142 2 o (by simpa using d2), fr_at 204 84 o (by simpa using d3), fr_at 204 85 o (by simpa using d4), fr_at 204 86 o (by simpa using d5)]
  exact h
def rl_bags (c z ld : Int32) (w d l : Nat → Int32) (pl : Nat → Nat → Int32) (zw zl zd zp : Nat → Int32) : Prop := ∃ n : Nat, n ≤ 30 ∧ c = nI n ∧ z = nI n ∧ ∀ k, k < n → w k = zw k ∧ d k = zd k ∧ l k = zl k ∧ (∃ m q : Nat, 2 ≤ m ∧ m ≤ 5 ∧ l k = nI m ∧ d k = nI q ∧ q ≤ 9999 ∧ ∀ i, i < m → pl k i = zp (5 * k + i) ∧ ∃ e : Nat, pl k i = nI e ∧ e < 7 ∧ (e : Int) < ld.toInt) ∧ 1 ≤ (w k).toInt ∧ (w k).toInt ≤ 1000000
abbrev RL_bags (I : Nat → Nat → Int32) : Prop := rl_bags (I 142 3) (I 204 81) (I 8 0) (I 143) (I 144) (I 145) (bI I 147 30) (I 259) (I 260) (I 261) (I 262)
theorem fr_bags {DI : List fr_R} {I I2 : Nat → Nat → Int32} (o : fr_off DI I I2) (hd : ((!fr_in DI 142 3) && ((!fr_in DI 204 81) && ((!fr_in DI 8 0) && (fr_rw DI 143 144 && (fr_rw DI 144 145 && (fr_rw DI 145 146 && (fr_rw DI 147 177 && (fr_rw DI 259 260 && (fr_rw DI 260 261 && (fr_rw DI 261 262 && (fr_rw DI 262 263))))))))))) = true) (h : RL_bags I) : RL_bags I2 := by
  simp only [Bool.and_eq_true] at hd
  obtain ⟨d0, d1, d2, d3, d4, d5, d6, d7, d8, d9, d10⟩ := hd
  unfold RL_bags
  rw [fr_at 142 3 o (by simpa using d0), fr_at 204 81 o (by simpa using d1), fr_at 8 0 o (by simpa using d2), fr_rw1 o 143 d3, fr_rw1 o 144 d4, fr_rw1 o 145 d5, fr_bI o 147 30 d6, fr_rw1 o 259 d7, fr_rw1 o 260 d8, fr_rw1 o 261 d9, fr_rw1 o 262 d10]
  exact h
def rl_hand (c z la bg : Int32) (ln b p d k u v w x : Nat → Int32) : Prop := ∃ n : Nat, n ≤ 150 ∧ c = nI n ∧ z = nI n ∧ (n = 0 → la = 0) ∧ (0 < n → la = k (n - 1)) ∧ ∀ i, i < n → b i = u i ∧ p i = v i ∧ d i = w i ∧ k i = x i ∧ ∃ e q m y : Nat, b i = nI e ∧ (e : Int) < bg.toInt ∧ e < 30 ∧ p i = nI q ∧ ln e = nI m ∧ m ≤ 5 ∧ q < m ∧ d i = nI y ∧ y ≤ 9999
abbrev RL_hand (I : Nat → Nat → Int32) : Prop := rl_hand (I 142 8) (I 204 82) (I 204 83) (I 142 3) (I 145) (I 177) (I 178) (I 179) (I 180) (I 263) (I 264) (I 265) (I 266)
theorem fr_hand {DI : List fr_R} {I I2 : Nat → Nat → Int32} (o : fr_off DI I I2) (hd : ((!fr_in DI 142 8) && ((!fr_in DI 204 82) && ((!fr_in DI 204 83) && ((!fr_in DI 142 3) && (fr_rw DI 145 146 && (fr_rw DI 177 178 && (fr_rw DI 178 179 && (fr_rw DI 179 180 && (fr_rw DI 180 181 && (fr_rw DI 263 264 && (fr_rw DI 264 265 && (fr_rw DI 265 266 && (fr_rw DI 266 267))))))))))))) = true) (h : RL_hand I) : RL_hand I2 := by
  simp only [Bool.and_eq_true] at hd
  obtain ⟨d0, d1, d2, d3, d4, d5, d6, d7, d8, d9, d10, d11, d12⟩ := hd
  unfold RL_hand
  rw [fr_at 142 8 o (by simpa using d0), fr_at 204 82 o (by simpa using d1), fr_at 204 83 o (by simpa using d2), fr_at 142 3 o (by simpa using d3), fr_rw1 o 145 d4, fr_rw1 o 177 d5, fr_rw1 o 178 d6, fr_rw1 o 179 d7, fr_rw1 o 180 d8, fr_rw1 o 263 d9, fr_rw1 o 264 d10, fr_rw1 o 265 d11, fr_rw1 o 266 d12]
  exact h
def rl_book (c z : Nat → Int32) (nu da gr : Nat → Nat → Int32) (zn zd zg : Nat → Int32) : Prop := ∀ s, s < 2 → ∃ n : Nat, n ≤ 12 ∧ c s = nI n ∧ z s = nI n ∧ ∀ k, k < n → ∃ e d g : Nat, e ≤ 9999 ∧ d ≤ 9999 ∧ g ≤ 1000000 ∧ nu s k = nI e ∧ zn (12 * s + k) = nI e ∧ da s k = nI d ∧ zd (12 * s + k) = nI d ∧ gr s k = nI g ∧ zg (12 * s + k) = nI g
abbrev RL_book (I : Nat → Nat → Int32) : Prop := rl_book (I 182) (I 267) (bI I 184 2) (bI I 187 2) (bI I 190 2) (I 268) (I 269) (I 270)
theorem fr_book {DI : List fr_R} {I I2 : Nat → Nat → Int32} (o : fr_off DI I I2) (hd : (fr_rw DI 182 183 && (fr_rw DI 267 268 && (fr_rw DI 184 186 && (fr_rw DI 187 189 && (fr_rw DI 190 192 && (fr_rw DI 268 269 && (fr_rw DI 269 270 && (fr_rw DI 270 271)))))))) = true) (h : RL_book I) : RL_book I2 := by
  simp only [Bool.and_eq_true] at hd
  obtain ⟨d0, d1, d2, d3, d4, d5, d6, d7⟩ := hd
  unfold RL_book
  rw [fr_rw1 o 182 d0, fr_rw1 o 267 d1, fr_bI o 184 2 d2, fr_bI o 187 2 d3, fr_bI o 190 2 d4, fr_rw1 o 268 d5, fr_rw1 o 269 d6, fr_rw1 o 270 d7]
  exact h
def rl_figs (f : Nat → Int64) : Prop := ∀ k, k < 12 → f k = lZ (13 ^ (11 - k))
abbrev RL_figs (J : Nat → Nat → Int64) : Prop := rl_figs (J 193)
theorem fr_figs {DJ : List fr_R} {J J2 : Nat → Nat → Int64} (oj : fr_off DJ J J2) (hd : (fr_rw DJ 193 194) = true) (h : RL_figs J) : RL_figs J2 := by
  have d0 := hd
  unfold RL_figs
  rw [fr_rw1 oj 193 d0]
  exact h
def rl_case (c z : Int32) (f r u v : Nat → Int32) : Prop := ∃ n : Nat, n ≤ 20 ∧ c = nI n ∧ z = nI n ∧ ∀ k, k < n → f k = u k ∧ r k = v k ∧ (∃ q : Nat, q ≤ 999999 ∧ f k = nI q) ∧ 0 ≤ (r k).toInt ∧ (r k).toInt ≤ 9
abbrev RL_case (I : Nat → Nat → Int32) : Prop := rl_case (I 200 0) (I 204 107) (I 201) (I 202) (I 274) (I 275)
theorem fr_case {DI : List fr_R} {I I2 : Nat → Nat → Int32} (o : fr_off DI I I2) (hd : ((!fr_in DI 200 0) && ((!fr_in DI 204 107) && (fr_rw DI 201 202 && (fr_rw DI 202 203 && (fr_rw DI 274 275 && (fr_rw DI 275 276)))))) = true) (h : RL_case I) : RL_case I2 := by
  simp only [Bool.and_eq_true] at hd
  obtain ⟨d0, d1, d2, d3, d4, d5⟩ := hd
  unfold RL_case
  rw [fr_at 200 0 o (by simpa using d0), fr_at 204 107 o (by simpa using d1), fr_rw1 o 201 d2, fr_rw1 o 202 d3, fr_rw1 o 274 d4, fr_rw1 o 275 d5]
  exact h
def rl_wght (w z : Nat → Int32) : Prop := ∀ k, k < 6 → w k = z k ∧ ∃ q : Nat, q ≤ 9 ∧ w k = nI q
abbrev RL_wght (I : Nat → Nat → Int32) : Prop := rl_wght (I 203) (I 273)
theorem fr_wght {DI : List fr_R} {I I2 : Nat → Nat → Int32} (o : fr_off DI I I2) (hd : (fr_rw DI 203 204 && (fr_rw DI 273 274)) = true) (h : RL_wght I) : RL_wght I2 := by
  simp only [Bool.and_eq_true] at hd
  obtain ⟨d0, d1⟩ := hd
  unfold RL_wght
  rw [fr_rw1 o 203 d0, fr_rw1 o 273 d1]
  exact h
abbrev RL_trty (I : Nat → Nat → Int32) (J : Nat → Nat → Int64) : Prop := rl_trty (I 51 0) (I 204 24) (I 53) (I 215) (bI I 59 36) (I 216) (I 217) (I 218) (I 219) (I 220) (I 221) (I 222) (I 223) (I 225) (I 226) (I 227) (I 228) (I 229) (I 230) (I 231) (I 232) (J 233) (I 204 44) (I 204 45)
theorem fr_trty {DI : List fr_R} {I I2 : Nat → Nat → Int32} (o : fr_off DI I I2) {DJ : List fr_R} {J J2 : Nat → Nat → Int64} (oj : fr_off DJ J J2) (hd : ((!fr_in DI 51 0) && ((!fr_in DI 204 24) && (fr_rw DI 53 54 && (fr_rw DI 215 216 && (fr_rw DI 59 95 && (fr_rw DI 216 217 && (fr_rw DI 217 218 && (fr_rw DI 218 219 && (fr_rw DI 219 220 && (fr_rw DI 220 221 && (fr_rw DI 221 222 && (fr_rw DI 222 223 && (fr_rw DI 223 224 && (fr_rw DI 225 226 && (fr_rw DI 226 227 && (fr_rw DI 227 228 && (fr_rw DI 228 229 && (fr_rw DI 229 230 && (fr_rw DI 230 231 && (fr_rw DI 231 232 && (fr_rw DI 232 233 && ((!fr_in DI 204 44) && ((!fr_in DI 204 45) && (fr_rw DJ 233 234)))))))))))))))))))))))) = true) (h : RL_trty I J) : RL_trty I2 J2 := by
  simp only [Bool.and_eq_true] at hd
  obtain ⟨d0, d1, d2, d3, d4, d5, d6, d7, d8, d9, d10, d11, d12, d13, d14, d15, d16, d17, d18, d19, d20, d21, d22, d23⟩ := hd
  unfold RL_trty
  rw [fr_at 51 0 o (by simpa using d0), fr_at 204 24 o (by simpa using d1), fr_rw1 o 53 d2, fr_rw1 o 215 d3, fr_bI o 59 36 d4, fr_rw1 o 216 d5, fr_rw1 o 217 d6, fr_rw1 o 218 d7, fr_rw1 o 219 d8, fr_rw1 o 220 d9, fr_rw1 o 221 d10, fr_rw1 o 222 d11, fr_rw1 o 223 d12, fr_rw1 o 225 d13, fr_rw1 o 226 d14, fr_rw1 o 227 d15, fr_rw1 o 228 d16, fr_rw1 o 229 d17, fr_rw1 o 230 d18, fr_rw1 o 231 d19, fr_rw1 o 232 d20, fr_at 204 44 o (by simpa using d21), fr_at 204 45 o (by simpa using d22), fr_rw1 oj 233 d23]
  exact h
def RR (I : Nat → Nat → Int32) (J : Nat → Nat → Int64) : Prop := RL_stat I ∧ RL_frac J ∧ RL_tray I J ∧ RL_land I ∧ RL_gold I ∧ RL_road I ∧ RL_carr I ∧ RL_rate I ∧ RL_tape I ∧ RL_falt I ∧ RL_resv I ∧ RL_flow I ∧ RL_draw I ∧ RL_tell I ∧ RL_acct I J ∧ RL_rule I ∧ RL_bags I ∧ RL_hand I ∧ RL_book I ∧ RL_figs J ∧ RL_case I ∧ RL_wght I ∧ RL_trty I J
theorem RR.stat {I : Nat → Nat → Int32} {J : Nat → Nat → Int64} (h : RR I J) : RL_stat I := h.1
theorem RR.frac {I : Nat → Nat → Int32} {J : Nat → Nat → Int64} (h : RR I J) : RL_frac J := h.2.1
theorem RR.tray {I : Nat → Nat → Int32} {J : Nat → Nat → Int64} (h : RR I J) : RL_tray I J := h.2.2.1
theorem RR.land {I : Nat → Nat → Int32} {J : Nat → Nat → Int64} (h : RR I J) : RL_land I := h.2.2.2.1
theorem RR.gold {I : Nat → Nat → Int32} {J : Nat → Nat → Int64} (h : RR I J) : RL_gold I := h.2.2.2.2.1
theorem RR.road {I : Nat → Nat → Int32} {J : Nat → Nat → Int64} (h : RR I J) : RL_road I := h.2.2.2.2.2.1
theorem RR.carr {I : Nat → Nat → Int32} {J : Nat → Nat → Int64} (h : RR I J) : RL_carr I := h.2.2.2.2.2.2.1
theorem RR.rate {I : Nat → Nat → Int32} {J : Nat → Nat → Int64} (h : RR I J) : RL_rate I := h.2.2.2.2.2.2.2.1
theorem RR.tape {I : Nat → Nat → Int32} {J : Nat → Nat → Int64} (h : RR I J) : RL_tape I := h.2.2.2.2.2.2.2.2.1
theorem RR.falt {I : Nat → Nat → Int32} {J : Nat → Nat → Int64} (h : RR I J) : RL_falt I := h.2.2.2.2.2.2.2.2.2.1
theorem RR.resv {I : Nat → Nat → Int32} {J : Nat → Nat → Int64} (h : RR I J) : RL_resv I := h.2.2.2.2.2.2.2.2.2.2.1
theorem RR.flow {I : Nat → Nat → Int32} {J : Nat → Nat → Int64} (h : RR I J) : RL_flow I := h.2.2.2.2.2.2.2.2.2.2.2.1
theorem RR.draw {I : Nat → Nat → Int32} {J : Nat → Nat → Int64} (h : RR I J) : RL_draw I := h.2.2.2.2.2.2.2.2.2.2.2.2.1
theorem RR.tell {I : Nat → Nat → Int32} {J : Nat → Nat → Int64} (h : RR I J) : RL_tell I := h.2.2.2.2.2.2.2.2.2.2.2.2.2.1
theorem RR.acct {I : Nat → Nat → Int32} {J : Nat → Nat → Int64} (h : RR I J) : RL_acct I J := h.2.2.2.2.2.2.2.2.2.2.2.2.2.2.1
theorem RR.rule {I : Nat → Nat → Int32} {J : Nat → Nat → Int64} (h : RR I J) : RL_rule I := h.2.2.2.2.2.2.2.2.2.2.2.2.2.2.2.1
theorem RR.bags {I : Nat → Nat → Int32} {J : Nat → Nat → Int64} (h : RR I J) : RL_bags I := h.2.2.2.2.2.2.2.2.2.2.2.2.2.2.2.2.1
theorem RR.hand {I : Nat → Nat → Int32} {J : Nat → Nat → Int64} (h : RR I J) : RL_hand I := h.2.2.2.2.2.2.2.2.2.2.2.2.2.2.2.2.2.1
theorem RR.book {I : Nat → Nat → Int32} {J : Nat → Nat → Int64} (h : RR I J) : RL_book I := h.2.2.2.2.2.2.2.2.2.2.2.2.2.2.2.2.2.2.1
theorem RR.figs {I : Nat → Nat → Int32} {J : Nat → Nat → Int64} (h : RR I J) : RL_figs J := h.2.2.2.2.2.2.2.2.2.2.2.2.2.2.2.2.2.2.2.1
theorem RR.case {I : Nat → Nat → Int32} {J : Nat → Nat → Int64} (h : RR I J) : RL_case I := h.2.2.2.2.2.2.2.2.2.2.2.2.2.2.2.2.2.2.2.2.1
theorem RR.wght {I : Nat → Nat → Int32} {J : Nat → Nat → Int64} (h : RR I J) : RL_wght I := h.2.2.2.2.2.2.2.2.2.2.2.2.2.2.2.2.2.2.2.2.2.1
theorem RR.trty {I : Nat → Nat → Int32} {J : Nat → Nat → Int64} (h : RR I J) : RL_trty I J := h.2.2.2.2.2.2.2.2.2.2.2.2.2.2.2.2.2.2.2.2.2.2
