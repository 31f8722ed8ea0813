def ix_wp0 : List Nat := [2096, 2098, 2100, 2102]
theorem ix_wv0 : (List.range 4).all (fun k => ix_in (ix_wp0.getD k 0) (u_lay RX0 TX0 k)) = true := by decide +kernel
def ix_wp1 : List Nat := [2127, 2129, 2131, 2133, 2135, 2137, 2139, 2141, 2143, 2145, 2147, 2149, 2151, 2153, 2155]
theorem ix_wv1 : (List.range 15).all (fun k => ix_in (ix_wp1.getD k 0) (u_lay RX1 TX1 k)) = true := by decide +kernel
def ix_wp2 : List Nat := [2178, 2180, 2182, 2184, 2186, 2188, 2190, 2192, 2194, 2196, 2198, 2200]
theorem ix_wv2 : (List.range 12).all (fun k => ix_in (ix_wp2.getD k 0) (u_lay RX2 TX2 k)) = true := by decide +kernel
def ix_wp3 : List Nat := [2213, 2215, 2217, 2219]
theorem ix_wv3 : (List.range 4).all (fun k => ix_in (ix_wp3.getD k 0) (u_lay RX3 TX3 k)) = true := by decide +kernel
def ix_wp4 : List Nat := [2060, 2062, 2064, 2066, 2068, 2070, 2072, 2074, 2076, 2078, 2080, 2082]
theorem ix_wv4 : (List.range 12).all (fun k => ix_in (ix_wp4.getD k 0) (u_lay RX4 TX4 k)) = true := by decide +kernel
def ix_wp5 : List Nat := [1056, 1058, 1060, 1062, 1064, 1066, 1068, 1070, 1072]
theorem ix_wv5 : (List.range 9).all (fun k => ix_in (ix_wp5.getD k 0) (u_lay RX5 TX5 k)) = true := by decide +kernel
def ix_wp6 : List Nat := [1226, 1228, 1230, 1232, 1234]
theorem ix_wv6 : (List.range 5).all (fun k => ix_in (ix_wp6.getD k 0) (u_lay RX6 TX6 k)) = true := by decide +kernel
def ix_wp7 : List Nat := [1102, 1104, 1106, 1108, 1110, 1112, 1114, 1116, 1118, 1120, 1122, 1124, 1126, 1128, 1130, 1132, 1134, 1136, 1138]
theorem ix_wv7 : (List.range 19).all (fun k => ix_in (ix_wp7.getD k 0) (u_lay RX7 TX7 k)) = true := by decide +kernel
def ix_wp8 : List Nat := [1196, 1198, 1200, 1202, 1204, 1206, 1208, 1210, 1212]
theorem ix_wv8 : (List.range 9).all (fun k => ix_in (ix_wp8.getD k 0) (u_lay RX8 TX8 k)) = true := by decide +kernel
def ix_wp9 : List Nat := [1165, 1167, 1169, 1171, 1173, 1175, 1177, 1179, 1181, 1183]
theorem ix_wv9 : (List.range 10).all (fun k => ix_in (ix_wp9.getD k 0) (u_lay RX9 TX9 k)) = true := by decide +kernel
def ix_wp10 : List Nat := [2016, 2018, 2020, 2022, 2024, 2026, 2028, 2030, 2032, 2034, 2036, 2038]
theorem ix_wv10 : (List.range 12).all (fun k => ix_in (ix_wp10.getD k 0) (u_lay RX10 TX10 k)) = true := by decide +kernel
def ix_wp11 : List Nat := [2238, 3000, 3002, 3004, 3006, 3008, 3010, 3012, 3014, 3016, 3018, 3020, 3022, 3024, 3026, 3028]
theorem ix_wv11 : (List.range 16).all (fun k => ix_in (ix_wp11.getD k 0) (u_lay RX11 TX11 k)) = true := by decide +kernel
def ix_wp12 : List Nat := [7221, 7223, 7225, 7227, 7229, 7231, 7233, 7235, 7237, 7239, 8001, 8003, 8005, 8007, 8009, 8011, 8013, 8015, 8017, 8019, 8021, 8023, 8025, 8027, 8029, 8031, 8033, 8035, 8037, 8039, 8041, 8043, 8045, 8047, 8049, 8051, 8053, 8055, 8057, 8059, 8061, 8063, 8065, 8067, 8069, 8071, 8073, 8075, 8077, 8079, 8081, 8083, 8085, 8087, 8089, 8091, 8093, 8095, 8097, 8099, 8101, 8103, 8105, 8107, 8109, 8111, 8113, 8115, 8117, 8119, 8121, 8123, 8125, 8127, 8129, 8131, 8133, 8135, 8137, 8139, 8141, 8143, 8145, 8147, 8149, 8151, 8153, 8155, 8157, 8159, 8161, 8163, 8165, 8167, 8169, 8171, 8173, 8175, 8177, 8179, 8181, 8183, 8185, 8187, 8189, 8191, 8193, 8195]
theorem ix_wv12 : (List.range 108).all (fun k => ix_in (ix_wp12.getD k 0) (u_lay RX12 TX12 k)) = true := by decide +kernel
theorem ix_lay {C : String} {T : u_T} {N : Nat} {f : Nat → Nat} (h : (List.range N).all (fun k => ix_in (f k) (u_lay C T k)) = true) : ∀ w ∈ u_ws C T N, w ∈ ix_T := fun w hw => by
  obtain ⟨k, hk, rfl⟩ := List.mem_map.mp hw
  exact ix_in_T (List.all_eq_true.mp h k hk)
theorem ix_clsv : ∀ ci : Nat, ci < 13 → ix_cls[ci]? = some (ix_cn ci, ix_TT ci, ix_NN ci) := by
  intro ci hc
  match ci, hc with
  | 0, _ => exact rfl
  | 1, _ => exact rfl
  | 2, _ => exact rfl
  | 3, _ => exact rfl
  | 4, _ => exact rfl
  | 5, _ => exact rfl
  | 6, _ => exact rfl
  | 7, _ => exact rfl
  | 8, _ => exact rfl
  | 9, _ => exact rfl
  | 10, _ => exact rfl
  | 11, _ => exact rfl
  | 12, _ => exact rfl
  | n + 13, hc => exact absurd hc (by omega)
theorem ix_layv : ∀ ci : Nat, ci < 13 → ∀ w ∈ u_ws (ix_cn ci) (ix_TT ci) (ix_NN ci), w ∈ ix_T := by
  intro ci hc
  match ci, hc with
  | 0, _ => exact ix_lay ix_wv0
  | 1, _ => exact ix_lay ix_wv1
  | 2, _ => exact ix_lay ix_wv2
  | 3, _ => exact ix_lay ix_wv3
  | 4, _ => exact ix_lay ix_wv4
  | 5, _ => exact ix_lay ix_wv5
  | 6, _ => exact ix_lay ix_wv6
  | 7, _ => exact ix_lay ix_wv7
  | 8, _ => exact ix_lay ix_wv8
  | 9, _ => exact ix_lay ix_wv9
  | 10, _ => exact ix_lay ix_wv10
  | 11, _ => exact ix_lay ix_wv11
  | 12, _ => exact ix_lay ix_wv12
  | n + 13, hc => exact absurd hc (by omega)
theorem ix_tyv : ∀ ci : Nat, ci < 13 → ∀ k, k < ix_NN ci → parseFieldDescriptor ((ix_TT ci) k).2.2.1 = some (ix_tyy ci k) := by
  intro ci hc
  match ci, hc with
  | 0, _ => exact tyX0_ok
  | 1, _ => exact tyX1_ok
  | 2, _ => exact tyX2_ok
  | 3, _ => exact tyX3_ok
  | 4, _ => exact tyX4_ok
  | 5, _ => exact tyX5_ok
  | 6, _ => exact tyX6_ok
  | 7, _ => exact tyX7_ok
  | 8, _ => exact tyX8_ok
  | 9, _ => exact tyX9_ok
  | 10, _ => exact tyX10_ok
  | 11, _ => exact tyX11_ok
  | 12, _ => exact tyX12_ok
  | n + 13, hc => exact absurd hc (by omega)
theorem ix_nmv : ∀ ci : Nat, ci < 13 → ∀ a, a < ix_NN ci → ∀ b, b < ix_NN ci → a ≠ b → ((ix_TT ci) a).2.1 ≠ ((ix_TT ci) b).2.1 := by
  intro ci hc
  match ci, hc with
  | 0, _ => exact nmX0
  | 1, _ => exact nmX1
  | 2, _ => exact nmX2
  | 3, _ => exact nmX3
  | 4, _ => exact nmX4
  | 5, _ => exact nmX5
  | 6, _ => exact nmX6
  | 7, _ => exact nmX7
  | 8, _ => exact nmX8
  | 9, _ => exact nmX9
  | 10, _ => exact nmX10
  | 11, _ => exact nmX11
  | 12, _ => exact nmX12
  | n + 13, hc => exact absurd hc (by omega)
section SOUND
variable {b : ix_B} {y : ix_Y} {cc : ByteArray} {own mc ms : Nat} {ini : Bool} {sc : Option (Nat × (Nat → Int32))} {pc k n : Nat} {L : List (Option ix_V)} {st : List ix_V} {M : ix_M} {cs : List Bool} {x' : ix_X}
theorem ix_ar_i {base N a : Nat} {tg ln : Nat → Nat} {I : Nat → Nat → Int32} {J : Nat → Nat → Int64} {R : Nat → Nat → Option Nat} (h : tg a = 14 ∨ tg a = 16 ∨ tg a = 13) : ix_ar base (N, tg, ln, I, J, R) a = (ln a, .inl (I a)) := by
  rcases h with h | h | h <;> simp [ix_ar, h]
theorem ix_ar_j {base N a : Nat} {tg ln : Nat → Nat} {I : Nat → Nat → Int32} {J : Nat → Nat → Int64} {R : Nat → Nat → Option Nat} (h : tg a = 15) : ix_ar base (N, tg, ln, I, J, R) a = (ln a, .inr (.inl (J a))) := by
  simp [ix_ar, h]
theorem ix_ar_r {base N a : Nat} {tg ln : Nat → Nat} {I : Nat → Nat → Int32} {J : Nat → Nat → Int64} {R : Nat → Nat → Option Nat} (h : 17 ≤ tg a) : ix_ar base (N, tg, ln, I, J, R) a = (ln a, .inr (.inr (.inr (.inr (fun i => (R a i).map (fun k => base + k)))))) := by
  have h1 : ¬ tg a = 15 := by omega
  have h2 : ¬ tg a ≤ 16 := by omega
  simp [ix_ar, h1, h2]
theorem ix_ald_ok (F : ix_F b y cc own ini sc) (h : ix_ald 14 sc pc L st k n M = some (cs, x')) (hc : ix_all cs) (hd : decode cc pc = .ok (.iaload, 1)) (hk : ix_Pm b y x') : ix_Pm b y (pc, L, st, k, n, M) := by
  obtain ⟨hx, hb, hml, hown, hts, hK, hA, hsz, hini, hsc, hH, ho⟩ := F
  obtain ⟨N, tg, ln, I, J, R⟩ := M
  unfold ix_ald at h
  dsimp only at h
  split at h
  · cases h
    obtain ⟨h1, h2, h3⟩ := hc
    have h1 := ix_lt h1
    have h2 := ix_eq h2
    have h3 := ix_inb_ok h3
    intro H ls locs hat
    have h4 := hat.1.arr h1 h2 (by decide)
    rw [ix_ar_i (Or.inl h2)] at h4
    exact va_iald hx hb hK.1 (ix_one h4) 0 0 rfl rfl h3 hd (hk H ls locs hat)
  · split at h
    · next L' xs =>
      cases h
      intro H ls locs hat
      obtain ⟨a1, a2, a3⟩ := hsc _ _ rfl
      exact va_sld hx hb a1 a2 a3 hat.2.2.2 (ix_inb_ok hc) hd (hk H ls locs hat)
    · cases h
  · cases h
theorem ix_bald_ok (F : ix_F b y cc own ini sc) (h : ix_bald pc L st k n M = some (cs, x')) (hc : ix_all cs) (hd : decode cc pc = .ok (.baload, 1)) (hk : ix_Pm b y x') : ix_Pm b y (pc, L, st, k, n, M) := by
  obtain ⟨hx, hb, hml, hown, hts, hK, hA, hsz, hini, hsc, hH, ho⟩ := F
  obtain ⟨N, tg, ln, I, J, R⟩ := M
  unfold ix_bald at h
  dsimp only at h
  split at h
  · cases h
    obtain ⟨h1, h2, h3⟩ := hc
    have h1 := ix_lt h1
    have h3 := ix_inb_ok h3
    rw [Bool.or_eq_true] at h2
    intro H ls locs hat
    rcases h2 with h2 | h2
    · have h2 := ix_eq h2
      have h4 := hat.1.arr h1 h2 (by decide)
      rw [ix_ar_i (Or.inr (Or.inr h2))] at h4
      exact va_bald hx hb hK.1 (ix_one h4) 0 6 rfl rfl h3 hd (hk H ls locs hat)
    · have h2 := ix_eq h2
      have h4 := hat.1.arr h1 h2 (by decide)
      rw [ix_ar_i (Or.inr (Or.inl h2))] at h4
      exact va_zald hx hb hK.1 (ix_one h4) 0 2 rfl rfl h3 hd (hk H ls locs hat)
  · next i q r =>
    cases h
    obtain ⟨h1, h2, h3⟩ := hc
    have h1 : 5 ≤ q := ix_le h1
    have h2 : q ≤ 8 := ix_le h2
    have h3 := ix_inb_ok h3
    intro H ls locs hat
    have h4 := (hH.2.1.1 (q - 5) (by omega)).2.2.2
    have h5 := hat.2.2.2
    rw [hH.1] at h5
    dsimp only at h4
    rw [show 5 + (q - 5) = q by omega] at h4
    exact va_tb hx hb h4 h5 h3 rfl hd (hk H ls locs hat)
  · cases h
theorem ix_lald_ok (F : ix_F b y cc own ini sc) (h : ix_lald pc L st k n M = some (cs, x')) (hc : ix_all cs) (hd : decode cc pc = .ok (.laload, 1)) (hk : ix_Pm b y x') : ix_Pm b y (pc, L, st, k, n, M) := by
  obtain ⟨hx, hb, hml, hown, hts, hK, hA, hsz, hini, hsc, hH, ho⟩ := F
  obtain ⟨N, tg, ln, I, J, R⟩ := M
  unfold ix_lald at h
  dsimp only at h
  split at h
  · cases h
    obtain ⟨h1, h2, h3⟩ := hc
    have h1 := ix_lt h1
    have h2 := ix_eq h2
    have h3 := ix_inb_ok h3
    intro H ls locs hat
    have h4 := hat.1.arr h1 h2 (by decide)
    rw [ix_ar_j h2] at h4
    exact va_lald hx hb hK.1 (ix_one h4) 0 1 rfl rfl h3 hd (hk H ls locs hat)
  · cases h
theorem ix_aald_ok (F : ix_F b y cc own ini sc) (h : ix_aald pc L st k n M = some (cs, x')) (hc : ix_all cs) (hd : decode cc pc = .ok (.aaload, 1)) (hk : ix_Pm b y x') : ix_Pm b y (pc, L, st, k, n, M) := by
  obtain ⟨hx, hb, hml, hown, hts, hK, hA, hsz, hini, hsc, hH, ho⟩ := F
  obtain ⟨N, tg, ln, I, J, R⟩ := M
  unfold ix_aald at h
  dsimp only at h
  split at h
  · next i a r =>
    cases h
    obtain ⟨h1, h2, h3, h4, h5⟩ := hc
    have h1 := ix_lt h1
    have h2 := ix_le h2
    have h3 := ix_le h3
    have h4 := ix_inb_ok h4
    intro H ls locs hat
    have hlt : i.toNatClampNeg < ln a := Nat.not_le.mp fun q => h4 (Or.inr q)
    have h6 := hat.1.arr h1 rfl (show ¬ tg a < 13 by omega)
    rw [ix_ar_r h2] at h6
    obtain ⟨q, hq⟩ := Option.isSome_iff_exists.mp h5
    have hk2 := hk H ls locs hat
    rw [hq] at hk2
    have hty : ∃ (t0 : Nat) (ty : FieldType), (ix_tys y.2.1)[t0]? = some (y.2.1 (tg a), ty) ∧ ty.isReference = true := by
      rcases (show tg a = 17 ∨ tg a = 18 ∨ tg a = 19 by omega) with e | e | e <;> rw [e]
      · exact ⟨3, _, rfl, rfl⟩
      · exact ⟨4, _, rfl, rfl⟩
      · exact ⟨5, _, rfl, rfl⟩
    obtain ⟨t0, ty, ht0, hr⟩ := hty
    refine W.aald (v := va_rf ((R a i.toNatClampNeg).map (fun k => y.2.2.1 + k))) (ty := ty) hx hb h6 ((hK.1.2 t0 _ ht0).1 (ln a) (fun j => va_rf ((R a j).map (fun k => y.2.2.1 + k)))) hr (fun q => by cases q) (by show ¬ (i < 0 ∨ (arrV _ _ _).slots.size ≤ _); rw [arrV_size]; exact h4) (by show (arrV _ _ _).slots[_]? = _; rw [arrV_read _ _ hlt]) rfl rfl hd ?_
    rw [hq]
    exact hk2
  · cases h
theorem ix_alen_ok (F : ix_F b y cc own ini sc) (h : ix_alen sc pc L st k n M = some (cs, x')) (hc : ix_all cs) (hd : decode cc pc = .ok (.arraylength, 1)) (hk : ix_Pm b y x') : ix_Pm b y (pc, L, st, k, n, M) := by
  obtain ⟨hx, hb, hml, hown, hts, hK, hA, hsz, hini, hsc, hH, ho⟩ := F
  obtain ⟨N, tg, ln, I, J, R⟩ := M
  unfold ix_alen at h
  dsimp only at h
  split at h
  · next a r =>
    cases h
    obtain ⟨h1, h2, h3⟩ := hc
    have h1 := ix_lt h1
    have h2 := ix_le h2
    have h3 := ix_le h3
    intro H ls locs hat
    have h3 : tg a ≤ 19 := h3
    have h4 := hat.1.arr h1 rfl (show ¬ tg a < 13 by omega)
    have hty : ∃ (t0 : Nat) (ty : FieldType), (ix_tys y.2.1)[t0]? = some (y.2.1 (tg a), ty) := by
      rcases (show tg a = 14 ∨ tg a = 15 ∨ tg a = 16 ∨ tg a = 17 ∨ tg a = 18 ∨ tg a = 19 ∨ tg a = 13 by omega) with e | e | e | e | e | e | e <;> rw [e]
      · exact ⟨0, _, rfl⟩
      · exact ⟨1, _, rfl⟩
      · exact ⟨2, _, rfl⟩
      · exact ⟨3, _, rfl⟩
      · exact ⟨4, _, rfl⟩
      · exact ⟨5, _, rfl⟩
      · exact ⟨6, _, rfl⟩
    obtain ⟨t0, ty, ht0⟩ := hty
    exact va_alen hx hb hK.1 (ix_one h4) 0 t0 rfl ht0 rfl hd (hk H ls locs hat)
  · split at h
    · next L' xs =>
      cases h
      intro H ls locs hat
      obtain ⟨a1, a2, a3⟩ := hsc _ _ rfl
      exact va_slen hx hb a1 a2 a3 hat.2.2.2 hd (hk H ls locs hat)
    · cases h
  · next q r =>
    cases h
    obtain ⟨h1, h2⟩ := hc
    have h1 : 4 ≤ q := ix_le h1
    have h2 : q ≤ 7 := ix_le h2
    intro H ls locs hat
    have h4 := (hH.2.1.1 (q - 4) (by omega)).2.2.2
    have h5 := hat.2.2.2
    rw [hH.1] at h5
    dsimp only at h4
    rw [show 5 + (q - 4) = q + 1 by omega] at h4
    exact va_tlen hx hb h4 h5 rfl hd (hk H ls locs hat)
  · cases h
/-- the cells behind a write of one -/
theorem ix_E_other {cy : Nat → ClassId} {base N a : Nat} {tg ln : Nat → Nat} {I I' : Nat → Nat → Int32} {J J' : Nat → Nat → Int64} {R R' : Nat → Nat → Option Nat} (hI : ∀ b, b ≠ a → I' b = I b) (hJ : ∀ b, b ≠ a → J' b = J b) (hR : ∀ b, b ≠ a → R' b = R b) : ∀ b, b ≠ a → ix_E cy base (N, tg, ln, I', J', R') b = ix_E cy base (N, tg, ln, I, J, R) b := by
  intro b hb
  have e1 : ∀ ci j, ix_fv base (N, tg, ln, I', J', R') b ci j = ix_fv base (N, tg, ln, I, J, R) b ci j := fun ci j => by simp only [ix_fv, hI b hb, hJ b hb, hR b hb]
  have e2 : ix_ar base (N, tg, ln, I', J', R') b = ix_ar base (N, tg, ln, I, J, R) b := by simp only [ix_ar, hI b hb, hJ b hb, hR b hb]
  simp only [ix_E, e2]
  have e3 : ix_fv base (N, tg, ln, I', J', R') b (tg b) = ix_fv base (N, tg, ln, I, J, R) b (tg b) := funext (e1 _)
  rw [e3]
theorem ix_u2_ne {α : Type} {f : Nat → Nat → α} {a j : Nat} {v : α} : ∀ b, b ≠ a → ix_u2 f a j v b = f b := fun b hb => funext fun q => by simp [ix_u2, hb]
theorem ix_u2_eq {α : Type} {f : Nat → Nat → α} {a j : Nat} {v : α} : ix_u2 f a j v a = fun q => if q = j then v else f a q := funext fun q => by simp [ix_u2]
theorem ix_ast_ok (F : ix_F b y cc own ini sc) (h : ix_ast pc L st k n M = some (cs, x')) (hc : ix_all cs) (hd : decode cc pc = .ok (.iastore, 1)) (hk : ix_Pm b y x') : ix_Pm b y (pc, L, st, k, n, M) := by
  obtain ⟨hx, hb, hml, hown, hts, hK, hA, hsz, hini, hsc, hH, ho⟩ := F
  obtain ⟨N, tg, ln, I, J, R⟩ := M
  unfold ix_ast at h
  dsimp only at h
  split at h
  · next v i a r =>
    cases h
    obtain ⟨h1, h2, h3⟩ := hc
    have h1 := ix_lt h1
    have h2 := ix_eq h2
    have h3 := ix_inb_ok h3
    intro H ls locs hat
    have h4 := hat.1.arr h1 h2 (by decide)
    rw [ix_ar_i (Or.inl h2)] at h4
    refine W.iast hx hb h4 ((hK.1.2 0 _ rfl).1 (ln a) (fun j => .int (I a j))) (fun q => by cases q) (by show ¬ (i < 0 ∨ (arrV _ _ _).slots.size ≤ _); rw [arrV_size]; exact h3) rfl rfl hd fun H1 e z oq => ?_
    refine hk H1 ls _ ⟨hat.1.put (a := a) rfl z oq (fun _ => ?_) (ix_E_other ix_u2_ne (fun _ _ => rfl) (fun _ _ => rfl)), hat.2.1, hat.2.2.1, hat.2.2.2.put z oq (hA _ (Nat.le_add_right _ _))⟩
    unfold ix_E
    rw [if_neg (show ¬ (tg a < 13) by omega), ix_ar_i (Or.inl h2), ix_u2_eq]
    show H1[_]? = some (vp_cell _ _)
    rw [e]
    show some ((vp_cell _ _).setSlot _ _) = _
    rw [vp_cell_i, vp_cell_i, arrV_store]
    show _ = some (arrV (y.2.1 (tg a)) _ _)
    rw [h2]
    congr 2
    funext q
    by_cases hq : q = i.toNatClampNeg
    · subst hq
      simp [updV]
    · simp [updV, hq]
  · cases h
theorem ix_b01 {v : Int32} (h : v = 0 ∨ v = 1) : narrow .boolean (.int v) = .int v := by rcases h with rfl | rfl <;> rfl
theorem ix_narb (v : Int32) : narrow .byte (.int v) = .int v.toInt8.toInt32 := rfl
theorem ix_zast_ok (F : ix_F b y cc own ini sc) (h : ix_zast pc L st k n M = some (cs, x')) (hc : ix_all cs) (hd : decode cc pc = .ok (.bastore, 1)) (hk : ix_Pm b y x') : ix_Pm b y (pc, L, st, k, n, M) := by
  obtain ⟨hx, hb, hml, hown, hts, hK, hA, hsz, hini, hsc, hH, ho⟩ := F
  obtain ⟨N, tg, ln, I, J, R⟩ := M
  unfold ix_zast at h
  dsimp only at h
  split at h
  · next v i a r =>
    cases h
    obtain ⟨h1, h2, h3⟩ := hc
    have h1 := ix_lt h1
    have h3 := ix_inb_ok h3
    rw [Bool.or_eq_true, Bool.and_eq_true] at h2
    intro H ls locs hat
    rcases h2 with h2 | ⟨h2, h5⟩
    · have h2 := ix_eq h2
      have h4 := hat.1.arr h1 h2 (by decide)
      rw [ix_ar_i (Or.inr (Or.inr h2))] at h4
      refine W.bast hx hb h4 ((hK.1.2 6 _ rfl).1 (ln a) (fun j => .int (I a j))) (fun q => by cases q) (by show ¬ (i < 0 ∨ (arrV _ _ _).slots.size ≤ _); rw [arrV_size]; exact h3) rfl rfl hd fun H1 e z oq => ?_
      refine hk H1 ls _ ⟨hat.1.put (a := a) rfl z oq (fun _ => ?_) (ix_E_other ix_u2_ne (fun _ _ => rfl) (fun _ _ => rfl)), hat.2.1, hat.2.2.1, hat.2.2.2.put z oq (hA _ (Nat.le_add_right _ _))⟩
      unfold ix_E
      rw [if_neg (show ¬ (tg a < 13) by omega), ix_ar_i (Or.inr (Or.inr h2)), ix_u2_eq]
      show H1[_]? = some (vp_cell _ _)
      rw [e]
      show some ((vp_cell _ _).setSlot _ _) = _
      rw [vp_cell_i, vp_cell_i, arrV_store]
      show _ = some (arrV (y.2.1 (tg a)) _ _)
      rw [h2]
      congr 2
      funext q
      by_cases hq : q = i.toNatClampNeg
      · subst hq
        simp [updV, ix_nb, ix_narb]
      · simp [updV, hq]
    · have h2 := ix_eq h2
      have h5 := ix_01_ok h5
      have h4 := hat.1.arr h1 h2 (by decide)
      rw [ix_ar_i (Or.inr (Or.inl h2))] at h4
      refine W.zast hx hb h4 ((hK.1.2 2 _ rfl).1 (ln a) (fun j => .int (I a j))) (fun q => by cases q) (by show ¬ (i < 0 ∨ (arrV _ _ _).slots.size ≤ _); rw [arrV_size]; exact h3) rfl rfl hd fun H1 e z oq => ?_
      refine hk H1 ls _ ⟨hat.1.put (a := a) rfl z oq (fun _ => ?_) (ix_E_other ix_u2_ne (fun _ _ => rfl) (fun _ _ => rfl)), hat.2.1, hat.2.2.1, hat.2.2.2.put z oq (hA _ (Nat.le_add_right _ _))⟩
      unfold ix_E
      rw [if_neg (show ¬ (tg a < 13) by omega), ix_ar_i (Or.inr (Or.inl h2)), ix_u2_eq]
      show H1[_]? = some (vp_cell _ _)
      rw [e, ix_b01 h5]
      show some ((vp_cell _ _).setSlot _ _) = _
      rw [vp_cell_i, vp_cell_i, arrV_store]
      show _ = some (arrV (y.2.1 (tg a)) _ _)
      rw [h2]
      congr 2
      funext q
      by_cases hq : q = i.toNatClampNeg
      · subst hq
        simp [updV, ix_nb, ix_narb]
      · simp [updV, hq]
  · cases h
theorem ix_last_ok (F : ix_F b y cc own ini sc) (h : ix_last pc L st k n M = some (cs, x')) (hc : ix_all cs) (hd : decode cc pc = .ok (.lastore, 1)) (hk : ix_Pm b y x') : ix_Pm b y (pc, L, st, k, n, M) := by
  obtain ⟨hx, hb, hml, hown, hts, hK, hA, hsz, hini, hsc, hH, ho⟩ := F
  obtain ⟨N, tg, ln, I, J, R⟩ := M
  unfold ix_last at h
  dsimp only at h
  split at h
  · next v i a r =>
    cases h
    obtain ⟨h1, h2, h3⟩ := hc
    have h1 := ix_lt h1
    have h2 := ix_eq h2
    have h3 := ix_inb_ok h3
    intro H ls locs hat
    have h4 := hat.1.arr h1 h2 (by decide)
    rw [ix_ar_j h2] at h4
    refine W.last hx hb h4 ((hK.1.2 1 _ rfl).1 (ln a) (fun j => .long (J a j))) (fun q => by cases q) (by show ¬ (i < 0 ∨ (arrV _ _ _).slots.size ≤ _); rw [arrV_size]; exact h3) rfl rfl hd fun H1 e z oq => ?_
    refine hk H1 ls _ ⟨hat.1.put (a := a) rfl z oq (fun _ => ?_) (ix_E_other (fun _ _ => rfl) ix_u2_ne (fun _ _ => rfl)), hat.2.1, hat.2.2.1, hat.2.2.2.put z oq (hA _ (Nat.le_add_right _ _))⟩
    unfold ix_E
    rw [if_neg (show ¬ (tg a < 13) by omega), ix_ar_j h2, ix_u2_eq]
    show H1[_]? = some (vp_cell _ _)
    rw [e]
    show some ((vp_cell _ _).setSlot _ _) = _
    rw [vp_cell_l, vp_cell_l, arrV_store]
    show _ = some (arrV (y.2.1 (tg a)) _ _)
    rw [h2]
    congr 2
    funext q
    by_cases hq : q = i.toNatClampNeg
    · subst hq
      simp [updV]
    · simp [updV, hq]
  · cases h
theorem ix_lk_all {α : Type} {l : List (Nat × α)} {p : Nat × α → Bool} {o i : Nat} {v : α} (ho : o < 17) (h : l.all p = true ∨ 17 ≤ o) (hv : ix_lk l i = some v) : p (i, v) = true := by
  rcases h with h | h
  · exact List.all_eq_true.mp h _ (ix_lk_mem hv)
  · omega
theorem ix_fvk {base N a ci j : Nat} {tg ln : Nat → Nat} {I : Nat → Nat → Int32} {J : Nat → Nat → Int64} {R : Nat → Nat → Option Nat} : ix_fv base (N, tg, ln, I, J, R) a ci j = (match ix_isK (ix_tyy ci j) with
    | 1 => .long (J a j)
    | 2 => va_rf ((R a j).map (fun k => base + k))
    | _ => .int (I a j)) := rfl
theorem ix_get_ok {idx : Nat} {q : Nat × Nat × Nat × Bool × Nat} (F : ix_F b y cc own ini sc) (hq : ix_lk (ix_fl own) idx = some q) (h : ix_get q pc L st k n M = some (cs, x')) (hc : ix_all cs) (hd : decode cc pc = .ok (.getfield idx, 3)) (hk : ix_Pm b y x') : ix_Pm b y (pc, L, st, k, n, M) := by
  obtain ⟨hx, hb, hml, hown, hts, hK, hA, hsz, hini, hsc, hH, ho⟩ := F
  have hfl := ix_lk_all ho (ix_flv own) hq
  obtain ⟨N, tg, ln, I, J, R⟩ := M
  obtain ⟨ci, sl, kd, fin, p9⟩ := q
  simp only [ix_flok, Bool.and_eq_true, decide_eq_true_eq] at hfl
  obtain ⟨f1, f2, f3, f4, f5, f6⟩ := hfl
  unfold ix_get at h
  dsimp only at h
  have key : ∀ (a : Nat) (r : List ix_V) (v : Value), a < N → tg a = ci → ix_fv y.2.2.1 (N, tg, ln, I, J, R) a ci sl = v → (∀ (H : Heap) (ls : Array Slot) (locs : List Loc), ix_at y L (N, tg, ln, I, J, R) H ls locs → ix_w b H locs k n (F0 (ix_mi b) (pc + 3) ls (v :: r.map (ix_yg y)))) → ix_Pm b y (pc, L, .inr (.inr (.inl (some a))) :: r, k, n, (N, tg, ln, I, J, R)) := by
    intro a r v h1 h2 hv hw H ls locs hat
    have h4 := hat.1.obj h1 h2 f3
    refine va_get hx hb hts (ix_layv ci f3) hown hK.1 (ix_one h4) 0 rfl (ix_clsv ci f3) sl f4 (hts _ (ix_in_T f1)) (fun x h9 => by rw [f2] at h9; exact h9) ?_ hd (hw H ls locs hat)
    rw [List.getElem?_map, List.getElem?_range f4]
    exact congrArg some hv
  split at h
  · next a r =>
    split at h
    · cases h
      obtain ⟨h1, h2⟩ := hc
      have h1 := ix_lt h1
      have h2 := ix_eq h2
      exact key a r _ h1 h2 (by rw [ix_fvk, f5]; rfl) hk
    · cases h
      obtain ⟨h1, h2⟩ := hc
      have h1 := ix_lt h1
      have h2 := ix_eq h2
      exact key a r _ h1 h2 (by rw [ix_fvk, f5]; rfl) hk
    · next g1 g2 =>
      cases h
      obtain ⟨h1, h2⟩ := hc
      have h1 := ix_lt h1
      have h2 := ix_eq h2
      refine key a r _ h1 h2 ?_ hk
      rw [ix_fvk, f5]
      split
      · exact absurd rfl g1
      · exact absurd rfl g2
      · rfl
  · cases h
theorem ix_getS_ok {idx : Nat} {q : Nat × Nat} (F : ix_F b y cc own ini sc) (hq : ix_lk (ix_sf own) idx = some q) (h : ix_getS q pc L st k n M = some (cs, x')) (hc : ix_all cs) (hd : decode cc pc = .ok (.getfield idx, 3)) (hk : ix_Pm b y x') : ix_Pm b y (pc, L, st, k, n, M) := by
  obtain ⟨hx, hb, hml, hown, hts, hK, hA, hsz, hini, hsc, hH, ho⟩ := F
  have hfl := ix_lk_all ho (ix_sfv own) hq
  unfold ix_getS at h
  split at h
  · next j r =>
    split at h
    · next p9 =>
      cases h
      obtain ⟨h1, h2⟩ := hc
      have h1 : 1 ≤ j := ix_le h1
      have h2 : j ≤ 4 := ix_le h2
      intro H ls locs hat
      have h4 := (hH.2.1.1 (j - 1) (by omega)).2.2.1
      have h5 := hat.2.2.2
      rw [hH.1] at h5
      dsimp only at h4
      rw [show 1 + (j - 1) = j by omega, show 5 + (j - 1) = j + 4 by omega] at h4
      exact vk_getf hx hb h4 h5 hown (hts _ (ix_in_T hfl)) (fun x h => h) hd (hk H ls locs hat)
    · next p9 =>
      cases h
      obtain ⟨h1, h2⟩ := hc
      have h1 : 1 ≤ j := ix_le h1
      have h2 : j ≤ 4 := ix_le h2
      intro H ls locs hat
      have h4 := (hH.2.1.1 (j - 1) (by omega)).2.1
      have h5 := hat.2.2.2
      rw [hH.1] at h5
      dsimp only at h4
      rw [show 1 + (j - 1) = j by omega] at h4
      exact vk_getf hx hb h4 h5 hown (hts _ (ix_in_T hfl)) (fun x h => h) hd (hk H ls locs hat)
    · cases h
  · cases h
theorem ix_ldcs_ok {idx j p9 : Nat} (F : ix_F b y cc own ini sc) (hq : ix_lk (ix_sk own) idx = some (j, p9)) (hd : decode cc pc = .ok (.ldc idx, 2)) (hk : ix_Pm b y (pc + 2, L, .inr (.inr (.inr (1 + j))) :: st, k, n, M)) : ix_Pm b y (pc, L, st, k, n, M) := by
  obtain ⟨hx, hb, hml, hown, hts, hK, hA, hsz, hini, hsc, hH, ho⟩ := F
  obtain ⟨-, ⟨r1, r2, r3, r4⟩, -⟩ := hH.2
  intro H ls locs hat
  have hkk := hk H ls locs hat
  have hm := ix_lk_mem hq
  unfold ix_sk at hm
  split at hm
  · simp only [List.mem_cons, Prod.mk.injEq, List.not_mem_nil, or_false] at hm
    rcases hm with ⟨rfl, rfl, rfl⟩ | ⟨rfl, rfl, rfl⟩
    · exact va_ldcS hx hb hown r1 hd hkk
    · exact va_ldcS hx hb hown r2 hd hkk
  · simp only [List.mem_cons, Prod.mk.injEq, List.not_mem_nil, or_false] at hm
    rcases hm with ⟨rfl, rfl, rfl⟩ | ⟨rfl, rfl, rfl⟩
    · exact va_ldcS hx hb hown r3 hd hkk
    · exact va_ldcS hx hb hown r4 hd hkk
  · cases hm
theorem ix_ldcSW {H : Heap} {locs : List Loc} {ls : Array Slot} {rest : List Value} (hexec : b.1.tables.exec = Jvm.exec) (hb : (ix_co b).code = cc) {own tx : String} {index q : Nat} (hown : (ix_s b).vm.findClass own = some (ix_mi b).cls) (hZ : vk_R own index tx q (ix_s b)) (hdg : decode cc pc = .ok (.ldc_w index, 3)) (kk : ix_w b H locs k n (F0 (ix_mi b) (pc + 3) ls (.ref q :: rest))) : ix_w b H locs k n (F0 (ix_mi b) pc ls rest) := by
  intro T hT X
  obtain ⟨t, a1, b1⟩ := kk T hT X
  exact ⟨t, X.ldcStringW hexec hown (text := tx) (a := q) hZ.1 hZ.2 (g := F0 (ix_mi b) pc ls rest) rfl (by rw [hb]; exact hdg) t a1, b1⟩
theorem ix_ldcw_ok {idx j p9 : Nat} (F : ix_F b y cc own ini sc) (hq : ix_lk (ix_sk own) idx = some (j, p9)) (hd : decode cc pc = .ok (.ldc_w idx, 3)) (hk : ix_Pm b y (pc + 3, L, .inr (.inr (.inr (1 + j))) :: st, k, n, M)) : ix_Pm b y (pc, L, st, k, n, M) := by
  obtain ⟨hx, hb, hml, hown, hts, hK, hA, hsz, hini, hsc, hH, ho⟩ := F
  obtain ⟨-, ⟨r1, r2, r3, r4⟩, -⟩ := hH.2
  intro H ls locs hat
  have hkk := hk H ls locs hat
  have hm := ix_lk_mem hq
  unfold ix_sk at hm
  split at hm
  · simp only [List.mem_cons, Prod.mk.injEq, List.not_mem_nil, or_false] at hm
    rcases hm with ⟨rfl, rfl, rfl⟩ | ⟨rfl, rfl, rfl⟩
    · exact ix_ldcSW hx hb hown r1 hd hkk
    · exact ix_ldcSW hx hb hown r2 hd hkk
  · simp only [List.mem_cons, Prod.mk.injEq, List.not_mem_nil, or_false] at hm
    rcases hm with ⟨rfl, rfl, rfl⟩ | ⟨rfl, rfl, rfl⟩
    · exact ix_ldcSW hx hb hown r3 hd hkk
    · exact ix_ldcSW hx hb hown r4 hd hkk
  · cases hm
theorem ix_gets_ok {idx p9 : Nat} (F : ix_F b y cc own ini sc) (hq : ix_lk (ix_sg own) idx = some p9) (hd : decode cc pc = .ok (.getstatic idx, 3)) (hk : ix_Pm b y (pc + 3, L, .inl 1 :: st, k, n, M)) : ix_Pm b y (pc, L, st, k, n, M) := by
  obtain ⟨hx, hb, hml, hown, hts, hK, hA, hsz, hini, hsc, hH, ho⟩ := F
  have hfl := ix_lk_all ho (ix_sgv own) hq
  intro H ls locs hat
  have h5 := hat.2.2.2
  rw [hH.1] at h5
  exact va_gets hx hb hH.2.2.2.1 h5 hown (hts _ (ix_in_T hfl)) (fun x h => h) hd (hk H ls locs hat)
end SOUND
