def ix_T : List Cond := lw_tbl.filter goodWord
def ix_tab (j : Nat) : List Cond := match j with
  | 0 => k2_sels lw_privs
  | 1 => tables_1_1
  | 2 => tables_1_2
  | 3 => tables_1_3
  | 4 => tables_1_4
  | 5 => tables_1_5
  | 6 => tables_1_6
  | 7 => tables_1_7
  | 8 => tables_1_8
  | 9 => tables_1_9
  | 10 => tables_1_10
  | _ => []
theorem ix_tab_in {j : Nat} {w : Cond} (h : w ∈ ix_tab j) : w ∈ lw_tbl := by
  unfold ix_tab at h
  unfold lw_tbl tables_1
  simp only [List.mem_append]
  split at h
  · exact Or.inl h
  · exact Or.inr (Or.inl h)
  · exact Or.inr (Or.inr (Or.inl h))
  · exact Or.inr (Or.inr (Or.inr (Or.inl h)))
  · exact Or.inr (Or.inr (Or.inr (Or.inr (Or.inl h))))
  · exact Or.inr (Or.inr (Or.inr (Or.inr (Or.inr (Or.inl h)))))
  · exact Or.inr (Or.inr (Or.inr (Or.inr (Or.inr (Or.inr (Or.inl h))))))
  · exact Or.inr (Or.inr (Or.inr (Or.inr (Or.inr (Or.inr (Or.inr (Or.inl h)))))))
  · exact Or.inr (Or.inr (Or.inr (Or.inr (Or.inr (Or.inr (Or.inr (Or.inr (Or.inl h))))))))
  · exact Or.inr (Or.inr (Or.inr (Or.inr (Or.inr (Or.inr (Or.inr (Or.inr (Or.inr (Or.inl h)))))))))
  · exact Or.inr (Or.inr (Or.inr (Or.inr (Or.inr (Or.inr (Or.inr (Or.inr (Or.inr (Or.inr h)))))))))
  · cases h
def ix_in0 (p : Nat) (w : Cond) : Bool := decide ((ix_tab (p / 1000))[p % 1000]? = some w)
theorem ix_in0_T {p : Nat} {w : Cond} (h : ix_in0 p w = true) : w ∈ lw_tbl := ix_tab_in (List.mem_of_getElem? (of_decide_eq_true h))
def ix_in (p : Nat) (w : Cond) : Bool := ix_in0 p w && goodWord w
theorem ix_in_T {p : Nat} {w : Cond} (h : ix_in p w = true) : w ∈ ix_T := by
  unfold ix_in at h
  rw [Bool.and_eq_true] at h
  exact List.mem_filter.mpr ⟨ix_in0_T h.1, h.2⟩
theorem ix_T_good : GoodIn ix_T ix_T := fun w h => ⟨h, good_of_word (List.mem_filter.mp h).2⟩
def ix_flok (o : Nat) (q : Nat × Nat × Nat × Nat × Bool × Nat) : Bool := match q with
  | (i, ci, sl, kd, fin, p) => ix_in p (.fieldLink (ix_cn o) i (ix_cn ci) ((ix_TT ci) sl).2.1 ((ix_TT ci) sl).2.2.1) && (decide (((ix_TT ci) sl).1 = ix_cn ci) && (decide (ci < 13) && (decide (sl < ix_NN ci) && (decide (ix_isK (ix_tyy ci sl) = kd) && decide (((ix_TT ci) sl).2.2.2 = fin)))))
theorem ix_flv0 : (ix_fl 0).all (ix_flok 0) = true := by decide +kernel
theorem ix_flv1 : (ix_fl 1).all (ix_flok 1) = true := by decide +kernel
theorem ix_flv2 : (ix_fl 2).all (ix_flok 2) = true := by decide +kernel
theorem ix_flv3 : (ix_fl 3).all (ix_flok 3) = true := by decide +kernel
theorem ix_flv4 : (ix_fl 4).all (ix_flok 4) = true := by decide +kernel
theorem ix_flv5 : (ix_fl 5).all (ix_flok 5) = true := by decide +kernel
theorem ix_flv6 : (ix_fl 6).all (ix_flok 6) = true := by decide +kernel
theorem ix_flv7 : (ix_fl 7).all (ix_flok 7) = true := by decide +kernel
theorem ix_flv8 : (ix_fl 8).all (ix_flok 8) = true := by decide +kernel
theorem ix_flv9 : (ix_fl 9).all (ix_flok 9) = true := by decide +kernel
theorem ix_flv10 : (ix_fl 10).all (ix_flok 10) = true := by decide +kernel
theorem ix_flv11 : (ix_fl 11).all (ix_flok 11) = true := by decide +kernel
theorem ix_flv12 : (ix_fl 12).all (ix_flok 12) = true := by decide +kernel
theorem ix_flv13 : (ix_fl 13).all (ix_flok 13) = true := by decide +kernel
theorem ix_flv14 : (ix_fl 14).all (ix_flok 14) = true := by decide +kernel
def ix_nw : List (Nat × Nat × MethodName) := [(11, 27, yX5_init), (11, 34, yX7_init), (11, 41, yX8_init), (8, 37, yX9_init), (11, 48, yX6_init), (11, 55, yX10_init), (11, 64, yX4_init), (11, 71, yX0_init), (11, 78, yX1_init), (11, 85, yX2_init), (11, 92, yX3_init)]
def ix_bn (c : Nat) : MethodName := match c with
  | 0 => yJ15_checkIndex
  | _ => arraycopyName
def ix_mlok (o : Nat) (q : Nat × Nat × Nat × Nat × Nat × Nat × Nat × List Nat) : Bool := match q with
  | (i, kd, c, na, cls, mc, ms, ps) => match kd, ps with
    | 4, [p] => ix_in p (.methodLink (ix_cn o) i objectInit)
    | 9, [p] => ix_in p (.methodLink (ix_cn o) i (ix_bn c))
    | kd, p0 :: p1 :: t => (match ix_mt c with
      | some (y, _, _, rt, cl, na', mc', ms', _, _) => decide (cl = cls) && (decide (na' = na) && (decide (mc' = mc) && (decide (ms' = ms) && (match kd, t with
        | 0, [p2, p3] => ix_in p0 (.methodLink (ix_cn o) i y) && (ix_in p1 (.instanceMethod y) && (ix_in p2 (.selects (ix_cn cl) y y) && (ix_in p3 (.initialized (ix_cn cl)) && ((decide (cl < 13) || decide (cl = 15)) && (decide (y.cls = ix_cn cl) && decide ((parseMethodDescriptor y.desc).map (fun d => d.parameters.length + 1) = some na))))))
        | 1, [p2] => ix_in p0 (.methodLink (ix_cn o) i y) && (ix_in p1 (.static y) && (ix_in p2 (.initialized y.cls) && decide ((parseMethodDescriptor y.desc).map (fun d => d.parameters.length) = some na)))
        | 2, [p2] => decide ((o, i, y) ∈ ix_nw) && (ix_in p1 (.instanceMethod y) && (ix_in p2 (.initialized y.cls) && (decide (y.name = "<init>") && (decide (rt = none) && decide ((parseMethodDescriptor y.desc).map (fun d => d.parameters.length + 1) = some na)))))
        | 3, [p2] => ix_in p0 (.methodLink (ix_cn o) i y) && (ix_in p1 (.instanceMethod y) && (ix_in p2 (.initialized y.cls) && (decide (y.name = "<init>") && (decide (rt = none) && decide ((parseMethodDescriptor y.desc).map (fun d => d.parameters.length + 1) = some na)))))
        | _, _ => false))))
      | none => false)
    | _, _ => false
set_option maxRecDepth 20000 in
theorem ix_mlv0 : (ix_ml 0).all (ix_mlok 0) = true := by decide +kernel
set_option maxRecDepth 20000 in
theorem ix_mlv1 : (ix_ml 1).all (ix_mlok 1) = true := by decide +kernel
set_option maxRecDepth 20000 in
theorem ix_mlv2 : (ix_ml 2).all (ix_mlok 2) = true := by decide +kernel
set_option maxRecDepth 20000 in
theorem ix_mlv3 : (ix_ml 3).all (ix_mlok 3) = true := by decide +kernel
set_option maxRecDepth 20000 in
theorem ix_mlv4 : (ix_ml 4).all (ix_mlok 4) = true := by decide +kernel
set_option maxRecDepth 20000 in
theorem ix_mlv5 : (ix_ml 5).all (ix_mlok 5) = true := by decide +kernel
set_option maxRecDepth 20000 in
theorem ix_mlv6 : (ix_ml 6).all (ix_mlok 6) = true := by decide +kernel
set_option maxRecDepth 20000 in
theorem ix_mlv7 : (ix_ml 7).all (ix_mlok 7) = true := by decide +kernel
set_option maxRecDepth 20000 in
theorem ix_mlv8 : (ix_ml 8).all (ix_mlok 8) = true := by decide +kernel
set_option maxRecDepth 20000 in
theorem ix_mlv9 : (ix_ml 9).all (ix_mlok 9) = true := by decide +kernel
set_option maxRecDepth 20000 in
theorem ix_mlv10 : (ix_ml 10).all (ix_mlok 10) = true := by decide +kernel
set_option maxRecDepth 20000 in
theorem ix_mlv11 : (ix_ml 11).all (ix_mlok 11) = true := by decide +kernel
set_option maxRecDepth 20000 in
theorem ix_mlv12 : (ix_ml 12).all (ix_mlok 12) = true := by decide +kernel
set_option maxRecDepth 20000 in
theorem ix_mlv13 : (ix_ml 13).all (ix_mlok 13) = true := by decide +kernel
set_option maxRecDepth 20000 in
theorem ix_mlv14 : (ix_ml 14).all (ix_mlok 14) = true := by decide +kernel
def ix_ac : Nat → String
  | 18 => "[" ++ (FieldType.array .int).toString
  | 19 => "[" ++ (FieldType.array .long).toString
  | t => ix_cn t
def ix_clok (o : Nat) (q : Nat × Nat × Nat) : Bool := match q with
  | (i, t, p) => ix_in p (.classLink (ix_cn o) i (ix_ac t))
def ix_icok (o : Nat) (q : Nat × Int32 × Nat) : Bool := match q with
  | (i, v, p) => ix_in p (.constant (ix_cn o) i v)
def ix_jcok (o : Nat) (q : Nat × Int64 × Nat) : Bool := match q with
  | (i, v, p) => ix_in p (.constantLong (ix_cn o) i v)
theorem ix_clv0 : (ix_cl 0).all (ix_clok 0) = true := by decide +kernel
theorem ix_icv0 : (ix_ic 0).all (ix_icok 0) = true := by decide +kernel
theorem ix_jcv0 : (ix_jc 0).all (ix_jcok 0) = true := by decide +kernel
theorem ix_clv1 : (ix_cl 1).all (ix_clok 1) = true := by decide +kernel
theorem ix_icv1 : (ix_ic 1).all (ix_icok 1) = true := by decide +kernel
theorem ix_jcv1 : (ix_jc 1).all (ix_jcok 1) = true := by decide +kernel
theorem ix_clv2 : (ix_cl 2).all (ix_clok 2) = true := by decide +kernel
theorem ix_icv2 : (ix_ic 2).all (ix_icok 2) = true := by decide +kernel
theorem ix_jcv2 : (ix_jc 2).all (ix_jcok 2) = true := by decide +kernel
theorem ix_clv3 : (ix_cl 3).all (ix_clok 3) = true := by decide +kernel
theorem ix_icv3 : (ix_ic 3).all (ix_icok 3) = true := by decide +kernel
theorem ix_jcv3 : (ix_jc 3).all (ix_jcok 3) = true := by decide +kernel
theorem ix_clv4 : (ix_cl 4).all (ix_clok 4) = true := by decide +kernel
theorem ix_icv4 : (ix_ic 4).all (ix_icok 4) = true := by decide +kernel
theorem ix_jcv4 : (ix_jc 4).all (ix_jcok 4) = true := by decide +kernel
theorem ix_clv5 : (ix_cl 5).all (ix_clok 5) = true := by decide +kernel
theorem ix_icv5 : (ix_ic 5).all (ix_icok 5) = true := by decide +kernel
theorem ix_jcv5 : (ix_jc 5).all (ix_jcok 5) = true := by decide +kernel
theorem ix_clv6 : (ix_cl 6).all (ix_clok 6) = true := by decide +kernel
theorem ix_icv6 : (ix_ic 6).all (ix_icok 6) = true := by decide +kernel
theorem ix_jcv6 : (ix_jc 6).all (ix_jcok 6) = true := by decide +kernel
theorem ix_clv7 : (ix_cl 7).all (ix_clok 7) = true := by decide +kernel
theorem ix_icv7 : (ix_ic 7).all (ix_icok 7) = true := by decide +kernel
theorem ix_jcv7 : (ix_jc 7).all (ix_jcok 7) = true := by decide +kernel
theorem ix_clv8 : (ix_cl 8).all (ix_clok 8) = true := by decide +kernel
theorem ix_icv8 : (ix_ic 8).all (ix_icok 8) = true := by decide +kernel
theorem ix_jcv8 : (ix_jc 8).all (ix_jcok 8) = true := by decide +kernel
theorem ix_clv9 : (ix_cl 9).all (ix_clok 9) = true := by decide +kernel
theorem ix_icv9 : (ix_ic 9).all (ix_icok 9) = true := by decide +kernel
theorem ix_jcv9 : (ix_jc 9).all (ix_jcok 9) = true := by decide +kernel
theorem ix_clv10 : (ix_cl 10).all (ix_clok 10) = true := by decide +kernel
theorem ix_icv10 : (ix_ic 10).all (ix_icok 10) = true := by decide +kernel
theorem ix_jcv10 : (ix_jc 10).all (ix_jcok 10) = true := by decide +kernel
theorem ix_clv11 : (ix_cl 11).all (ix_clok 11) = true := by decide +kernel
theorem ix_icv11 : (ix_ic 11).all (ix_icok 11) = true := by decide +kernel
theorem ix_jcv11 : (ix_jc 11).all (ix_jcok 11) = true := by decide +kernel
theorem ix_clv12 : (ix_cl 12).all (ix_clok 12) = true := by decide +kernel
theorem ix_icv12 : (ix_ic 12).all (ix_icok 12) = true := by decide +kernel
theorem ix_jcv12 : (ix_jc 12).all (ix_jcok 12) = true := by decide +kernel
theorem ix_clv13 : (ix_cl 13).all (ix_clok 13) = true := by decide +kernel
theorem ix_icv13 : (ix_ic 13).all (ix_icok 13) = true := by decide +kernel
theorem ix_jcv13 : (ix_jc 13).all (ix_jcok 13) = true := by decide +kernel
theorem ix_clv14 : (ix_cl 14).all (ix_clok 14) = true := by decide +kernel
theorem ix_icv14 : (ix_ic 14).all (ix_icok 14) = true := by decide +kernel
theorem ix_jcv14 : (ix_jc 14).all (ix_jcok 14) = true := by decide +kernel
theorem ix_flv15 : (ix_fl 15).all (ix_flok 15) = true := by decide +kernel
theorem ix_flv16 : (ix_fl 16).all (ix_flok 16) = true := by decide +kernel
theorem ix_flv (o : Nat) : (ix_fl o).all (ix_flok o) = true ∨ 17 ≤ o := by
  match o with
  | 0 => exact Or.inl ix_flv0
  | 1 => exact Or.inl ix_flv1
  | 2 => exact Or.inl ix_flv2
  | 3 => exact Or.inl ix_flv3
  | 4 => exact Or.inl ix_flv4
  | 5 => exact Or.inl ix_flv5
  | 6 => exact Or.inl ix_flv6
  | 7 => exact Or.inl ix_flv7
  | 8 => exact Or.inl ix_flv8
  | 9 => exact Or.inl ix_flv9
  | 10 => exact Or.inl ix_flv10
  | 11 => exact Or.inl ix_flv11
  | 12 => exact Or.inl ix_flv12
  | 13 => exact Or.inl ix_flv13
  | 14 => exact Or.inl ix_flv14
  | 15 => exact Or.inl ix_flv15
  | 16 => exact Or.inl ix_flv16
  | n + 17 => exact Or.inr (Nat.le_add_left 17 n)
set_option maxRecDepth 20000 in
theorem ix_mlv15 : (ix_ml 15).all (ix_mlok 15) = true := by decide +kernel
set_option maxRecDepth 20000 in
theorem ix_mlv16 : (ix_ml 16).all (ix_mlok 16) = true := by decide +kernel
theorem ix_mlv (o : Nat) : (ix_ml o).all (ix_mlok o) = true ∨ 17 ≤ o := by
  match o with
  | 0 => exact Or.inl ix_mlv0
  | 1 => exact Or.inl ix_mlv1
  | 2 => exact Or.inl ix_mlv2
  | 3 => exact Or.inl ix_mlv3
  | 4 => exact Or.inl ix_mlv4
  | 5 => exact Or.inl ix_mlv5
  | 6 => exact Or.inl ix_mlv6
  | 7 => exact Or.inl ix_mlv7
  | 8 => exact Or.inl ix_mlv8
  | 9 => exact Or.inl ix_mlv9
  | 10 => exact Or.inl ix_mlv10
  | 11 => exact Or.inl ix_mlv11
  | 12 => exact Or.inl ix_mlv12
  | 13 => exact Or.inl ix_mlv13
  | 14 => exact Or.inl ix_mlv14
  | 15 => exact Or.inl ix_mlv15
  | 16 => exact Or.inl ix_mlv16
  | n + 17 => exact Or.inr (Nat.le_add_left 17 n)
theorem ix_clv15 : (ix_cl 15).all (ix_clok 15) = true := by decide +kernel
theorem ix_clv16 : (ix_cl 16).all (ix_clok 16) = true := by decide +kernel
theorem ix_clv (o : Nat) : (ix_cl o).all (ix_clok o) = true ∨ 17 ≤ o := by
  match o with
  | 0 => exact Or.inl ix_clv0
  | 1 => exact Or.inl ix_clv1
  | 2 => exact Or.inl ix_clv2
  | 3 => exact Or.inl ix_clv3
  | 4 => exact Or.inl ix_clv4
  | 5 => exact Or.inl ix_clv5
  | 6 => exact Or.inl ix_clv6
  | 7 => exact Or.inl ix_clv7
  | 8 => exact Or.inl ix_clv8
  | 9 => exact Or.inl ix_clv9
  | 10 => exact Or.inl ix_clv10
  | 11 => exact Or.inl ix_clv11
  | 12 => exact Or.inl ix_clv12
  | 13 => exact Or.inl ix_clv13
  | 14 => exact Or.inl ix_clv14
  | 15 => exact Or.inl ix_clv15
  | 16 => exact Or.inl ix_clv16
  | n + 17 => exact Or.inr (Nat.le_add_left 17 n)
theorem ix_icv15 : (ix_ic 15).all (ix_icok 15) = true := by decide +kernel
theorem ix_icv16 : (ix_ic 16).all (ix_icok 16) = true := by decide +kernel
theorem ix_icv (o : Nat) : (ix_ic o).all (ix_icok o) = true ∨ 17 ≤ o := by
  match o with
  | 0 => exact Or.inl ix_icv0
  | 1 => exact Or.inl ix_icv1
  | 2 => exact Or.inl ix_icv2
  | 3 => exact Or.inl ix_icv3
  | 4 => exact Or.inl ix_icv4
  | 5 => exact Or.inl ix_icv5
  | 6 => exact Or.inl ix_icv6
  | 7 => exact Or.inl ix_icv7
  | 8 => exact Or.inl ix_icv8
  | 9 => exact Or.inl ix_icv9
  | 10 => exact Or.inl ix_icv10
  | 11 => exact Or.inl ix_icv11
  | 12 => exact Or.inl ix_icv12
  | 13 => exact Or.inl ix_icv13
  | 14 => exact Or.inl ix_icv14
  | 15 => exact Or.inl ix_icv15
  | 16 => exact Or.inl ix_icv16
  | n + 17 => exact Or.inr (Nat.le_add_left 17 n)
theorem ix_jcv15 : (ix_jc 15).all (ix_jcok 15) = true := by decide +kernel
theorem ix_jcv16 : (ix_jc 16).all (ix_jcok 16) = true := by decide +kernel
theorem ix_jcv (o : Nat) : (ix_jc o).all (ix_jcok o) = true ∨ 17 ≤ o := by
  match o with
  | 0 => exact Or.inl ix_jcv0
  | 1 => exact Or.inl ix_jcv1
  | 2 => exact Or.inl ix_jcv2
  | 3 => exact Or.inl ix_jcv3
  | 4 => exact Or.inl ix_jcv4
  | 5 => exact Or.inl ix_jcv5
  | 6 => exact Or.inl ix_jcv6
  | 7 => exact Or.inl ix_jcv7
  | 8 => exact Or.inl ix_jcv8
  | 9 => exact Or.inl ix_jcv9
  | 10 => exact Or.inl ix_jcv10
  | 11 => exact Or.inl ix_jcv11
  | 12 => exact Or.inl ix_jcv12
  | 13 => exact Or.inl ix_jcv13
  | 14 => exact Or.inl ix_jcv14
  | 15 => exact Or.inl ix_jcv15
  | 16 => exact Or.inl ix_jcv16
  | n + 17 => exact Or.inr (Nat.le_add_left 17 n)
/-! texts -/
def ix_sfok (o : Nat) (q : Nat × Nat × Nat) : Bool := match q with
  | (i, 0, p) => ix_in p (.fieldLink (ix_cn o) i "java/lang/String" "value" "[B")
  | (i, 1, p) => ix_in p (.fieldLink (ix_cn o) i "java/lang/String" "coder" "B")
  | _ => false
def ix_sgok (o : Nat) (q : Nat × Nat) : Bool := match q with
  | (i, p) => ix_in p (.fieldLink (ix_cn o) i "java/lang/String" "COMPACT_STRINGS" "Z")
theorem ix_sfv0 : (ix_sf 0).all (ix_sfok 0) = true := by decide +kernel
theorem ix_sfv1 : (ix_sf 1).all (ix_sfok 1) = true := by decide +kernel
theorem ix_sfv2 : (ix_sf 2).all (ix_sfok 2) = true := by decide +kernel
theorem ix_sfv3 : (ix_sf 3).all (ix_sfok 3) = true := by decide +kernel
theorem ix_sfv4 : (ix_sf 4).all (ix_sfok 4) = true := by decide +kernel
theorem ix_sfv5 : (ix_sf 5).all (ix_sfok 5) = true := by decide +kernel
theorem ix_sfv6 : (ix_sf 6).all (ix_sfok 6) = true := by decide +kernel
theorem ix_sfv7 : (ix_sf 7).all (ix_sfok 7) = true := by decide +kernel
theorem ix_sfv8 : (ix_sf 8).all (ix_sfok 8) = true := by decide +kernel
theorem ix_sfv9 : (ix_sf 9).all (ix_sfok 9) = true := by decide +kernel
theorem ix_sfv10 : (ix_sf 10).all (ix_sfok 10) = true := by decide +kernel
theorem ix_sfv11 : (ix_sf 11).all (ix_sfok 11) = true := by decide +kernel
theorem ix_sfv12 : (ix_sf 12).all (ix_sfok 12) = true := by decide +kernel
theorem ix_sfv13 : (ix_sf 13).all (ix_sfok 13) = true := by decide +kernel
theorem ix_sfv14 : (ix_sf 14).all (ix_sfok 14) = true := by decide +kernel
theorem ix_sfv15 : (ix_sf 15).all (ix_sfok 15) = true := by decide +kernel
theorem ix_sfv16 : (ix_sf 16).all (ix_sfok 16) = true := by decide +kernel
theorem ix_sfv (o : Nat) : (ix_sf o).all (ix_sfok o) = true ∨ 17 ≤ o := by
  match o with
  | 0 => exact Or.inl ix_sfv0
  | 1 => exact Or.inl ix_sfv1
  | 2 => exact Or.inl ix_sfv2
  | 3 => exact Or.inl ix_sfv3
  | 4 => exact Or.inl ix_sfv4
  | 5 => exact Or.inl ix_sfv5
  | 6 => exact Or.inl ix_sfv6
  | 7 => exact Or.inl ix_sfv7
  | 8 => exact Or.inl ix_sfv8
  | 9 => exact Or.inl ix_sfv9
  | 10 => exact Or.inl ix_sfv10
  | 11 => exact Or.inl ix_sfv11
  | 12 => exact Or.inl ix_sfv12
  | 13 => exact Or.inl ix_sfv13
  | 14 => exact Or.inl ix_sfv14
  | 15 => exact Or.inl ix_sfv15
  | 16 => exact Or.inl ix_sfv16
  | n + 17 => exact Or.inr (Nat.le_add_left 17 n)
theorem ix_sgv0 : (ix_sg 0).all (ix_sgok 0) = true := by decide +kernel
theorem ix_sgv1 : (ix_sg 1).all (ix_sgok 1) = true := by decide +kernel
theorem ix_sgv2 : (ix_sg 2).all (ix_sgok 2) = true := by decide +kernel
theorem ix_sgv3 : (ix_sg 3).all (ix_sgok 3) = true := by decide +kernel
theorem ix_sgv4 : (ix_sg 4).all (ix_sgok 4) = true := by decide +kernel
theorem ix_sgv5 : (ix_sg 5).all (ix_sgok 5) = true := by decide +kernel
theorem ix_sgv6 : (ix_sg 6).all (ix_sgok 6) = true := by decide +kernel
theorem ix_sgv7 : (ix_sg 7).all (ix_sgok 7) = true := by decide +kernel
theorem ix_sgv8 : (ix_sg 8).all (ix_sgok 8) = true := by decide +kernel
theorem ix_sgv9 : (ix_sg 9).all (ix_sgok 9) = true := by decide +kernel
theorem ix_sgv10 : (ix_sg 10).all (ix_sgok 10) = true := by decide +kernel
theorem ix_sgv11 : (ix_sg 11).all (ix_sgok 11) = true := by decide +kernel
theorem ix_sgv12 : (ix_sg 12).all (ix_sgok 12) = true := by decide +kernel
theorem ix_sgv13 : (ix_sg 13).all (ix_sgok 13) = true := by decide +kernel
theorem ix_sgv14 : (ix_sg 14).all (ix_sgok 14) = true := by decide +kernel
theorem ix_sgv15 : (ix_sg 15).all (ix_sgok 15) = true := by decide +kernel
theorem ix_sgv16 : (ix_sg 16).all (ix_sgok 16) = true := by decide +kernel
theorem ix_sgv (o : Nat) : (ix_sg o).all (ix_sgok o) = true ∨ 17 ≤ o := by
  match o with
  | 0 => exact Or.inl ix_sgv0
  | 1 => exact Or.inl ix_sgv1
  | 2 => exact Or.inl ix_sgv2
  | 3 => exact Or.inl ix_sgv3
  | 4 => exact Or.inl ix_sgv4
  | 5 => exact Or.inl ix_sgv5
  | 6 => exact Or.inl ix_sgv6
  | 7 => exact Or.inl ix_sgv7
  | 8 => exact Or.inl ix_sgv8
  | 9 => exact Or.inl ix_sgv9
  | 10 => exact Or.inl ix_sgv10
  | 11 => exact Or.inl ix_sgv11
  | 12 => exact Or.inl ix_sgv12
  | 13 => exact Or.inl ix_sgv13
  | 14 => exact Or.inl ix_sgv14
  | 15 => exact Or.inl ix_sgv15
  | 16 => exact Or.inl ix_sgv16
  | n + 17 => exact Or.inr (Nat.le_add_left 17 n)
