def ix_mk (M : ix_M) (t len : Nat) : ix_M := match M with
  | (N, tg, ln, I, J, R) => (N + 1, ix_u1 tg N t, ix_u1 ln N len, ix_u1 I N (fun _ => 0), ix_u1 J N (fun _ => 0), ix_u1 R N (fun _ => none))
def ix_mk2 (M : ix_M) (t c1 c2 : Nat) : ix_M := match M with
  | (N, tg, ln, I, J, R) => (N + 1 + c1, (fun a => if a < N then tg a else if a = N then t else t - 4), (fun a => if a < N then ln a else if a = N then c1 else c2), (fun a => if a < N then I a else fun _ => 0), (fun a => if a < N then J a else fun _ => 0), (fun a => if a < N then R a else if a = N then (fun i => if i < c1 then some (N + 1 + i) else none) else fun _ => none))
def ix_if (c : ClassFile.Cond) (x : Int32) (t f : Nat) : Nat := match c with
  | .eq => if x = 0 then t else f
  | .ne => if x = 0 then f else t
  | .lt => if x < 0 then t else f
  | .ge => if x < 0 then f else t
  | .gt => if x ≤ 0 then f else t
  | .le => if x ≤ 0 then t else f
def ix_icmp (c : ClassFile.Cond) (x y : Int32) (t f : Nat) : Nat := match c with
  | .eq => if x = y then t else f
  | .ne => if x = y then f else t
  | .lt => if x < y then t else f
  | .ge => if x < y then f else t
  | .gt => if x ≤ y then f else t
  | .le => if x ≤ y then t else f
def ix_store (ls : List (Option ix_V)) (i : Nat) (v : ix_V) : Option (List (Option ix_V)) := cond (Nat.blt i ls.length) (some (ix_st1 ls i v)) none
def ix_store2 (ls : List (Option ix_V)) (i : Nat) (v : ix_V) : Option (List (Option ix_V)) := cond (Nat.blt (i + 1) ls.length) (some (ix_st2 ls i v)) none
def ix_load (pc' : Nat) (ls : List (Option ix_V)) (i : Nat) (ok : ix_V → Bool) (st : List ix_V) (k n : Nat) (M : ix_M) : Option (List Bool × ix_X) := match ix_lg ls i with
  | some v => cond (ok v) (some ([], (pc', ls, v :: st, k, n, M))) none
  | none => none
def ix_isI : ix_V → Bool
  | .inl _ => true
  | _ => false
def ix_isJ : ix_V → Bool
  | .inr (.inl _) => true
  | _ => false
def ix_isR : ix_V → Bool
  | .inr (.inr _) => true
  | _ => false
def ix_sto (pc' : Nat) (ls : List (Option ix_V)) (i : Nat) (ok : ix_V → Bool) (st : List ix_V) (k n : Nat) (M : ix_M) : Option (List Bool × ix_X) := match st with
  | v :: r => cond (ok v && Nat.blt i ls.length) (some ([], (pc', ix_st1 ls i v, r, k, n, M))) none
  | [] => none
def ix_sto2 (pc' : Nat) (ls : List (Option ix_V)) (i : Nat) (st : List ix_V) (k n : Nat) (M : ix_M) : Option (List Bool × ix_X) := match st with
  | v :: r => cond (ix_isJ v && Nat.blt (i + 1) ls.length) (some ([], (pc', ix_st2 ls i v, r, k, n, M))) none
  | [] => none
/-- two ints -/
def ix_ii (f : Int32 → Int32 → List Bool × ix_V) (pc : Nat) (ls : List (Option ix_V)) (st : List ix_V) (k n : Nat) (M : ix_M) : Option (List Bool × ix_X) := match st with
  | .inl y :: .inl x :: r => some ((f x y).1, (pc + 1, ls, (f x y).2 :: r, k, n, M))
  | _ => none
def ix_jj (f : Int64 → Int64 → List Bool × ix_V) (pc : Nat) (ls : List (Option ix_V)) (st : List ix_V) (k n : Nat) (M : ix_M) : Option (List Bool × ix_X) := match st with
  | .inr (.inl y) :: .inr (.inl x) :: r => some ((f x y).1, (pc + 1, ls, (f x y).2 :: r, k, n, M))
  | _ => none
def ix_i (f : Int32 → ix_V) (pc : Nat) (ls : List (Option ix_V)) (st : List ix_V) (k n : Nat) (M : ix_M) : Option (List Bool × ix_X) := match st with
  | .inl x :: r => some ([], (pc + 1, ls, f x :: r, k, n, M))
  | _ => none
def ix_j (f : Int64 → ix_V) (pc : Nat) (ls : List (Option ix_V)) (st : List ix_V) (k n : Nat) (M : ix_M) : Option (List Bool × ix_X) := match st with
  | .inr (.inl x) :: r => some ([], (pc + 1, ls, f x :: r, k, n, M))
  | _ => none
def ix_atag : ArrayType → Option Nat
  | .int => some 14
  | .long => some 15
  | .boolean => some 16
  | .byte => some 13
  | _ => none
def ix_ald (t : Nat) (sc : Option (Nat × (Nat → Int32))) (pc : Nat) (ls : List (Option ix_V)) (st : List ix_V) (k n : Nat) (M : ix_M) : Option (List Bool × ix_X) := match M with
  | (N, tg, ln, I, J, R) => match st with
    | .inl i :: .inr (.inr (.inl (some a))) :: r => some ([Nat.blt a N, Nat.beq (tg a) t, ix_inb i (ln a)], (pc + 1, ls, .inl (I a i.toNatClampNeg) :: r, k, n, M))
    | .inl i :: .inr (.inr (.inr 0)) :: r => (match t, sc with
      | 14, some (L, xs) => some ([ix_inb i L], (pc + 1, ls, .inl (xs i.toNatClampNeg) :: r, k, n, M))
      | _, _ => none)
    | _ => none
def ix_bald (pc : Nat) (ls : List (Option ix_V)) (st : List ix_V) (k n : Nat) (M : ix_M) : Option (List Bool × ix_X) := match M with
  | (N, tg, ln, I, J, R) => match st with
    | .inl i :: .inr (.inr (.inl (some a))) :: r => some ([Nat.blt a N, Nat.beq (tg a) 13 || Nat.beq (tg a) 16, ix_inb i (ln a)], (pc + 1, ls, .inl (I a i.toNatClampNeg) :: r, k, n, M))
    | .inl i :: .inr (.inr (.inr q)) :: r => some ([Nat.ble 5 q, Nat.ble q 8, ix_inb i (ix_slen.getD (q - 5) 0)], (pc + 1, ls, .inl ((ix_sbyt.getD (q - 5) []).getD i.toNatClampNeg 0) :: r, k, n, M))
    | _ => none
/-- what an array of bytes (13) or booleans (16) holds of an int -/
def ix_nb (t : Nat) (v : Int32) : Int32 := if t = 13 then v.toInt8.toInt32 else v
def ix_lald (pc : Nat) (ls : List (Option ix_V)) (st : List ix_V) (k n : Nat) (M : ix_M) : Option (List Bool × ix_X) := match M with
  | (N, tg, ln, I, J, R) => match st with
    | .inl i :: .inr (.inr (.inl (some a))) :: r => some ([Nat.blt a N, Nat.beq (tg a) 15, ix_inb i (ln a)], (pc + 1, ls, .inr (.inl (J a i.toNatClampNeg)) :: r, k, n, M))
    | _ => none
def ix_aald (pc : Nat) (ls : List (Option ix_V)) (st : List ix_V) (k n : Nat) (M : ix_M) : Option (List Bool × ix_X) := match M with
  | (N, tg, ln, I, J, R) => match st with
    | .inl i :: .inr (.inr (.inl (some a))) :: r => some ([Nat.blt a N, Nat.ble (17) (tg a), Nat.ble (tg a) (19), ix_inb i (ln a), (R a i.toNatClampNeg).isSome], (pc + 1, ls, .inr (.inr (.inl (some ((R a i.toNatClampNeg).getD 0)))) :: r, k, n, M))
    | _ => none
def ix_ast (pc : Nat) (ls : List (Option ix_V)) (st : List ix_V) (k n : Nat) (M : ix_M) : Option (List Bool × ix_X) := match M with
  | (N, tg, ln, I, J, R) => match st with
    | .inl v :: .inl i :: .inr (.inr (.inl (some a))) :: r => some ([Nat.blt a N, Nat.beq (tg a) 14, ix_inb i (ln a)], (pc + 1, ls, r, k, n, (N, tg, ln, ix_u2 I a i.toNatClampNeg v, J, R)))
    | _ => none
def ix_zast (pc : Nat) (ls : List (Option ix_V)) (st : List ix_V) (k n : Nat) (M : ix_M) : Option (List Bool × ix_X) := match M with
  | (N, tg, ln, I, J, R) => match st with
    | .inl v :: .inl i :: .inr (.inr (.inl (some a))) :: r => some ([Nat.blt a N, Nat.beq (tg a) 13 || (Nat.beq (tg a) 16 && ix_01 v), ix_inb i (ln a)], (pc + 1, ls, r, k, n, (N, tg, ln, ix_u2 I a i.toNatClampNeg (ix_nb (tg a) v), J, R)))
    | _ => none
def ix_last (pc : Nat) (ls : List (Option ix_V)) (st : List ix_V) (k n : Nat) (M : ix_M) : Option (List Bool × ix_X) := match M with
  | (N, tg, ln, I, J, R) => match st with
    | .inr (.inl v) :: .inl i :: .inr (.inr (.inl (some a))) :: r => some ([Nat.blt a N, Nat.beq (tg a) 15, ix_inb i (ln a)], (pc + 1, ls, r, k, n, (N, tg, ln, I, ix_u2 J a i.toNatClampNeg v, R)))
    | _ => none
def ix_aast (pc : Nat) (ls : List (Option ix_V)) (st : List ix_V) (k n : Nat) (M : ix_M) : Option (List Bool × ix_X) := match M with
  | (N, tg, ln, I, J, R) => match st with
    | .inr (.inr (.inl (some b))) :: .inl i :: .inr (.inr (.inl (some a))) :: r => some ([Nat.blt a N, Nat.beq (tg a) 17, ix_inb i (ln a), Nat.blt b N, Nat.beq (tg b) 9], (pc + 1, ls, r, k, n, (N, tg, ln, I, J, ix_u2 R a i.toNatClampNeg (some b))))
    | _ => none
def ix_alen (sc : Option (Nat × (Nat → Int32))) (pc : Nat) (ls : List (Option ix_V)) (st : List ix_V) (k n : Nat) (M : ix_M) : Option (List Bool × ix_X) := match M with
  | (N, tg, ln, I, J, R) => match st with
    | .inr (.inr (.inl (some a))) :: r => some ([Nat.blt a N, Nat.ble (13) (tg a), Nat.ble (tg a) (19)], (pc + 1, ls, .inl (Int32.ofNat (ln a)) :: r, k, n, M))
    | .inr (.inr (.inr 0)) :: r => (match sc with
      | some (L, xs) => some ([], (pc + 1, ls, .inl (Int32.ofNat L) :: r, k, n, M))
      | none => none)
    | .inr (.inr (.inr (q + 1))) :: r => some ([Nat.ble 4 q, Nat.ble q 7], (pc + 1, ls, .inl (Int32.ofNat (ix_slen.getD (q - 4) 0)) :: r, k, n, M))
    | _ => none
def ix_newa (mc ms t : Nat) (pc' : Nat) (ls : List (Option ix_V)) (st : List ix_V) (k n : Nat) (M : ix_M) : Option (List Bool × ix_X) := match st with
    | .inl c :: r => some ([ix_nn c, Nat.ble (c.toNatClampNeg) (60000000), Nat.ble (k + 1) (mc), Nat.ble (n + c.toNatClampNeg) (ms)], (pc', ls, .inr (.inr (.inl (some M.1))) :: r, k + 1, n + c.toNatClampNeg, ix_mk M t c.toNatClampNeg))
    | _ => none
def ix_get (q : Nat × Nat × Nat × Bool × Nat) (pc : Nat) (ls : List (Option ix_V)) (st : List ix_V) (k n : Nat) (M : ix_M) : Option (List Bool × ix_X) := match M with
  | (N, tg, ln, I, J, R) => match q with
    | (ci, sl, kd, _, _) => match st with
      | .inr (.inr (.inl (some a))) :: r => (match kd with
        | 1 => some ([Nat.blt a N, Nat.beq (tg a) ci], (pc + 3, ls, .inr (.inl (J a sl)) :: r, k, n, M))
        | 2 => some ([Nat.blt a N, Nat.beq (tg a) ci], (pc + 3, ls, .inr (.inr (.inl (R a sl))) :: r, k, n, M))
        | _ => some ([Nat.blt a N, Nat.beq (tg a) ci], (pc + 3, ls, .inl (I a sl) :: r, k, n, M)))
      | _ => none
def ix_put (q : Nat × Nat × Nat × Bool × Nat) (pc : Nat) (ls : List (Option ix_V)) (st : List ix_V) (k n : Nat) (M : ix_M) : Option (List Bool × ix_X) := match M with
  | (N, tg, ln, I, J, R) => match q with
    | (ci, sl, kd, _, _) => match st with
      | v :: .inr (.inr (.inl (some a))) :: r => (match kd, v with
        | 0, .inl v => some ([Nat.blt a N, Nat.beq (tg a) ci], (pc + 3, ls, r, k, n, (N, tg, ln, ix_u2 I a sl v, J, R)))
        | 1, .inr (.inl v) => some ([Nat.blt a N, Nat.beq (tg a) ci], (pc + 3, ls, r, k, n, (N, tg, ln, I, ix_u2 J a sl v, R)))
        | 2, .inr (.inr (.inl v)) => some ([Nat.blt a N, Nat.beq (tg a) ci], (pc + 3, ls, r, k, n, (N, tg, ln, I, J, ix_u2 R a sl v)))
        | 3, .inl v => some ([Nat.blt a N, Nat.beq (tg a) ci, ix_01 v], (pc + 3, ls, r, k, n, (N, tg, ln, ix_u2 I a sl v, J, R)))
        | _, _ => none)
      | _ => none
def ix_getS (q : Nat × Nat) (pc : Nat) (ls : List (Option ix_V)) (st : List ix_V) (k n : Nat) (M : ix_M) : Option (List Bool × ix_X) := match st with
    | .inr (.inr (.inr j)) :: r => (match q with
      | (0, _) => some ([Nat.ble 1 j, Nat.ble j 4], (pc + 3, ls, .inr (.inr (.inr (j + 4))) :: r, k, n, M))
      | (1, _) => some ([Nat.ble 1 j, Nat.ble j 4], (pc + 3, ls, .inl 0 :: r, k, n, M))
      | _ => none)
    | _ => none
def ix_step (own mc ms : Nat) (ini : Bool) (sc : Option (Nat × (Nat → Int32))) (ins : Instr) (x : ix_X) : Option (List Bool × ix_X) := match x with
  | (pc, ls, st, k, n, M) => match ins with
    | .iconst i => some ([], (pc + 1, ls, .inl (Int32.ofInt i) :: st, k, n, M))
    | .bipush i => some ([], (pc + 2, ls, .inl (Int8.ofInt i).toInt32 :: st, k, n, M))
    | .sipush i => some ([], (pc + 3, ls, .inl (Int16.ofInt i).toInt32 :: st, k, n, M))
    | .lconst i => some ([], (pc + 1, ls, .inr (.inl (Int64.ofNat (i : Nat))) :: st, k, n, M))
    | .aconst_null => some ([], (pc + 1, ls, .inr (.inr (.inl none)) :: st, k, n, M))
    | .ldc idx => (match ix_lk (ix_ic own) idx with
      | some (v, _) => some ([], (pc + 2, ls, .inl v :: st, k, n, M))
      | none => (match ix_lk (ix_sk own) idx with
        | some (j, _) => some ([], (pc + 2, ls, .inr (.inr (.inr (1 + j))) :: st, k, n, M))
        | none => none))
    | .ldc_w idx => (match ix_lk (ix_ic own) idx with
      | some (v, _) => some ([], (pc + 3, ls, .inl v :: st, k, n, M))
      | none => (match ix_lk (ix_sk own) idx with
        | some (j, _) => some ([], (pc + 3, ls, .inr (.inr (.inr (1 + j))) :: st, k, n, M))
        | none => none))
    | .ldc2_w idx => (match ix_lk (ix_jc own) idx with
      | some (v, _) => some ([], (pc + 3, ls, .inr (.inl v) :: st, k, n, M))
      | none => none)
    | .iload i => ix_load (pc + 2) ls i ix_isI st k n M
    | .iload_n i => ix_load (pc + 1) ls i ix_isI st k n M
    | .lload i => ix_load (pc + 2) ls i ix_isJ st k n M
    | .lload_n i => ix_load (pc + 1) ls i ix_isJ st k n M
    | .aload i => ix_load (pc + 2) ls i ix_isR st k n M
    | .aload_n i => ix_load (pc + 1) ls i ix_isR st k n M
    | .istore i => ix_sto (pc + 2) ls i ix_isI st k n M
    | .istore_n i => ix_sto (pc + 1) ls i ix_isI st k n M
    | .lstore i => ix_sto2 (pc + 2) ls i st k n M
    | .lstore_n i => ix_sto2 (pc + 1) ls i st k n M
    | .astore i => ix_sto (pc + 2) ls i ix_isR st k n M
    | .astore_n i => ix_sto (pc + 1) ls i ix_isR st k n M
    | .iinc i c => (match ix_lg ls i with
      | some (.inl v) => cond (Nat.blt i ls.length) (some ([], (pc + 3, ix_st1 ls i (.inl (v + Int32.ofInt c)), st, k, n, M))) none
      | _ => none)
    | .iadd => ix_ii (fun x y => ([], .inl (x + y))) pc ls st k n M
    | .isub => ix_ii (fun x y => ([], .inl (x - y))) pc ls st k n M
    | .imul => ix_ii (fun x y => ([], .inl (x * y))) pc ls st k n M
    | .iand => ix_ii (fun x y => ([], .inl (x &&& y))) pc ls st k n M
    | .ior => ix_ii (fun x y => ([], .inl (x ||| y))) pc ls st k n M
    | .idiv => ix_ii (fun x y => ([ix_nz y], .inl (x / y))) pc ls st k n M
    | .irem => ix_ii (fun x y => ([ix_nz y], .inl (x - x / y * y))) pc ls st k n M
    | .ishl => ix_ii (fun x y => ([], .inl (x <<< (y &&& 31)))) pc ls st k n M
    | .ishr => ix_ii (fun x y => ([], .inl (x >>> (y &&& 31)))) pc ls st k n M
    | .ineg => ix_i (fun x => .inl (-x)) pc ls st k n M
    | .i2l => ix_i (fun x => .inr (.inl x.toInt64)) pc ls st k n M
    | .i2b => ix_i (fun x => .inl x.toInt8.toInt32) pc ls st k n M
    | .i2s => ix_i (fun x => .inl x.toInt16.toInt32) pc ls st k n M
    | .i2c => ix_i (fun x => .inl (x.toUInt32 % 65536).toInt32) pc ls st k n M
    | .ladd => ix_jj (fun x y => ([], .inr (.inl (x + y)))) pc ls st k n M
    | .lsub => ix_jj (fun x y => ([], .inr (.inl (x - y)))) pc ls st k n M
    | .lmul => ix_jj (fun x y => ([], .inr (.inl (x * y)))) pc ls st k n M
    | .land => ix_jj (fun x y => ([], .inr (.inl (x &&& y)))) pc ls st k n M
    | .lor => ix_jj (fun x y => ([], .inr (.inl (x ||| y)))) pc ls st k n M
    | .ldiv => ix_jj (fun x y => ([ix_nzl y], .inr (.inl (x / y)))) pc ls st k n M
    | .lrem => ix_jj (fun x y => ([ix_nzl y], .inr (.inl (x - x / y * y)))) pc ls st k n M
    | .lcmp => ix_jj (fun x y => ([], .inl (lg_cmp x y))) pc ls st k n M
    | .lneg => ix_j (fun x => .inr (.inl (-x))) pc ls st k n M
    | .l2i => ix_j (fun x => .inl x.toInt32) pc ls st k n M
    | .lshl => (match st with
      | .inl y :: .inr (.inl x) :: r => some ([], (pc + 1, ls, .inr (.inl (x <<< (y.toInt64 &&& 63))) :: r, k, n, M))
      | _ => none)
    | .dup => (match st with
      | .inr (.inl _) :: _ => none
      | v :: r => some ([], (pc + 1, ls, v :: v :: r, k, n, M))
      | [] => none)
    | .dup2 => (match st with
      | .inr (.inl _) :: _ => none
      | _ :: .inr (.inl _) :: _ => none
      | v :: w :: r => some ([], (pc + 1, ls, v :: w :: v :: w :: r, k, n, M))
      | _ => none)
    | .ifCond c off => (match st with
      | .inl x :: r => ix_jump pc off (fun t => some ([], (ix_if c x t (pc + 3), ls, r, k, n, M)))
      | _ => none)
    | .if_icmp c off => (match st with
      | .inl y :: .inl x :: r => ix_jump pc off (fun t => some ([], (ix_icmp c x y t (pc + 3), ls, r, k, n, M)))
      | _ => none)
    | .ifnonnull off => (match st with
      | .inr (.inr (.inl (some _))) :: r => ix_jump pc off (fun t => some ([], (t, ls, r, k, n, M)))
      | .inr (.inr (.inl none)) :: r => some ([], (pc + 3, ls, r, k, n, M))
      | _ => none)
    | .goto off => ix_jump pc off (fun t => some ([], (t, ls, st, k, n, M)))
    | .iaload => ix_ald 14 sc pc ls st k n M
    | .baload => ix_bald pc ls st k n M
    | .laload => ix_lald pc ls st k n M
    | .aaload => ix_aald pc ls st k n M
    | .iastore => ix_ast pc ls st k n M
    | .bastore => ix_zast pc ls st k n M
    | .lastore => ix_last pc ls st k n M
    | .aastore => ix_aast pc ls st k n M
    | .arraylength => ix_alen sc pc ls st k n M
    | .newarray t => (match ix_atag t with
      | some t => ix_newa mc ms t (pc + 2) ls st k n M
      | none => none)
    | .anewarray idx => (match ix_lk (ix_cl own) idx with
      | some (9, _) => ix_newa mc ms 17 (pc + 3) ls st k n M
      | _ => none)
    | .multianewarray idx dm => (match ix_lk (ix_cl own) idx with
      | some (t, _) => (match cond (Nat.beq dm 2 && (Nat.beq t 18 || Nat.beq t 19)) st [] with
        | .inl c2 :: .inl c1 :: r => some ([ix_nn c1, ix_nn c2, Nat.ble (c1.toNatClampNeg) (100000), Nat.ble (c2.toNatClampNeg) (100000), Nat.ble (k + (1 + c1.toNatClampNeg)) (mc), Nat.ble (n + (c1.toNatClampNeg + c1.toNatClampNeg * c2.toNatClampNeg)) (ms)], (pc + 4, ls, .inr (.inr (.inl (some M.1))) :: r, k + 1 + c1.toNatClampNeg, n + c1.toNatClampNeg + c1.toNatClampNeg * c2.toNatClampNeg, ix_mk2 M t c1.toNatClampNeg c2.toNatClampNeg))
        | _ => none)
      | none => none)
    | .new idx => (match ix_lk (ix_cl own) idx with
      | some (t, _) => cond (Nat.blt t 13) (some ([Nat.ble (k + 1) (mc), Nat.ble (n + ix_NN t) (ms)], (pc + 3, ls, .inr (.inr (.inl (some M.1))) :: st, k + 1, n + ix_NN t, ix_mk M t 0))) none
      | none => none)
    | .getfield idx => (match ix_lk (ix_fl own) idx with
      | some q => ix_get q pc ls st k n M
      | none => (match ix_lk (ix_sf own) idx with
        | some q => ix_getS q pc ls st k n M
        | none => none))
    | .getstatic idx => (match ix_lk (ix_sg own) idx with
      | some _ => some ([], (pc + 3, ls, .inl 1 :: st, k, n, M))
      | none => none)
    | .putfield idx => (match ix_lk (ix_fl own) idx with
      | some q => cond (q.2.2.2.1 && !(ini && Nat.beq own q.1)) none (ix_put q pc ls st k n M)
      | none => none)
    | _ => none
abbrev ix_Q : Type := Option ix_V → ix_M → Prop
abbrev ix_CT : Type := Nat → List ix_V → ix_M → ix_Q → Prop
/-- a method, as it is told to the interpreter: its class, its instructions, its return type, its cells and slots, whether it is a constructor, the script that it holds -/
abbrev ix_D : Type := Nat × (Nat → Option (Instr × Nat)) × Option FieldType × Nat × Nat × Bool × Option (Nat × (Nat → Int32))
def ix_rok (rt : Option FieldType) (v : Int32) : Prop := match rt with
  | some .int => True
  | some .char => v.toUInt32.toUInt16.toUInt32.toInt32 = v
  | some .byte => v.toInt8.toInt32 = v
  | some .boolean => v = 0 ∨ v = 1
  | _ => False
def ix_recv (kd cls : Nat) (a : List ix_V) (M : ix_M) : Prop := match kd with
  | 0 => (match a with
    | .inr (.inr (.inl (some r))) :: _ => r < M.1 ∧ M.2.1 r = cls ∧ cls < 13
    | .inr (.inr (.inr j)) :: _ => 1 ≤ j ∧ j ≤ 4 ∧ cls = 15
    | _ => False)
  | 1 => True
  | _ => (match a with
    | .inr (.inr (.inl (some _))) :: _ => True
    | _ => False)
def ix_kok (ins kd : Nat) : Bool := match ins, kd with
  | 0, 0 => true
  | 1, 1 => true
  | 2, 2 => true
  | 2, 3 => true
  | _, _ => false
/-- longs are copied from one row to another (or the same) -/
def ix_cpj (J : Nat → Nat → Int64) (a b sp dp c : Nat) : Nat → Nat → Int64 := fun x => if x = b then va_cpy (J a) (J b) sp dp c else J x
def ix_cp (M : ix_M) (a b sp dp c : Nat) : ix_M := match M with
  | (N, tg, ln, I, J, R) => (N, tg, ln, I, ix_cpj J a b sp dp c, R)
def ix_call (C : ix_CT) (ik own mc ms idx : Nat) (P : ix_X → Prop) (x : ix_X) : Prop := match x with
  | (pc, ls, st, k, n, M) => match ix_lk (ix_ml own) idx with
    | some (4, _) => (match ik, st with
      | 2, .inr (.inr (.inl (some _))) :: r => (r.map ix_cat).sum ≤ 8 ∧ P (pc + 3, ls, r, k, n, M)
      | _, _ => False)
    | some (9, y, _) => (match ik, y, st with
      | 1, 0, .inl m :: .inl i :: r => (r.map ix_cat).sum ≤ 8 ∧ (k ≤ mc ∧ n ≤ ms) ∧ (¬ i < 0 ∧ i < m) ∧ P (pc + 3, ls, r, k, n, M)
      | 1, 1, .inl c :: .inl dp :: .inr (.inr (.inl (some b))) :: .inl sp :: .inr (.inr (.inl (some a))) :: r => (r.map ix_cat).sum ≤ 8 ∧ ((a < M.1 ∧ M.2.1 a = 15 ∧ b < M.1 ∧ M.2.1 b = 15) ∧ (¬ sp < 0 ∧ ¬ dp < 0 ∧ ¬ c < 0) ∧ sp.toNatClampNeg + c.toNatClampNeg ≤ M.2.2.1 a ∧ dp.toNatClampNeg + c.toNatClampNeg ≤ M.2.2.1 b) ∧ P (pc + 3, ls, r, k, n, ix_cp M a b sp.toNatClampNeg dp.toNatClampNeg c.toNatClampNeg)
      | _, _, _ => False)
    | some (kd, y, na, cls, cmc, cms, _) => (match ix_pop na st [] with
      | some (a, r) => ix_kok ik kd = true ∧ ix_recv kd cls a M ∧ (r.map ix_cat).sum ≤ 8 ∧ k + cmc ≤ mc ∧ n + cms ≤ ms ∧ C y a M (fun v M' => P (pc + 3, ls, v.toList ++ r, k + cmc, n + cms, M'))
      | none => False)
    | none => False
def ix_Op (C : ix_CT) (d : ix_D) (Q : ix_Q) (P : ix_X → Prop) (i : Instr) (x : ix_X) : Prop := match d with
  | (own, _, rt, mc, ms, ini, sc) => match i with
    | .invokevirtual idx => ix_call C 0 own mc ms idx P x
    | .invokestatic idx => ix_call C 1 own mc ms idx P x
    | .invokespecial idx => ix_call C 2 own mc ms idx P x
    | .ireturn => (match x with
      | (_, _, [.inl v], k, n, M) => k ≤ mc ∧ n ≤ ms ∧ ix_rok rt v ∧ Q (some (.inl v)) M
      | _ => False)
    | .lreturn => (match x with
      | (_, _, [.inr (.inl v)], k, n, M) => k ≤ mc ∧ n ≤ ms ∧ rt = some .long ∧ Q (some (.inr (.inl v))) M
      | _ => False)
    | .areturn => (match x with
      | (_, _, [.inr (.inr (.inl v))], k, n, M) => k ≤ mc ∧ n ≤ ms ∧ rt = some (.object RX9) ∧ Q (some (.inr (.inr (.inl v)))) M
      | _ => False)
    | .return_ => (match x with
      | (_, _, [], k, n, M) => k ≤ mc ∧ n ≤ ms ∧ rt = none ∧ Q none M
      | _ => False)
    | .tableswitch dflt lo hi offs => (match x with
      | (pc, ls, .inl v :: r, k, n, M) => ∃ t : Nat, ((v.toInt < lo ∨ hi < v.toInt) ∧ (pc : Int) + dflt = (t : Int) ∨ ¬ (v.toInt < lo ∨ hi < v.toInt) ∧ ∃ off : Int, offs[(v.toInt - lo).toNat]? = some off ∧ (pc : Int) + off = (t : Int)) ∧ P (t, ls, r, k, n, M)
      | _ => False)
    | .lookupswitch dflt ps => (match x with
      | (pc, ls, .inl v :: r, k, n, M) => ∃ t : Nat, (ps.toList.zip (ps.toList.drop 1)).all (fun (a, next) => a.1 < next.1) = true ∧ (pc : Int) + Op.lookupswitch.offset ps.toList dflt v.toInt = (t : Int) ∧ P (t, ls, r, k, n, M)
      | _ => False)
    | i => (match ix_step own mc ms ini sc i x with
      | some (cs, x') => ix_all cs ∧ P x'
      | none => False)
def ix_Phi (C : ix_CT) (d : ix_D) (Q : ix_Q) (P : ix_X → Prop) (x : ix_X) : Prop := match d.2.1 x.1 with
  | some (i, _) => ix_Op C d Q P i x
  | none => False
/-- two memories that hold the same in all their cells -/
def ix_agr (M M' : ix_M) : Prop := match M, M' with
  | (N, tg, ln, I, J, R), (N', tg', ln', I', J', R') => N' = N ∧ ∀ a, a < N → tg' a = tg a ∧ (tg a < 13 → ∀ j, j < ix_NN (tg a) → (ix_isK (ix_tyy (tg a) j) = 1 → J' a j = J a j) ∧ (ix_isK (ix_tyy (tg a) j) = 2 → R' a j = R a j) ∧ (¬ ix_isK (ix_tyy (tg a) j) = 1 → ¬ ix_isK (ix_tyy (tg a) j) = 2 → I' a j = I a j)) ∧ (¬ tg a < 13 → ln' a = ln a ∧ ∀ j, j < ln a → (tg a = 15 → J' a j = J a j) ∧ (¬ tg a = 15 → tg a ≤ 16 → I' a j = I a j) ∧ (17 ≤ tg a → R' a j = R a j))
/-- locals, some of them forgotten -/
def ix_sub (ls ls' : List (Option ix_V)) : Prop := ls'.length = ls.length ∧ ∀ (i : Nat) (v : ix_V), ix_lg ls' i = some v → ix_lg ls i = some v
/-- the method comes from x to its end, with Q -/
def ix_W (C : ix_CT) (d : ix_D) (Q : ix_Q) (x : ix_X) : Prop := ∀ P : ix_X → Prop, (∀ x, ix_Phi C d Q P x → P x) → (∀ (pc : Nat) (ls ls' : List (Option ix_V)) (st : List ix_V) (k n : Nat) (M M' : ix_M), ix_agr M M' → ix_sub ls ls' → P (pc, ls', st, k, n, M') → P (pc, ls, st, k, n, M)) → P x
/-- a method's contract at depth d: what it is called with, and what must hold at its end -/
def ix_C : Nat → ix_CT
  | 0, _, _, _, _ => False
  | d + 1, y, a, M, Q => match ix_mt y with
    | some (_, _, mL, rt, o, na, mc, ms, l, _) => a.length = na ∧ (ix_ent a).length ≤ mL ∧ ix_W (ix_C d) (o, ix_lk l, rt, mc, ms, Nat.blt 0 mc, none) Q (0, ix_pad (ix_ent a) mL, [], 0, 0, M)
    | none => False
