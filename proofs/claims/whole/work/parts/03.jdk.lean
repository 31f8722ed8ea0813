/-! the JDK's own methods over texts that are reached: names, instructions -/
def RJ15 : String := "java/lang/String"
def RJ16 : String := "java/lang/StringLatin1"
def yJ15_checkIndex : MethodName := ⟨RJ15, "checkIndex", "(II)V"⟩
def yJ17_checkIndex : MethodName := ⟨"jdk/internal/util/Preconditions", "checkIndex", "(IILjava/util/function/BiFunction;)I"⟩
def yJ_charAt : MethodName := ⟨RJ15, "charAt", "(I)C"⟩
abbrev cJ_charAt : ByteArray := prog_17_method_56_code
def ix_l346 : List ix_In := [(0, .aload_n 0, 1), (1, .invokevirtual 492, 3), (4, .ifCond .eq 12, 3), (7, .aload_n 0, 1), (8, .getfield 9, 3), (11, .iload_n 1, 1), (12, .invokestatic 495, 3), (15, .ireturn, 1), (16, .aload_n 0, 1), (17, .getfield 9, 3), (20, .iload_n 1, 1), (21, .invokestatic 498, 3), (24, .ireturn, 1)]
theorem ix_v346 : ix_v cJ_charAt ix_l346 = true := by decide +kernel
def yJ_isLatin1 : MethodName := ⟨RJ15, "isLatin1", "()Z"⟩
abbrev cJ_isLatin1 : ByteArray := prog_17_method_154_code
def ix_l347 : List ix_In := [(0, .getstatic 38, 3), (3, .ifCond .eq 14, 3), (6, .aload_n 0, 1), (7, .getfield 15, 3), (10, .ifCond .ne 7, 3), (13, .iconst 1, 1), (14, .goto 4, 3), (17, .iconst 0, 1), (18, .ireturn, 1)]
theorem ix_v347 : ix_v cJ_isLatin1 ix_l347 = true := by decide +kernel
def yJ_lcharAt : MethodName := ⟨RJ16, "charAt", "([BI)C"⟩
abbrev cJ_lcharAt : ByteArray := prog_18_method_2_code
def ix_l348 : List ix_In := [(0, .iload_n 1, 1), (1, .aload_n 0, 1), (2, .arraylength, 1), (3, .invokestatic 9, 3), (6, .aload_n 0, 1), (7, .iload_n 1, 1), (8, .baload, 1), (9, .sipush 255, 3), (12, .iand, 1), (13, .i2c, 1), (14, .ireturn, 1)]
theorem ix_v348 : ix_v cJ_lcharAt ix_l348 = true := by decide +kernel
def yJ_indexOf1 : MethodName := ⟨RJ15, "indexOf", "(I)I"⟩
abbrev cJ_indexOf1 : ByteArray := prog_17_method_79_code
def ix_l349 : List ix_In := [(0, .aload_n 0, 1), (1, .iload_n 1, 1), (2, .iconst 0, 1), (3, .invokevirtual 633, 3), (6, .ireturn, 1)]
theorem ix_v349 : ix_v cJ_indexOf1 ix_l349 = true := by decide +kernel
def yJ_indexOf2 : MethodName := ⟨RJ15, "indexOf", "(II)I"⟩
abbrev cJ_indexOf2 : ByteArray := prog_17_method_80_code
def ix_l350 : List ix_In := [(0, .aload_n 0, 1), (1, .invokevirtual 492, 3), (4, .ifCond .eq 19, 3), (7, .aload_n 0, 1), (8, .getfield 9, 3), (11, .iload_n 1, 1), (12, .iload_n 2, 1), (13, .aload_n 0, 1), (14, .invokevirtual 505, 3), (17, .invokestatic 637, 3), (20, .goto 16, 3), (23, .aload_n 0, 1), (24, .getfield 9, 3), (27, .iload_n 1, 1), (28, .iload_n 2, 1), (29, .aload_n 0, 1), (30, .invokevirtual 505, 3), (33, .invokestatic 640, 3), (36, .ireturn, 1)]
theorem ix_v350 : ix_v cJ_indexOf2 ix_l350 = true := by decide +kernel
def yJ_length : MethodName := ⟨RJ15, "length", "()I"⟩
abbrev cJ_length : ByteArray := prog_17_method_54_code
def ix_l351 : List ix_In := [(0, .aload_n 0, 1), (1, .getfield 9, 3), (4, .arraylength, 1), (5, .aload_n 0, 1), (6, .invokevirtual 335, 3), (9, .ishr, 1), (10, .ireturn, 1)]
theorem ix_v351 : ix_v cJ_length ix_l351 = true := by decide +kernel
def yJ_coder : MethodName := ⟨RJ15, "coder", "()B"⟩
abbrev cJ_coder : ByteArray := prog_17_method_152_code
def ix_l352 : List ix_In := [(0, .getstatic 38, 3), (3, .ifCond .eq 10, 3), (6, .aload_n 0, 1), (7, .getfield 15, 3), (10, .goto 4, 3), (13, .iconst 1, 1), (14, .ireturn, 1)]
theorem ix_v352 : ix_v cJ_coder ix_l352 = true := by decide +kernel
def yJ_lindexOf : MethodName := ⟨RJ16, "indexOf", "([BIII)I"⟩
abbrev cJ_lindexOf : ByteArray := prog_18_method_22_code
def ix_l353 : List ix_In := [(0, .iload_n 1, 1), (1, .invokestatic 88, 3), (4, .ifCond .ne 5, 3), (7, .iconst (-1), 1), (8, .ireturn, 1), (9, .iload_n 2, 1), (10, .iconst 0, 1), (11, .invokestatic 92, 3), (14, .istore_n 2, 1), (15, .iload_n 3, 1), (16, .aload_n 0, 1), (17, .arraylength, 1), (18, .invokestatic 38, 3), (21, .istore_n 3, 1), (22, .iload_n 2, 1), (23, .iload_n 3, 1), (24, .if_icmp .lt 5, 3), (27, .iconst (-1), 1), (28, .ireturn, 1), (29, .aload_n 0, 1), (30, .iload_n 1, 1), (31, .iload_n 2, 1), (32, .iload_n 3, 1), (33, .invokestatic 95, 3), (36, .ireturn, 1)]
theorem ix_v353 : ix_v cJ_lindexOf ix_l353 = true := by decide +kernel
def yJ_canEncode : MethodName := ⟨RJ16, "canEncode", "(I)Z"⟩
abbrev cJ_canEncode : ByteArray := prog_18_method_4_code
def ix_l354 : List ix_In := [(0, .iload_n 0, 1), (1, .ifCond .lt 14, 3), (4, .iload_n 0, 1), (5, .sipush 255, 3), (8, .if_icmp .gt 7, 3), (11, .iconst 1, 1), (12, .goto 4, 3), (15, .iconst 0, 1), (16, .ireturn, 1)]
theorem ix_v354 : ix_v cJ_canEncode ix_l354 = true := by decide +kernel
def yJ_indexOfChar : MethodName := ⟨RJ16, "indexOfChar", "([BIII)I"⟩
abbrev cJ_indexOfChar : ByteArray := prog_18_method_23_code
def ix_l355 : List ix_In := [(0, .iload_n 1, 1), (1, .i2b, 1), (2, .istore 4, 2), (4, .iload_n 2, 1), (5, .istore 5, 2), (7, .iload 5, 2), (9, .iload_n 3, 1), (10, .if_icmp .ge 21, 3), (13, .aload_n 0, 1), (14, .iload 5, 2), (16, .baload, 1), (17, .iload 4, 2), (19, .if_icmp .ne 6, 3), (22, .iload 5, 2), (24, .ireturn, 1), (25, .iinc 5 1, 3), (28, .goto (-21), 3), (31, .iconst (-1), 1), (32, .ireturn, 1)]
theorem ix_v355 : ix_v cJ_indexOfChar ix_l355 = true := by decide +kernel
/-- the four texts: their lengths, their bytes -/
def ix_slen : List Nat := [108, 12, 52, 41]
def ix_sb0 : List Int32 := [100, 117, 101, 32, 32, 32, 116, 104, 105, 114, 100, 32, 102, 114, 111, 109, 32, 32, 116, 111, 32, 32, 32, 32, 119, 104, 101, 110, 32, 32, 103, 105, 118, 101, 115, 32, 111, 114, 32, 32, 32, 32, 97, 110, 100, 32, 32, 32, 110, 111, 116, 32, 32, 32, 108, 101, 97, 115, 116, 32, 109, 111, 115, 116, 32, 32, 119, 101, 105, 103, 104, 116, 112, 105, 101, 99, 101, 115, 115, 105, 122, 101, 32, 32, 104, 101, 97, 112, 32, 32, 121, 101, 97, 114, 32, 32, 116, 104, 105, 114, 100, 115, 118, 105, 97, 32, 32, 32]
def ix_sb1 : List Int32 := [58, 59, 44, 60, 62, 61, 43, 45, 42, 47, 40, 41]
def ix_sb2 : List Int32 := [32, 100, 117, 101, 32, 116, 104, 105, 114, 100, 32, 102, 114, 111, 109, 32, 116, 111, 32, 119, 104, 101, 110, 32, 103, 105, 118, 101, 115, 32, 111, 114, 32, 97, 110, 100, 32, 110, 111, 116, 32, 108, 101, 97, 115, 116, 32, 109, 111, 115, 116, 32]
def ix_sb3 : List Int32 := [32, 119, 101, 105, 103, 104, 116, 32, 112, 105, 101, 99, 101, 115, 32, 115, 105, 122, 101, 32, 104, 101, 97, 112, 32, 121, 101, 97, 114, 32, 116, 104, 105, 114, 100, 115, 32, 118, 105, 97, 32]
def ix_sbyt : List (List Int32) := [ix_sb0, ix_sb1, ix_sb2, ix_sb3]
def ix_sx0 : String := "due   third from  to    when  gives or    and   not   least most  weightpiecessize  heap  year  thirdsvia   "
def ix_sx1 : String := ":;,<>=+-*/()"
def ix_sx2 : String := " due third from to when gives or and not least most "
def ix_sx3 : String := " weight pieces size heap year thirds via "
def ix_stx (j : Nat) : String := match j with
  | 0 => ix_sx0
  | 1 => ix_sx1
  | 2 => ix_sx2
  | _ => ix_sx3
