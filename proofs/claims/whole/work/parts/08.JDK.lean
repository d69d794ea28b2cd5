def T_Jm_absI : List (Nat × RowE) := [(0, .iload_n 0, 1, 1, 0, 0, 0, 0, 0),
  (1, .ifCond .ge 8, 3, 4, 9, 0, 0, 0, 0),
  (4, .iload_n 0, 1, 5, 0, 0, 0, 0, 0),
  (5, .ineg, 1, 6, 0, 0, 0, 0, 0),
  (6, .goto 4, 3, 9, 10, 0, 0, 0, 0),
  (9, .iload_n 0, 1, 10, 0, 0, 0, 0, 0),
  (10, .ireturn, 1, 11, 0, 0, 0, 0, 0)]
set_option maxRecDepth 20000 in
theorem tk_Jm_absI : T_Jm_absI.all (rowOk prog_17_method_59_code (y_Jm_absI).cls wg 1 cls) = true := by decide +kernel
def T_Ja_fillI : List (Nat × RowE) := [(0, .iconst 0, 1, 1, 0, 0, 0, 0, 0),
  (1, .istore_n 2, 1, 2, 0, 2, 0, 0, 0),
  (2, .aload_n 0, 1, 3, 0, 0, 0, 0, 0),
  (3, .arraylength, 1, 4, 0, 0, 0, 0, 0),
  (4, .istore_n 3, 1, 5, 0, 3, 0, 0, 0),
  (5, .iload_n 2, 1, 6, 0, 2, 0, 0, 0),
  (6, .iload_n 3, 1, 7, 0, 3, 0, 0, 0),
  (7, .if_icmp .ge 13, 3, 10, 20, 0, 0, 0, 0),
  (10, .aload_n 0, 1, 11, 0, 0, 0, 0, 0),
  (11, .iload_n 2, 1, 12, 0, 2, 0, 0, 0),
  (12, .iload_n 1, 1, 13, 0, 1, 0, 0, 0),
  (13, .iastore, 1, 14, 0, 0, 0, 0, 0),
  (14, .iinc 2 1, 3, 17, 0, 2, 0, 1, 0),
  (17, .goto (-12), 3, 20, 5, 0, 0, 0, 0),
  (20, .return_, 1, 21, 0, 0, 0, 0, 0)]
set_option maxRecDepth 20000 in
theorem tk_Ja_fillI : T_Ja_fillI.all (rowOk prog_21_method_103_code (y_Ja_fillI).cls wg 4 cls) = true := by decide +kernel
def T_Jm_absJ : List (Nat × RowE) := [(0, .lload_n 0, 1, 1, 0, 0, 0, 0, 0),
  (1, .lconst 0, 1, 2, 0, 0, 0, 0, 0),
  (2, .lcmp, 1, 3, 0, 0, 0, 0, 0),
  (3, .ifCond .ge 8, 3, 6, 11, 0, 0, 0, 0),
  (6, .lload_n 0, 1, 7, 0, 0, 0, 0, 0),
  (7, .lneg, 1, 8, 0, 0, 0, 0, 0),
  (8, .goto 4, 3, 11, 12, 0, 0, 0, 0),
  (11, .lload_n 0, 1, 12, 0, 0, 0, 0, 0),
  (12, .lreturn, 1, 13, 0, 0, 0, 0, 0)]
set_option maxRecDepth 20000 in
theorem tk_Jm_absJ : T_Jm_absJ.all (rowOk prog_17_method_61_code (y_Jm_absJ).cls wg 2 cls) = true := by decide +kernel
def T_Jm_minI : List (Nat × RowE) := [(0, .iload_n 0, 1, 1, 0, 0, 0, 0, 0),
  (1, .iload_n 1, 1, 2, 0, 1, 0, 0, 0),
  (2, .if_icmp .gt 7, 3, 5, 9, 0, 0, 0, 0),
  (5, .iload_n 0, 1, 6, 0, 0, 0, 0, 0),
  (6, .goto 4, 3, 9, 10, 0, 0, 0, 0),
  (9, .iload_n 1, 1, 10, 0, 1, 0, 0, 0),
  (10, .ireturn, 1, 11, 0, 0, 0, 0, 0)]
set_option maxRecDepth 20000 in
theorem tk_Jm_minI : T_Jm_minI.all (rowOk prog_17_method_69_code (y_Jm_minI).cls wg 2 cls) = true := by decide +kernel
def T_Jm_maxI : List (Nat × RowE) := [(0, .iload_n 0, 1, 1, 0, 0, 0, 0, 0),
  (1, .iload_n 1, 1, 2, 0, 1, 0, 0, 0),
  (2, .if_icmp .lt 7, 3, 5, 9, 0, 0, 0, 0),
  (5, .iload_n 0, 1, 6, 0, 0, 0, 0, 0),
  (6, .goto 4, 3, 9, 10, 0, 0, 0, 0),
  (9, .iload_n 1, 1, 10, 0, 1, 0, 0, 0),
  (10, .ireturn, 1, 11, 0, 0, 0, 0, 0)]
set_option maxRecDepth 20000 in
theorem tk_Jm_maxI : T_Jm_maxI.all (rowOk prog_17_method_65_code (y_Jm_maxI).cls wg 2 cls) = true := by decide +kernel
def T_Ja_fillJ : List (Nat × RowE) := [(0, .iconst 0, 1, 1, 0, 0, 0, 0, 0),
  (1, .istore_n 3, 1, 2, 0, 3, 0, 0, 0),
  (2, .aload_n 0, 1, 3, 0, 0, 0, 0, 0),
  (3, .arraylength, 1, 4, 0, 0, 0, 0, 0),
  (4, .istore 4, 2, 6, 0, 4, 0, 0, 0),
  (6, .iload_n 3, 1, 7, 0, 3, 0, 0, 0),
  (7, .iload 4, 2, 9, 0, 4, 0, 0, 0),
  (9, .if_icmp .ge 13, 3, 12, 22, 0, 0, 0, 0),
  (12, .aload_n 0, 1, 13, 0, 0, 0, 0, 0),
  (13, .iload_n 3, 1, 14, 0, 3, 0, 0, 0),
  (14, .lload_n 1, 1, 15, 0, 1, 0, 0, 0),
  (15, .lastore, 1, 16, 0, 0, 0, 0, 0),
  (16, .iinc 3 1, 3, 19, 0, 3, 0, 1, 0),
  (19, .goto (-13), 3, 22, 6, 0, 0, 0, 0),
  (22, .return_, 1, 23, 0, 0, 0, 0, 0)]
set_option maxRecDepth 20000 in
theorem tk_Ja_fillJ : T_Ja_fillJ.all (rowOk prog_21_method_101_code (y_Ja_fillJ).cls wg 5 cls) = true := by decide +kernel
def T_Ji_bitCount : List (Nat × RowE) := [(0, .iload_n 0, 1, 1, 0, 0, 0, 0, 0),
  (1, .iload_n 0, 1, 2, 0, 0, 0, 0, 0),
  (2, .iconst 1, 1, 3, 0, 0, 0, 1, 0),
  (3, .iushr, 1, 4, 0, 0, 0, 0, 0),
  (4, .ldc_w 265, 3, 7, 0, 0, 687, 1431655765, 0),
  (7, .iand, 1, 8, 0, 0, 0, 0, 0),
  (8, .isub, 1, 9, 0, 0, 0, 0, 0),
  (9, .istore_n 0, 1, 10, 0, 0, 0, 0, 0),
  (10, .iload_n 0, 1, 11, 0, 0, 0, 0, 0),
  (11, .ldc_w 266, 3, 14, 0, 0, 688, 858993459, 0),
  (14, .iand, 1, 15, 0, 0, 0, 0, 0),
  (15, .iload_n 0, 1, 16, 0, 0, 0, 0, 0),
  (16, .iconst 2, 1, 17, 0, 0, 0, 2, 0),
  (17, .iushr, 1, 18, 0, 0, 0, 0, 0),
  (18, .ldc_w 266, 3, 21, 0, 0, 688, 858993459, 0),
  (21, .iand, 1, 22, 0, 0, 0, 0, 0),
  (22, .iadd, 1, 23, 0, 0, 0, 0, 0),
  (23, .istore_n 0, 1, 24, 0, 0, 0, 0, 0),
  (24, .iload_n 0, 1, 25, 0, 0, 0, 0, 0),
  (25, .iload_n 0, 1, 26, 0, 0, 0, 0, 0),
  (26, .iconst 4, 1, 27, 0, 0, 0, 4, 0),
  (27, .iushr, 1, 28, 0, 0, 0, 0, 0),
  (28, .iadd, 1, 29, 0, 0, 0, 0, 0),
  (29, .ldc_w 267, 3, 32, 0, 0, 689, 252645135, 0),
  (32, .iand, 1, 33, 0, 0, 0, 0, 0),
  (33, .istore_n 0, 1, 34, 0, 0, 0, 0, 0),
  (34, .iload_n 0, 1, 35, 0, 0, 0, 0, 0),
  (35, .iload_n 0, 1, 36, 0, 0, 0, 0, 0),
  (36, .bipush 8, 2, 38, 0, 0, 0, 8, 0),
  (38, .iushr, 1, 39, 0, 0, 0, 0, 0),
  (39, .iadd, 1, 40, 0, 0, 0, 0, 0),
  (40, .istore_n 0, 1, 41, 0, 0, 0, 0, 0),
  (41, .iload_n 0, 1, 42, 0, 0, 0, 0, 0),
  (42, .iload_n 0, 1, 43, 0, 0, 0, 0, 0),
  (43, .bipush 16, 2, 45, 0, 0, 0, 16, 0),
  (45, .iushr, 1, 46, 0, 0, 0, 0, 0),
  (46, .iadd, 1, 47, 0, 0, 0, 0, 0),
  (47, .istore_n 0, 1, 48, 0, 0, 0, 0, 0),
  (48, .iload_n 0, 1, 49, 0, 0, 0, 0, 0),
  (49, .bipush 63, 2, 51, 0, 0, 0, 63, 0),
  (51, .iand, 1, 52, 0, 0, 0, 0, 0),
  (52, .ireturn, 1, 53, 0, 0, 0, 0, 0)]
set_option maxRecDepth 20000 in
theorem tk_Ji_bitCount : T_Ji_bitCount.all (rowOk prog_16_method_49_code (y_Ji_bitCount).cls wg 1 cls) = true := by decide +kernel
def T_Jm_minJ : List (Nat × RowE) := [(0, .lload_n 0, 1, 1, 0, 0, 0, 0, 0),
  (1, .lload_n 2, 1, 2, 0, 2, 0, 0, 0),
  (2, .lcmp, 1, 3, 0, 0, 0, 0, 0),
  (3, .ifCond .gt 7, 3, 6, 10, 0, 0, 0, 0),
  (6, .lload_n 0, 1, 7, 0, 0, 0, 0, 0),
  (7, .goto 4, 3, 10, 11, 0, 0, 0, 0),
  (10, .lload_n 2, 1, 11, 0, 2, 0, 0, 0),
  (11, .lreturn, 1, 12, 0, 0, 0, 0, 0)]
set_option maxRecDepth 20000 in
theorem tk_Jm_minJ : T_Jm_minJ.all (rowOk prog_17_method_70_code (y_Jm_minJ).cls wg 4 cls) = true := by decide +kernel
def T_Jm_maxJ : List (Nat × RowE) := [(0, .lload_n 0, 1, 1, 0, 0, 0, 0, 0),
  (1, .lload_n 2, 1, 2, 0, 2, 0, 0, 0),
  (2, .lcmp, 1, 3, 0, 0, 0, 0, 0),
  (3, .ifCond .lt 7, 3, 6, 10, 0, 0, 0, 0),
  (6, .lload_n 0, 1, 7, 0, 0, 0, 0, 0),
  (7, .goto 4, 3, 10, 11, 0, 0, 0, 0),
  (10, .lload_n 2, 1, 11, 0, 2, 0, 0, 0),
  (11, .lreturn, 1, 12, 0, 0, 0, 0, 0)]
set_option maxRecDepth 20000 in
theorem tk_Jm_maxJ : T_Jm_maxJ.all (rowOk prog_17_method_66_code (y_Jm_maxJ).cls wg 4 cls) = true := by decide +kernel
