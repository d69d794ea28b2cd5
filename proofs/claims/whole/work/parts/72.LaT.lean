/-! NAMES: the law's methods, their tables, the words of their calls (printed by wip/gen/mk72.py) -/
/-- the words of the call of a helper -/
def CwW (own : String) (o : Nat) (y : MethodName) (bytes : ByteArray) (maxL : Nat) (hh : List (Nat × Nat × Nat × Nat)) (N : Nat) : Prop := Cond.methodLink own o y ∈ wg ∧ Cond.static y ∈ wg ∧ Cond.initialized y.cls ∈ wg ∧ Cond.codeWith y bytes maxL (some .int) hh ∈ wg ∧ (y.cls ≠ "java/lang/invoke/MethodHandle" ∧ y.cls ≠ "java/lang/invoke/VarHandle" ∧ (parseMethodDescriptor y.desc).map (fun d => d.parameters.length) = some N)
abbrev y_La_part : MethodName := ⟨"TogetherOrdersLaw", "part", "(LTogetherOrders;[J)I"⟩
abbrev y_La_box : MethodName := ⟨"TogetherOrdersLaw", "box", "(LTogetherOrders;IJJJJJ[J)I"⟩
abbrev y_La_deep : MethodName := ⟨"TogetherOrdersLaw", "deep", "(LTogetherOrders;IJ[J)I"⟩
abbrev y_La_slant : MethodName := ⟨"TogetherOrdersLaw", "slant", "(LTogetherOrders;JJJ[J)I"⟩
abbrev y_La_group : MethodName := ⟨"TogetherOrdersLaw", "group", "(LTogetherOrders;II[J)I"⟩
abbrev y_La_free : MethodName := ⟨"TogetherOrdersLaw", "free", "(LTogetherOrders;IIJ[J)I"⟩
abbrev y_La_step : MethodName := ⟨"TogetherOrdersLaw", "step", "(LTogetherOrders;II[J)I"⟩
abbrev y_La_apart : MethodName := ⟨"TogetherOrdersLaw", "apart", "(LTogetherOrders;I[J)I"⟩
abbrev y_La_locked : MethodName := ⟨"TogetherOrdersLaw", "locked", "(LTogetherOrders;I[J)I"⟩
abbrev y_La_stage : MethodName := ⟨"TogetherOrdersLaw", "stage", "(LTogetherOrders;I[J)I"⟩
abbrev y_La_turnings : MethodName := ⟨"TogetherOrdersLaw", "turnings", "(LTogetherOrders;[J)I"⟩
abbrev y_La_two : MethodName := ⟨"TogetherOrdersLaw", "two", "(LTogetherOrders;I[J)I"⟩
abbrev y_La_hands : MethodName := ⟨"TogetherOrdersLaw", "hands", "(LTogetherOrders;II[J)I"⟩
abbrev y_La_out : MethodName := ⟨"TogetherOrdersLaw", "out", "(LTogetherOrders;I[J)I"⟩
abbrev y_La_glue : MethodName := ⟨"TogetherOrdersLaw", "glue", "(LTogetherOrders;III[J)I"⟩
abbrev y_La_keeps : MethodName := ⟨"TogetherOrdersLaw", "keeps", "(LTogetherOrders;[J)I"⟩
abbrev y_La_clamp : MethodName := ⟨"TogetherOrdersLaw", "clamp", "(LTogetherOrders;IIJ[J)I"⟩
abbrev y_La_law : MethodName := ⟨"TogetherOrdersLaw", "law", "([I)Z"⟩
def T_La_part : List (Nat × RowE) := [(0, .aload_n 1, 1, 1, 0, 1, 0, 0, 0),
  (1, .iconst 0, 1, 2, 0, 0, 0, 0, 0),
  (2, .aload_n 0, 1, 3, 0, 0, 0, 0, 0),
  (3, .invokevirtual 7, 3, 6, 0, 0, 0, 0, 0),
  (6, .i2l, 1, 7, 0, 0, 0, 0, 0),
  (7, .lastore, 1, 8, 0, 0, 0, 0, 0),
  (8, .goto 6, 3, 11, 14, 0, 0, 0, 0),
  (11, .astore_n 2, 1, 12, 0, 2, 0, 0, 0),
  (12, .iconst 1, 1, 13, 0, 0, 0, 1, 0),
  (13, .ireturn, 1, 14, 0, 0, 0, 0, 0),
  (14, .iconst 0, 1, 15, 0, 0, 0, 0, 0),
  (15, .ireturn, 1, 16, 0, 0, 0, 0, 0)]
set_option maxRecDepth 20000 in
theorem tk_La_part : T_La_part.all (rowOk method_3_code (y_La_part).cls wg 3 cls) = true := by decide +kernel
def T_La_box : List (Nat × RowE) := [(0, .aload 12, 2, 2, 0, 12, 0, 0, 0),
  (2, .iconst 0, 1, 3, 0, 0, 0, 0, 0),
  (3, .aload_n 0, 1, 4, 0, 0, 0, 0, 0),
  (4, .iload_n 1, 1, 5, 0, 1, 0, 0, 0),
  (5, .lload_n 2, 1, 6, 0, 2, 0, 0, 0),
  (6, .lload 4, 2, 8, 0, 4, 0, 0, 0),
  (8, .lload 6, 2, 10, 0, 6, 0, 0, 0),
  (10, .lload 8, 2, 12, 0, 8, 0, 0, 0),
  (12, .lload 10, 2, 14, 0, 10, 0, 0, 0),
  (14, .invokevirtual 15, 3, 17, 0, 0, 0, 0, 0),
  (17, .i2l, 1, 18, 0, 0, 0, 0, 0),
  (18, .lastore, 1, 19, 0, 0, 0, 0, 0),
  (19, .goto 15, 3, 22, 34, 0, 0, 0, 0),
  (22, .astore 13, 2, 24, 0, 13, 0, 0, 0),
  (24, .iconst 1, 1, 25, 0, 0, 0, 1, 0),
  (25, .ireturn, 1, 26, 0, 0, 0, 0, 0),
  (26, .astore 13, 2, 28, 0, 13, 0, 0, 0),
  (28, .iconst 2, 1, 29, 0, 0, 0, 2, 0),
  (29, .ireturn, 1, 30, 0, 0, 0, 0, 0),
  (30, .astore 13, 2, 32, 0, 13, 0, 0, 0),
  (32, .iconst 3, 1, 33, 0, 0, 0, 3, 0),
  (33, .ireturn, 1, 34, 0, 0, 0, 0, 0),
  (34, .iconst 0, 1, 35, 0, 0, 0, 0, 0),
  (35, .ireturn, 1, 36, 0, 0, 0, 0, 0)]
set_option maxRecDepth 20000 in
theorem tk_La_box : T_La_box.all (rowOk method_4_code (y_La_box).cls wg 14 cls) = true := by decide +kernel
def T_La_deep : List (Nat × RowE) := [(0, .aload 4, 2, 2, 0, 4, 0, 0, 0),
  (2, .iconst 0, 1, 3, 0, 0, 0, 0, 0),
  (3, .aload_n 0, 1, 4, 0, 0, 0, 0, 0),
  (4, .iload_n 1, 1, 5, 0, 1, 0, 0, 0),
  (5, .lload_n 2, 1, 6, 0, 2, 0, 0, 0),
  (6, .invokevirtual 23, 3, 9, 0, 0, 0, 0, 0),
  (9, .ifCond .eq 7, 3, 12, 16, 0, 0, 0, 0),
  (12, .lconst 1, 1, 13, 0, 0, 0, 0, 1),
  (13, .goto 4, 3, 16, 17, 0, 0, 0, 0),
  (16, .lconst 0, 1, 17, 0, 0, 0, 0, 0),
  (17, .lastore, 1, 18, 0, 0, 0, 0, 0),
  (18, .goto 11, 3, 21, 29, 0, 0, 0, 0),
  (21, .astore 5, 2, 23, 0, 5, 0, 0, 0),
  (23, .iconst 1, 1, 24, 0, 0, 0, 1, 0),
  (24, .ireturn, 1, 25, 0, 0, 0, 0, 0),
  (25, .astore 5, 2, 27, 0, 5, 0, 0, 0),
  (27, .iconst 2, 1, 28, 0, 0, 0, 2, 0),
  (28, .ireturn, 1, 29, 0, 0, 0, 0, 0),
  (29, .iconst 0, 1, 30, 0, 0, 0, 0, 0),
  (30, .ireturn, 1, 31, 0, 0, 0, 0, 0)]
set_option maxRecDepth 20000 in
theorem tk_La_deep : T_La_deep.all (rowOk method_5_code (y_La_deep).cls wg 6 cls) = true := by decide +kernel
def T_La_slant : List (Nat × RowE) := [(0, .aload 7, 2, 2, 0, 7, 0, 0, 0),
  (2, .iconst 0, 1, 3, 0, 0, 0, 0, 0),
  (3, .aload_n 0, 1, 4, 0, 0, 0, 0, 0),
  (4, .lload_n 1, 1, 5, 0, 1, 0, 0, 0),
  (5, .lload_n 3, 1, 6, 0, 3, 0, 0, 0),
  (6, .lload 5, 2, 8, 0, 5, 0, 0, 0),
  (8, .invokevirtual 27, 3, 11, 0, 0, 0, 0, 0),
  (11, .ifCond .eq 7, 3, 14, 18, 0, 0, 0, 0),
  (14, .lconst 1, 1, 15, 0, 0, 0, 0, 1),
  (15, .goto 4, 3, 18, 19, 0, 0, 0, 0),
  (18, .lconst 0, 1, 19, 0, 0, 0, 0, 0),
  (19, .lastore, 1, 20, 0, 0, 0, 0, 0),
  (20, .goto 7, 3, 23, 27, 0, 0, 0, 0),
  (23, .astore 8, 2, 25, 0, 8, 0, 0, 0),
  (25, .iconst 1, 1, 26, 0, 0, 0, 1, 0),
  (26, .ireturn, 1, 27, 0, 0, 0, 0, 0),
  (27, .iconst 0, 1, 28, 0, 0, 0, 0, 0),
  (28, .ireturn, 1, 29, 0, 0, 0, 0, 0)]
set_option maxRecDepth 20000 in
theorem tk_La_slant : T_La_slant.all (rowOk method_6_code (y_La_slant).cls wg 9 cls) = true := by decide +kernel
def T_La_group : List (Nat × RowE) := [(0, .aload_n 3, 1, 1, 0, 3, 0, 0, 0),
  (1, .iconst 0, 1, 2, 0, 0, 0, 0, 0),
  (2, .aload_n 0, 1, 3, 0, 0, 0, 0, 0),
  (3, .iload_n 1, 1, 4, 0, 1, 0, 0, 0),
  (4, .iload_n 2, 1, 5, 0, 2, 0, 0, 0),
  (5, .invokevirtual 31, 3, 8, 0, 0, 0, 0, 0),
  (8, .ifCond .eq 7, 3, 11, 15, 0, 0, 0, 0),
  (11, .lconst 1, 1, 12, 0, 0, 0, 0, 1),
  (12, .goto 4, 3, 15, 16, 0, 0, 0, 0),
  (15, .lconst 0, 1, 16, 0, 0, 0, 0, 0),
  (16, .lastore, 1, 17, 0, 0, 0, 0, 0),
  (17, .goto 11, 3, 20, 28, 0, 0, 0, 0),
  (20, .astore 4, 2, 22, 0, 4, 0, 0, 0),
  (22, .iconst 1, 1, 23, 0, 0, 0, 1, 0),
  (23, .ireturn, 1, 24, 0, 0, 0, 0, 0),
  (24, .astore 4, 2, 26, 0, 4, 0, 0, 0),
  (26, .iconst 2, 1, 27, 0, 0, 0, 2, 0),
  (27, .ireturn, 1, 28, 0, 0, 0, 0, 0),
  (28, .iconst 0, 1, 29, 0, 0, 0, 0, 0),
  (29, .ireturn, 1, 30, 0, 0, 0, 0, 0)]
set_option maxRecDepth 20000 in
theorem tk_La_group : T_La_group.all (rowOk method_7_code (y_La_group).cls wg 5 cls) = true := by decide +kernel
def T_La_free : List (Nat × RowE) := [(0, .aload 5, 2, 2, 0, 5, 0, 0, 0),
  (2, .iconst 0, 1, 3, 0, 0, 0, 0, 0),
  (3, .aload_n 0, 1, 4, 0, 0, 0, 0, 0),
  (4, .iload_n 1, 1, 5, 0, 1, 0, 0, 0),
  (5, .iload_n 2, 1, 6, 0, 2, 0, 0, 0),
  (6, .lload_n 3, 1, 7, 0, 3, 0, 0, 0),
  (7, .invokevirtual 35, 3, 10, 0, 0, 0, 0, 0),
  (10, .ifCond .eq 7, 3, 13, 17, 0, 0, 0, 0),
  (13, .lconst 1, 1, 14, 0, 0, 0, 0, 1),
  (14, .goto 4, 3, 17, 18, 0, 0, 0, 0),
  (17, .lconst 0, 1, 18, 0, 0, 0, 0, 0),
  (18, .lastore, 1, 19, 0, 0, 0, 0, 0),
  (19, .goto 11, 3, 22, 30, 0, 0, 0, 0),
  (22, .astore 6, 2, 24, 0, 6, 0, 0, 0),
  (24, .iconst 1, 1, 25, 0, 0, 0, 1, 0),
  (25, .ireturn, 1, 26, 0, 0, 0, 0, 0),
  (26, .astore 6, 2, 28, 0, 6, 0, 0, 0),
  (28, .iconst 2, 1, 29, 0, 0, 0, 2, 0),
  (29, .ireturn, 1, 30, 0, 0, 0, 0, 0),
  (30, .iconst 0, 1, 31, 0, 0, 0, 0, 0),
  (31, .ireturn, 1, 32, 0, 0, 0, 0, 0)]
set_option maxRecDepth 20000 in
theorem tk_La_free : T_La_free.all (rowOk method_8_code (y_La_free).cls wg 7 cls) = true := by decide +kernel
def T_La_step : List (Nat × RowE) := [(0, .aload_n 3, 1, 1, 0, 3, 0, 0, 0),
  (1, .iconst 0, 1, 2, 0, 0, 0, 0, 0),
  (2, .aload_n 0, 1, 3, 0, 0, 0, 0, 0),
  (3, .iload_n 1, 1, 4, 0, 1, 0, 0, 0),
  (4, .iload_n 2, 1, 5, 0, 2, 0, 0, 0),
  (5, .invokevirtual 39, 3, 8, 0, 0, 0, 0, 0),
  (8, .i2l, 1, 9, 0, 0, 0, 0, 0),
  (9, .lastore, 1, 10, 0, 0, 0, 0, 0),
  (10, .goto 15, 3, 13, 25, 0, 0, 0, 0),
  (13, .astore 4, 2, 15, 0, 4, 0, 0, 0),
  (15, .iconst 1, 1, 16, 0, 0, 0, 1, 0),
  (16, .ireturn, 1, 17, 0, 0, 0, 0, 0),
  (17, .astore 4, 2, 19, 0, 4, 0, 0, 0),
  (19, .iconst 2, 1, 20, 0, 0, 0, 2, 0),
  (20, .ireturn, 1, 21, 0, 0, 0, 0, 0),
  (21, .astore 4, 2, 23, 0, 4, 0, 0, 0),
  (23, .iconst 3, 1, 24, 0, 0, 0, 3, 0),
  (24, .ireturn, 1, 25, 0, 0, 0, 0, 0),
  (25, .iconst 0, 1, 26, 0, 0, 0, 0, 0),
  (26, .ireturn, 1, 27, 0, 0, 0, 0, 0)]
set_option maxRecDepth 20000 in
theorem tk_La_step : T_La_step.all (rowOk method_9_code (y_La_step).cls wg 5 cls) = true := by decide +kernel
def T_La_apart : List (Nat × RowE) := [(0, .aload_n 2, 1, 1, 0, 2, 0, 0, 0),
  (1, .iconst 0, 1, 2, 0, 0, 0, 0, 0),
  (2, .aload_n 0, 1, 3, 0, 0, 0, 0, 0),
  (3, .iload_n 1, 1, 4, 0, 1, 0, 0, 0),
  (4, .invokevirtual 43, 3, 7, 0, 0, 0, 0, 0),
  (7, .i2l, 1, 8, 0, 0, 0, 0, 0),
  (8, .lastore, 1, 9, 0, 0, 0, 0, 0),
  (9, .goto 9, 3, 12, 18, 0, 0, 0, 0),
  (12, .astore_n 3, 1, 13, 0, 3, 0, 0, 0),
  (13, .iconst 1, 1, 14, 0, 0, 0, 1, 0),
  (14, .ireturn, 1, 15, 0, 0, 0, 0, 0),
  (15, .astore_n 3, 1, 16, 0, 3, 0, 0, 0),
  (16, .iconst 2, 1, 17, 0, 0, 0, 2, 0),
  (17, .ireturn, 1, 18, 0, 0, 0, 0, 0),
  (18, .iconst 0, 1, 19, 0, 0, 0, 0, 0),
  (19, .ireturn, 1, 20, 0, 0, 0, 0, 0)]
set_option maxRecDepth 20000 in
theorem tk_La_apart : T_La_apart.all (rowOk method_10_code (y_La_apart).cls wg 4 cls) = true := by decide +kernel
def T_La_locked : List (Nat × RowE) := [(0, .aload_n 2, 1, 1, 0, 2, 0, 0, 0),
  (1, .iconst 0, 1, 2, 0, 0, 0, 0, 0),
  (2, .aload_n 0, 1, 3, 0, 0, 0, 0, 0),
  (3, .iload_n 1, 1, 4, 0, 1, 0, 0, 0),
  (4, .invokevirtual 47, 3, 7, 0, 0, 0, 0, 0),
  (7, .i2l, 1, 8, 0, 0, 0, 0, 0),
  (8, .lastore, 1, 9, 0, 0, 0, 0, 0),
  (9, .goto 9, 3, 12, 18, 0, 0, 0, 0),
  (12, .astore_n 3, 1, 13, 0, 3, 0, 0, 0),
  (13, .iconst 1, 1, 14, 0, 0, 0, 1, 0),
  (14, .ireturn, 1, 15, 0, 0, 0, 0, 0),
  (15, .astore_n 3, 1, 16, 0, 3, 0, 0, 0),
  (16, .iconst 2, 1, 17, 0, 0, 0, 2, 0),
  (17, .ireturn, 1, 18, 0, 0, 0, 0, 0),
  (18, .iconst 0, 1, 19, 0, 0, 0, 0, 0),
  (19, .ireturn, 1, 20, 0, 0, 0, 0, 0)]
set_option maxRecDepth 20000 in
theorem tk_La_locked : T_La_locked.all (rowOk method_11_code (y_La_locked).cls wg 4 cls) = true := by decide +kernel
def T_La_stage : List (Nat × RowE) := [(0, .aload_n 2, 1, 1, 0, 2, 0, 0, 0),
  (1, .iconst 0, 1, 2, 0, 0, 0, 0, 0),
  (2, .aload_n 0, 1, 3, 0, 0, 0, 0, 0),
  (3, .iload_n 1, 1, 4, 0, 1, 0, 0, 0),
  (4, .invokevirtual 50, 3, 7, 0, 0, 0, 0, 0),
  (7, .i2l, 1, 8, 0, 0, 0, 0, 0),
  (8, .lastore, 1, 9, 0, 0, 0, 0, 0),
  (9, .goto 9, 3, 12, 18, 0, 0, 0, 0),
  (12, .astore_n 3, 1, 13, 0, 3, 0, 0, 0),
  (13, .iconst 1, 1, 14, 0, 0, 0, 1, 0),
  (14, .ireturn, 1, 15, 0, 0, 0, 0, 0),
  (15, .astore_n 3, 1, 16, 0, 3, 0, 0, 0),
  (16, .iconst 2, 1, 17, 0, 0, 0, 2, 0),
  (17, .ireturn, 1, 18, 0, 0, 0, 0, 0),
  (18, .iconst 0, 1, 19, 0, 0, 0, 0, 0),
  (19, .ireturn, 1, 20, 0, 0, 0, 0, 0)]
set_option maxRecDepth 20000 in
theorem tk_La_stage : T_La_stage.all (rowOk method_12_code (y_La_stage).cls wg 4 cls) = true := by decide +kernel
def T_La_turnings : List (Nat × RowE) := [(0, .aload_n 1, 1, 1, 0, 1, 0, 0, 0),
  (1, .iconst 0, 1, 2, 0, 0, 0, 0, 0),
  (2, .aload_n 0, 1, 3, 0, 0, 0, 0, 0),
  (3, .invokevirtual 53, 3, 6, 0, 0, 0, 0, 0),
  (6, .i2l, 1, 7, 0, 0, 0, 0, 0),
  (7, .lastore, 1, 8, 0, 0, 0, 0, 0),
  (8, .goto 6, 3, 11, 14, 0, 0, 0, 0),
  (11, .astore_n 2, 1, 12, 0, 2, 0, 0, 0),
  (12, .iconst 1, 1, 13, 0, 0, 0, 1, 0),
  (13, .ireturn, 1, 14, 0, 0, 0, 0, 0),
  (14, .iconst 0, 1, 15, 0, 0, 0, 0, 0),
  (15, .ireturn, 1, 16, 0, 0, 0, 0, 0)]
set_option maxRecDepth 20000 in
theorem tk_La_turnings : T_La_turnings.all (rowOk method_13_code (y_La_turnings).cls wg 3 cls) = true := by decide +kernel
def T_La_two : List (Nat × RowE) := [(0, .aload_n 2, 1, 1, 0, 2, 0, 0, 0),
  (1, .iconst 0, 1, 2, 0, 0, 0, 0, 0),
  (2, .aload_n 0, 1, 3, 0, 0, 0, 0, 0),
  (3, .iload_n 1, 1, 4, 0, 1, 0, 0, 0),
  (4, .invokevirtual 56, 3, 7, 0, 0, 0, 0, 0),
  (7, .i2l, 1, 8, 0, 0, 0, 0, 0),
  (8, .lastore, 1, 9, 0, 0, 0, 0, 0),
  (9, .goto 9, 3, 12, 18, 0, 0, 0, 0),
  (12, .astore_n 3, 1, 13, 0, 3, 0, 0, 0),
  (13, .iconst 1, 1, 14, 0, 0, 0, 1, 0),
  (14, .ireturn, 1, 15, 0, 0, 0, 0, 0),
  (15, .astore_n 3, 1, 16, 0, 3, 0, 0, 0),
  (16, .iconst 2, 1, 17, 0, 0, 0, 2, 0),
  (17, .ireturn, 1, 18, 0, 0, 0, 0, 0),
  (18, .iconst 0, 1, 19, 0, 0, 0, 0, 0),
  (19, .ireturn, 1, 20, 0, 0, 0, 0, 0)]
set_option maxRecDepth 20000 in
theorem tk_La_two : T_La_two.all (rowOk method_14_code (y_La_two).cls wg 4 cls) = true := by decide +kernel
def T_La_hands : List (Nat × RowE) := [(0, .aload_n 3, 1, 1, 0, 3, 0, 0, 0),
  (1, .iconst 0, 1, 2, 0, 0, 0, 0, 0),
  (2, .aload_n 0, 1, 3, 0, 0, 0, 0, 0),
  (3, .iload_n 1, 1, 4, 0, 1, 0, 0, 0),
  (4, .iload_n 2, 1, 5, 0, 2, 0, 0, 0),
  (5, .invokevirtual 59, 3, 8, 0, 0, 0, 0, 0),
  (8, .i2l, 1, 9, 0, 0, 0, 0, 0),
  (9, .lastore, 1, 10, 0, 0, 0, 0, 0),
  (10, .goto 15, 3, 13, 25, 0, 0, 0, 0),
  (13, .astore 4, 2, 15, 0, 4, 0, 0, 0),
  (15, .iconst 1, 1, 16, 0, 0, 0, 1, 0),
  (16, .ireturn, 1, 17, 0, 0, 0, 0, 0),
  (17, .astore 4, 2, 19, 0, 4, 0, 0, 0),
  (19, .iconst 2, 1, 20, 0, 0, 0, 2, 0),
  (20, .ireturn, 1, 21, 0, 0, 0, 0, 0),
  (21, .astore 4, 2, 23, 0, 4, 0, 0, 0),
  (23, .iconst 3, 1, 24, 0, 0, 0, 3, 0),
  (24, .ireturn, 1, 25, 0, 0, 0, 0, 0),
  (25, .iconst 0, 1, 26, 0, 0, 0, 0, 0),
  (26, .ireturn, 1, 27, 0, 0, 0, 0, 0)]
set_option maxRecDepth 20000 in
theorem tk_La_hands : T_La_hands.all (rowOk method_15_code (y_La_hands).cls wg 5 cls) = true := by decide +kernel
def T_La_out : List (Nat × RowE) := [(0, .aload_n 2, 1, 1, 0, 2, 0, 0, 0),
  (1, .iconst 0, 1, 2, 0, 0, 0, 0, 0),
  (2, .aload_n 0, 1, 3, 0, 0, 0, 0, 0),
  (3, .iload_n 1, 1, 4, 0, 1, 0, 0, 0),
  (4, .invokevirtual 62, 3, 7, 0, 0, 0, 0, 0),
  (7, .i2l, 1, 8, 0, 0, 0, 0, 0),
  (8, .lastore, 1, 9, 0, 0, 0, 0, 0),
  (9, .goto 9, 3, 12, 18, 0, 0, 0, 0),
  (12, .astore_n 3, 1, 13, 0, 3, 0, 0, 0),
  (13, .iconst 1, 1, 14, 0, 0, 0, 1, 0),
  (14, .ireturn, 1, 15, 0, 0, 0, 0, 0),
  (15, .astore_n 3, 1, 16, 0, 3, 0, 0, 0),
  (16, .iconst 2, 1, 17, 0, 0, 0, 2, 0),
  (17, .ireturn, 1, 18, 0, 0, 0, 0, 0),
  (18, .iconst 0, 1, 19, 0, 0, 0, 0, 0),
  (19, .ireturn, 1, 20, 0, 0, 0, 0, 0)]
set_option maxRecDepth 20000 in
theorem tk_La_out : T_La_out.all (rowOk method_16_code (y_La_out).cls wg 4 cls) = true := by decide +kernel
def T_La_glue : List (Nat × RowE) := [(0, .aload 4, 2, 2, 0, 4, 0, 0, 0),
  (2, .iconst 0, 1, 3, 0, 0, 0, 0, 0),
  (3, .aload_n 0, 1, 4, 0, 0, 0, 0, 0),
  (4, .iload_n 1, 1, 5, 0, 1, 0, 0, 0),
  (5, .iload_n 2, 1, 6, 0, 2, 0, 0, 0),
  (6, .iload_n 3, 1, 7, 0, 3, 0, 0, 0),
  (7, .invokevirtual 65, 3, 10, 0, 0, 0, 0, 0),
  (10, .ifCond .eq 7, 3, 13, 17, 0, 0, 0, 0),
  (13, .lconst 1, 1, 14, 0, 0, 0, 0, 1),
  (14, .goto 4, 3, 17, 18, 0, 0, 0, 0),
  (17, .lconst 0, 1, 18, 0, 0, 0, 0, 0),
  (18, .lastore, 1, 19, 0, 0, 0, 0, 0),
  (19, .goto 11, 3, 22, 30, 0, 0, 0, 0),
  (22, .astore 5, 2, 24, 0, 5, 0, 0, 0),
  (24, .iconst 1, 1, 25, 0, 0, 0, 1, 0),
  (25, .ireturn, 1, 26, 0, 0, 0, 0, 0),
  (26, .astore 5, 2, 28, 0, 5, 0, 0, 0),
  (28, .iconst 2, 1, 29, 0, 0, 0, 2, 0),
  (29, .ireturn, 1, 30, 0, 0, 0, 0, 0),
  (30, .iconst 0, 1, 31, 0, 0, 0, 0, 0),
  (31, .ireturn, 1, 32, 0, 0, 0, 0, 0)]
set_option maxRecDepth 20000 in
theorem tk_La_glue : T_La_glue.all (rowOk method_17_code (y_La_glue).cls wg 6 cls) = true := by decide +kernel
def T_La_keeps : List (Nat × RowE) := [(0, .aload_n 1, 1, 1, 0, 1, 0, 0, 0),
  (1, .iconst 0, 1, 2, 0, 0, 0, 0, 0),
  (2, .aload_n 0, 1, 3, 0, 0, 0, 0, 0),
  (3, .invokevirtual 69, 3, 6, 0, 0, 0, 0, 0),
  (6, .ifCond .eq 7, 3, 9, 13, 0, 0, 0, 0),
  (9, .lconst 1, 1, 10, 0, 0, 0, 0, 1),
  (10, .goto 4, 3, 13, 14, 0, 0, 0, 0),
  (13, .lconst 0, 1, 14, 0, 0, 0, 0, 0),
  (14, .lastore, 1, 15, 0, 0, 0, 0, 0),
  (15, .goto 6, 3, 18, 21, 0, 0, 0, 0),
  (18, .astore_n 2, 1, 19, 0, 2, 0, 0, 0),
  (19, .iconst 1, 1, 20, 0, 0, 0, 1, 0),
  (20, .ireturn, 1, 21, 0, 0, 0, 0, 0),
  (21, .iconst 0, 1, 22, 0, 0, 0, 0, 0),
  (22, .ireturn, 1, 23, 0, 0, 0, 0, 0)]
set_option maxRecDepth 20000 in
theorem tk_La_keeps : T_La_keeps.all (rowOk method_18_code (y_La_keeps).cls wg 3 cls) = true := by decide +kernel
def T_La_clamp : List (Nat × RowE) := [(0, .aload 5, 2, 2, 0, 5, 0, 0, 0),
  (2, .iconst 0, 1, 3, 0, 0, 0, 0, 0),
  (3, .aload_n 0, 1, 4, 0, 0, 0, 0, 0),
  (4, .iload_n 1, 1, 5, 0, 1, 0, 0, 0),
  (5, .iload_n 2, 1, 6, 0, 2, 0, 0, 0),
  (6, .lload_n 3, 1, 7, 0, 3, 0, 0, 0),
  (7, .invokevirtual 73, 3, 10, 0, 0, 0, 0, 0),
  (10, .i2l, 1, 11, 0, 0, 0, 0, 0),
  (11, .lastore, 1, 12, 0, 0, 0, 0, 0),
  (12, .goto 11, 3, 15, 23, 0, 0, 0, 0),
  (15, .astore 6, 2, 17, 0, 6, 0, 0, 0),
  (17, .iconst 1, 1, 18, 0, 0, 0, 1, 0),
  (18, .ireturn, 1, 19, 0, 0, 0, 0, 0),
  (19, .astore 6, 2, 21, 0, 6, 0, 0, 0),
  (21, .iconst 2, 1, 22, 0, 0, 0, 2, 0),
  (22, .ireturn, 1, 23, 0, 0, 0, 0, 0),
  (23, .iconst 0, 1, 24, 0, 0, 0, 0, 0),
  (24, .ireturn, 1, 25, 0, 0, 0, 0, 0)]
set_option maxRecDepth 20000 in
theorem tk_La_clamp : T_La_clamp.all (rowOk method_19_code (y_La_clamp).cls wg 7 cls) = true := by decide +kernel
theorem cw_La_7 : CwV "TogetherOrdersLaw" 7 y_TO_part prog_1_method_2_code 1 (some .int) 0 := ⟨wg_in 333 (by decide +kernel) rfl, wg_in 334 (by decide +kernel) rfl, wg_in 335 (by decide +kernel) rfl, wg_in 1 (by decide +kernel) rfl, wg_in 336 (by decide +kernel) rfl, by decide +kernel⟩
theorem cw_La_15 : CwV "TogetherOrdersLaw" 15 y_TO_box prog_1_method_3_code 12 (some .int) 6 := ⟨wg_in 414 (by decide +kernel) rfl, wg_in 415 (by decide +kernel) rfl, wg_in 416 (by decide +kernel) rfl, wg_in 1 (by decide +kernel) rfl, wg_in 417 (by decide +kernel) rfl, by decide +kernel⟩
theorem cw_La_23 : CwV "TogetherOrdersLaw" 23 y_TO_deep prog_1_method_4_code 5 (some .boolean) 2 := ⟨wg_in 475 (by decide +kernel) rfl, wg_in 476 (by decide +kernel) rfl, wg_in 477 (by decide +kernel) rfl, wg_in 1 (by decide +kernel) rfl, wg_in 478 (by decide +kernel) rfl, by decide +kernel⟩
theorem cw_La_27 : CwV "TogetherOrdersLaw" 27 y_TO_slant prog_1_method_5_code 8 (some .boolean) 3 := ⟨wg_in 492 (by decide +kernel) rfl, wg_in 493 (by decide +kernel) rfl, wg_in 494 (by decide +kernel) rfl, wg_in 1 (by decide +kernel) rfl, wg_in 495 (by decide +kernel) rfl, by decide +kernel⟩
theorem cw_La_31 : CwV "TogetherOrdersLaw" 31 y_TO_group prog_1_method_6_code 4 (some .boolean) 2 := ⟨wg_in 510 (by decide +kernel) rfl, wg_in 511 (by decide +kernel) rfl, wg_in 512 (by decide +kernel) rfl, wg_in 1 (by decide +kernel) rfl, wg_in 513 (by decide +kernel) rfl, by decide +kernel⟩
theorem cw_La_35 : CwV "TogetherOrdersLaw" 35 y_TO_free prog_1_method_7_code 5 (some .boolean) 3 := ⟨wg_in 533 (by decide +kernel) rfl, wg_in 534 (by decide +kernel) rfl, wg_in 535 (by decide +kernel) rfl, wg_in 1 (by decide +kernel) rfl, wg_in 536 (by decide +kernel) rfl, by decide +kernel⟩
theorem cw_La_39 : CwV "TogetherOrdersLaw" 39 y_TO_step prog_1_method_9_code 4 (some .int) 2 := ⟨wg_in 550 (by decide +kernel) rfl, wg_in 551 (by decide +kernel) rfl, wg_in 552 (by decide +kernel) rfl, wg_in 1 (by decide +kernel) rfl, wg_in 553 (by decide +kernel) rfl, by decide +kernel⟩
theorem cw_La_43 : CwV "TogetherOrdersLaw" 43 y_TO_apart prog_1_method_10_code 2 (some .int) 1 := ⟨wg_in 581 (by decide +kernel) rfl, wg_in 582 (by decide +kernel) rfl, wg_in 583 (by decide +kernel) rfl, wg_in 1 (by decide +kernel) rfl, wg_in 584 (by decide +kernel) rfl, by decide +kernel⟩
theorem cw_La_47 : CwV "TogetherOrdersLaw" 47 y_TO_locked prog_1_method_11_code 2 (some .int) 1 := ⟨wg_in 593 (by decide +kernel) rfl, wg_in 594 (by decide +kernel) rfl, wg_in 595 (by decide +kernel) rfl, wg_in 1 (by decide +kernel) rfl, wg_in 596 (by decide +kernel) rfl, by decide +kernel⟩
theorem cw_La_50 : CwV "TogetherOrdersLaw" 50 y_TO_stage prog_1_method_12_code 2 (some .int) 1 := ⟨wg_in 601 (by decide +kernel) rfl, wg_in 602 (by decide +kernel) rfl, wg_in 603 (by decide +kernel) rfl, wg_in 1 (by decide +kernel) rfl, wg_in 604 (by decide +kernel) rfl, by decide +kernel⟩
theorem cw_La_53 : CwV "TogetherOrdersLaw" 53 y_TO_turnings prog_1_method_13_code 1 (some .int) 0 := ⟨wg_in 613 (by decide +kernel) rfl, wg_in 614 (by decide +kernel) rfl, wg_in 615 (by decide +kernel) rfl, wg_in 1 (by decide +kernel) rfl, wg_in 616 (by decide +kernel) rfl, by decide +kernel⟩
theorem cw_La_56 : CwV "TogetherOrdersLaw" 56 y_TO_two prog_1_method_14_code 2 (some .int) 1 := ⟨wg_in 648 (by decide +kernel) rfl, wg_in 649 (by decide +kernel) rfl, wg_in 650 (by decide +kernel) rfl, wg_in 1 (by decide +kernel) rfl, wg_in 651 (by decide +kernel) rfl, by decide +kernel⟩
theorem cw_La_59 : CwV "TogetherOrdersLaw" 59 y_TO_hands prog_1_method_15_code 3 (some .int) 2 := ⟨wg_in 688 (by decide +kernel) rfl, wg_in 689 (by decide +kernel) rfl, wg_in 690 (by decide +kernel) rfl, wg_in 1 (by decide +kernel) rfl, wg_in 691 (by decide +kernel) rfl, by decide +kernel⟩
theorem cw_La_62 : CwV "TogetherOrdersLaw" 62 y_TO_out prog_1_method_16_code 2 (some .int) 1 := ⟨wg_in 706 (by decide +kernel) rfl, wg_in 707 (by decide +kernel) rfl, wg_in 708 (by decide +kernel) rfl, wg_in 1 (by decide +kernel) rfl, wg_in 709 (by decide +kernel) rfl, by decide +kernel⟩
theorem cw_La_65 : CwV "TogetherOrdersLaw" 65 y_TO_glue prog_1_method_17_code 4 (some .boolean) 3 := ⟨wg_in 728 (by decide +kernel) rfl, wg_in 729 (by decide +kernel) rfl, wg_in 730 (by decide +kernel) rfl, wg_in 1 (by decide +kernel) rfl, wg_in 731 (by decide +kernel) rfl, by decide +kernel⟩
theorem cw_La_69 : CwV "TogetherOrdersLaw" 69 y_TO_keeps prog_1_method_18_code 4 (some .boolean) 0 := ⟨wg_in 740 (by decide +kernel) rfl, wg_in 741 (by decide +kernel) rfl, wg_in 742 (by decide +kernel) rfl, wg_in 1 (by decide +kernel) rfl, wg_in 743 (by decide +kernel) rfl, by decide +kernel⟩
theorem cw_La_73 : CwV "TogetherOrdersLaw" 73 y_TO_clamp prog_1_method_19_code 6 (some .int) 3 := ⟨wg_in 748 (by decide +kernel) rfl, wg_in 749 (by decide +kernel) rfl, wg_in 750 (by decide +kernel) rfl, wg_in 1 (by decide +kernel) rfl, wg_in 751 (by decide +kernel) rfl, by decide +kernel⟩
theorem cw_La_77 : CwI "TogetherOrdersLaw" 77 y_TO_init prog_1_method_1_code 1 0 := ⟨wg_in 22 (by decide +kernel) rfl, wg_in 23 (by decide +kernel) rfl, wg_in 1 (by decide +kernel) rfl, wg_in 24 (by decide +kernel) rfl, by decide +kernel, rfl⟩
theorem cw_La_80 : CwI "TogetherOrdersLaw" 80 y_Mo_init prog_11_method_1_code 2 0 := ⟨wg_in 771 (by decide +kernel) rfl, wg_in 772 (by decide +kernel) rfl, wg_in 11 (by decide +kernel) rfl, wg_in 773 (by decide +kernel) rfl, by decide +kernel, rfl⟩
theorem cw_La_81 : CwW "TogetherOrdersLaw" 81 y_La_part method_3_code 3 [(0, 8, 11, 13)] 2 := ⟨wg_in 329 (by decide +kernel) rfl, wg_in 330 (by decide +kernel) rfl, wg_in 0 (by decide +kernel) rfl, wg_in 331 (by decide +kernel) rfl, by decide +kernel⟩
theorem cw_La_86 : CwV "TogetherOrdersLaw" 86 y_Mo_part prog_11_method_4_code 1 (some .int) 0 := ⟨wg_in 846 (by decide +kernel) rfl, wg_in 847 (by decide +kernel) rfl, wg_in 848 (by decide +kernel) rfl, wg_in 11 (by decide +kernel) rfl, wg_in 849 (by decide +kernel) rfl, by decide +kernel⟩
theorem cw_La_87 : CwV "TogetherOrdersLaw" 87 y_Mo_thrown prog_11_method_2_code 1 (some .int) 0 := ⟨wg_in 842 (by decide +kernel) rfl, wg_in 843 (by decide +kernel) rfl, wg_in 844 (by decide +kernel) rfl, wg_in 11 (by decide +kernel) rfl, wg_in 845 (by decide +kernel) rfl, by decide +kernel⟩
theorem cw_La_92 : CwW "TogetherOrdersLaw" 92 y_La_box method_4_code 14 [(0, 19, 22, 19), (0, 19, 26, 13), (0, 19, 30, 21)] 8 := ⟨wg_in 409 (by decide +kernel) rfl, wg_in 410 (by decide +kernel) rfl, wg_in 0 (by decide +kernel) rfl, wg_in 411 (by decide +kernel) rfl, by decide +kernel⟩
theorem cw_La_95 : CwV "TogetherOrdersLaw" 95 y_Mo_box prog_11_method_6_code 14 (some .int) 6 := ⟨wg_in 850 (by decide +kernel) rfl, wg_in 851 (by decide +kernel) rfl, wg_in 852 (by decide +kernel) rfl, wg_in 11 (by decide +kernel) rfl, wg_in 853 (by decide +kernel) rfl, by decide +kernel⟩
theorem cw_La_96 : CwW "TogetherOrdersLaw" 96 y_La_deep method_5_code 6 [(0, 18, 21, 19), (0, 18, 25, 21)] 4 := ⟨wg_in 472 (by decide +kernel) rfl, wg_in 473 (by decide +kernel) rfl, wg_in 0 (by decide +kernel) rfl, wg_in 474 (by decide +kernel) rfl, by decide +kernel⟩
theorem cw_La_99 : CwV "TogetherOrdersLaw" 99 y_Mo_deep prog_11_method_7_code 4 (some .boolean) 2 := ⟨wg_in 859 (by decide +kernel) rfl, wg_in 860 (by decide +kernel) rfl, wg_in 861 (by decide +kernel) rfl, wg_in 11 (by decide +kernel) rfl, wg_in 862 (by decide +kernel) rfl, by decide +kernel⟩
theorem cw_La_100 : CwW "TogetherOrdersLaw" 100 y_La_slant method_6_code 9 [(0, 20, 23, 21)] 5 := ⟨wg_in 489 (by decide +kernel) rfl, wg_in 490 (by decide +kernel) rfl, wg_in 0 (by decide +kernel) rfl, wg_in 491 (by decide +kernel) rfl, by decide +kernel⟩
theorem cw_La_103 : CwV "TogetherOrdersLaw" 103 y_Mo_slant prog_11_method_8_code 9 (some .boolean) 3 := ⟨wg_in 863 (by decide +kernel) rfl, wg_in 864 (by decide +kernel) rfl, wg_in 865 (by decide +kernel) rfl, wg_in 11 (by decide +kernel) rfl, wg_in 866 (by decide +kernel) rfl, by decide +kernel⟩
theorem cw_La_104 : CwW "TogetherOrdersLaw" 104 y_La_group method_7_code 5 [(0, 17, 20, 19), (0, 17, 24, 21)] 4 := ⟨wg_in 507 (by decide +kernel) rfl, wg_in 508 (by decide +kernel) rfl, wg_in 0 (by decide +kernel) rfl, wg_in 509 (by decide +kernel) rfl, by decide +kernel⟩
theorem cw_La_107 : CwV "TogetherOrdersLaw" 107 y_Mo_group prog_11_method_9_code 6 (some .boolean) 2 := ⟨wg_in 869 (by decide +kernel) rfl, wg_in 870 (by decide +kernel) rfl, wg_in 871 (by decide +kernel) rfl, wg_in 11 (by decide +kernel) rfl, wg_in 872 (by decide +kernel) rfl, by decide +kernel⟩
theorem cw_La_108 : CwW "TogetherOrdersLaw" 108 y_La_free method_8_code 7 [(0, 19, 22, 19), (0, 19, 26, 21)] 5 := ⟨wg_in 530 (by decide +kernel) rfl, wg_in 531 (by decide +kernel) rfl, wg_in 0 (by decide +kernel) rfl, wg_in 532 (by decide +kernel) rfl, by decide +kernel⟩
theorem cw_La_111 : CwV "TogetherOrdersLaw" 111 y_Mo_free prog_11_method_15_code 5 (some .boolean) 3 := ⟨wg_in 873 (by decide +kernel) rfl, wg_in 874 (by decide +kernel) rfl, wg_in 875 (by decide +kernel) rfl, wg_in 11 (by decide +kernel) rfl, wg_in 876 (by decide +kernel) rfl, by decide +kernel⟩
theorem cw_La_112 : CwV "TogetherOrdersLaw" 112 y_TO_run prog_1_method_8_code 1 (some .int) 0 := ⟨wg_in 265 (by decide +kernel) rfl, wg_in 266 (by decide +kernel) rfl, wg_in 267 (by decide +kernel) rfl, wg_in 1 (by decide +kernel) rfl, wg_in 268 (by decide +kernel) rfl, by decide +kernel⟩
theorem cw_La_115 : CwV "TogetherOrdersLaw" 115 y_Mo_run prog_11_method_23_code 4 (some .int) 0 := ⟨wg_in 893 (by decide +kernel) rfl, wg_in 894 (by decide +kernel) rfl, wg_in 895 (by decide +kernel) rfl, wg_in 11 (by decide +kernel) rfl, wg_in 896 (by decide +kernel) rfl, by decide +kernel⟩
theorem cw_La_116 : CwW "TogetherOrdersLaw" 116 y_La_step method_9_code 5 [(0, 10, 13, 13), (0, 10, 17, 19), (0, 10, 21, 21)] 4 := ⟨wg_in 547 (by decide +kernel) rfl, wg_in 548 (by decide +kernel) rfl, wg_in 0 (by decide +kernel) rfl, wg_in 549 (by decide +kernel) rfl, by decide +kernel⟩
theorem cw_La_118 : CwV "TogetherOrdersLaw" 118 y_Mo_step prog_11_method_26_code 4 (some .int) 2 := ⟨wg_in 924 (by decide +kernel) rfl, wg_in 925 (by decide +kernel) rfl, wg_in 926 (by decide +kernel) rfl, wg_in 11 (by decide +kernel) rfl, wg_in 927 (by decide +kernel) rfl, by decide +kernel⟩
theorem cw_La_119 : CwW "TogetherOrdersLaw" 119 y_La_apart method_10_code 4 [(0, 9, 12, 13), (0, 9, 15, 19)] 3 := ⟨wg_in 578 (by decide +kernel) rfl, wg_in 579 (by decide +kernel) rfl, wg_in 0 (by decide +kernel) rfl, wg_in 580 (by decide +kernel) rfl, by decide +kernel⟩
theorem cw_La_122 : CwV "TogetherOrdersLaw" 122 y_Mo_apart prog_11_method_27_code 2 (some .int) 1 := ⟨wg_in 936 (by decide +kernel) rfl, wg_in 937 (by decide +kernel) rfl, wg_in 938 (by decide +kernel) rfl, wg_in 11 (by decide +kernel) rfl, wg_in 939 (by decide +kernel) rfl, by decide +kernel⟩
theorem cw_La_123 : CwW "TogetherOrdersLaw" 123 y_La_locked method_11_code 4 [(0, 9, 12, 13), (0, 9, 15, 19)] 3 := ⟨wg_in 590 (by decide +kernel) rfl, wg_in 591 (by decide +kernel) rfl, wg_in 0 (by decide +kernel) rfl, wg_in 592 (by decide +kernel) rfl, by decide +kernel⟩
theorem cw_La_125 : CwV "TogetherOrdersLaw" 125 y_Mo_locked prog_11_method_28_code 4 (some .int) 1 := ⟨wg_in 944 (by decide +kernel) rfl, wg_in 945 (by decide +kernel) rfl, wg_in 946 (by decide +kernel) rfl, wg_in 11 (by decide +kernel) rfl, wg_in 947 (by decide +kernel) rfl, by decide +kernel⟩
theorem cw_La_126 : CwW "TogetherOrdersLaw" 126 y_La_stage method_12_code 4 [(0, 9, 12, 13), (0, 9, 15, 19)] 3 := ⟨wg_in 598 (by decide +kernel) rfl, wg_in 599 (by decide +kernel) rfl, wg_in 0 (by decide +kernel) rfl, wg_in 600 (by decide +kernel) rfl, by decide +kernel⟩
theorem cw_La_128 : CwV "TogetherOrdersLaw" 128 y_Mo_stage prog_11_method_29_code 5 (some .int) 1 := ⟨wg_in 948 (by decide +kernel) rfl, wg_in 949 (by decide +kernel) rfl, wg_in 950 (by decide +kernel) rfl, wg_in 11 (by decide +kernel) rfl, wg_in 951 (by decide +kernel) rfl, by decide +kernel⟩
theorem cw_La_129 : CwW "TogetherOrdersLaw" 129 y_La_turnings method_13_code 3 [(0, 8, 11, 13)] 2 := ⟨wg_in 610 (by decide +kernel) rfl, wg_in 611 (by decide +kernel) rfl, wg_in 0 (by decide +kernel) rfl, wg_in 612 (by decide +kernel) rfl, by decide +kernel⟩
theorem cw_La_131 : CwV "TogetherOrdersLaw" 131 y_Mo_turnings prog_11_method_30_code 10 (some .int) 0 := ⟨wg_in 952 (by decide +kernel) rfl, wg_in 953 (by decide +kernel) rfl, wg_in 954 (by decide +kernel) rfl, wg_in 11 (by decide +kernel) rfl, wg_in 955 (by decide +kernel) rfl, by decide +kernel⟩
theorem cw_La_132 : CwW "TogetherOrdersLaw" 132 y_La_two method_14_code 4 [(0, 9, 12, 13), (0, 9, 15, 21)] 3 := ⟨wg_in 645 (by decide +kernel) rfl, wg_in 646 (by decide +kernel) rfl, wg_in 0 (by decide +kernel) rfl, wg_in 647 (by decide +kernel) rfl, by decide +kernel⟩
theorem cw_La_134 : CwV "TogetherOrdersLaw" 134 y_Mo_two prog_11_method_36_code 3 (some .int) 1 := ⟨wg_in 956 (by decide +kernel) rfl, wg_in 957 (by decide +kernel) rfl, wg_in 958 (by decide +kernel) rfl, wg_in 11 (by decide +kernel) rfl, wg_in 959 (by decide +kernel) rfl, by decide +kernel⟩
theorem cw_La_135 : CwW "TogetherOrdersLaw" 135 y_La_hands method_15_code 5 [(0, 10, 13, 13), (0, 10, 17, 19), (0, 10, 21, 21)] 4 := ⟨wg_in 685 (by decide +kernel) rfl, wg_in 686 (by decide +kernel) rfl, wg_in 0 (by decide +kernel) rfl, wg_in 687 (by decide +kernel) rfl, by decide +kernel⟩
theorem cw_La_137 : CwV "TogetherOrdersLaw" 137 y_Mo_hands prog_11_method_37_code 8 (some .int) 2 := ⟨wg_in 980 (by decide +kernel) rfl, wg_in 981 (by decide +kernel) rfl, wg_in 982 (by decide +kernel) rfl, wg_in 11 (by decide +kernel) rfl, wg_in 983 (by decide +kernel) rfl, by decide +kernel⟩
theorem cw_La_138 : CwW "TogetherOrdersLaw" 138 y_La_out method_16_code 4 [(0, 9, 12, 13), (0, 9, 15, 19)] 3 := ⟨wg_in 703 (by decide +kernel) rfl, wg_in 704 (by decide +kernel) rfl, wg_in 0 (by decide +kernel) rfl, wg_in 705 (by decide +kernel) rfl, by decide +kernel⟩
theorem cw_La_140 : CwV "TogetherOrdersLaw" 140 y_Mo_out prog_11_method_39_code 8 (some .int) 1 := ⟨wg_in 984 (by decide +kernel) rfl, wg_in 985 (by decide +kernel) rfl, wg_in 986 (by decide +kernel) rfl, wg_in 11 (by decide +kernel) rfl, wg_in 987 (by decide +kernel) rfl, by decide +kernel⟩
theorem cw_La_141 : CwW "TogetherOrdersLaw" 141 y_La_glue method_17_code 6 [(0, 19, 22, 19), (0, 19, 26, 21)] 5 := ⟨wg_in 725 (by decide +kernel) rfl, wg_in 726 (by decide +kernel) rfl, wg_in 0 (by decide +kernel) rfl, wg_in 727 (by decide +kernel) rfl, by decide +kernel⟩
theorem cw_La_144 : CwV "TogetherOrdersLaw" 144 y_Mo_glue prog_11_method_40_code 4 (some .boolean) 3 := ⟨wg_in 991 (by decide +kernel) rfl, wg_in 992 (by decide +kernel) rfl, wg_in 993 (by decide +kernel) rfl, wg_in 11 (by decide +kernel) rfl, wg_in 994 (by decide +kernel) rfl, by decide +kernel⟩
theorem cw_La_145 : CwW "TogetherOrdersLaw" 145 y_La_keeps method_18_code 3 [(0, 15, 18, 13)] 2 := ⟨wg_in 737 (by decide +kernel) rfl, wg_in 738 (by decide +kernel) rfl, wg_in 0 (by decide +kernel) rfl, wg_in 739 (by decide +kernel) rfl, by decide +kernel⟩
theorem cw_La_147 : CwV "TogetherOrdersLaw" 147 y_Mo_keeps prog_11_method_42_code 4 (some .boolean) 0 := ⟨wg_in 995 (by decide +kernel) rfl, wg_in 996 (by decide +kernel) rfl, wg_in 997 (by decide +kernel) rfl, wg_in 11 (by decide +kernel) rfl, wg_in 998 (by decide +kernel) rfl, by decide +kernel⟩
theorem cw_La_148 : CwW "TogetherOrdersLaw" 148 y_La_clamp method_19_code 7 [(0, 12, 15, 19), (0, 12, 19, 21)] 5 := ⟨wg_in 745 (by decide +kernel) rfl, wg_in 746 (by decide +kernel) rfl, wg_in 0 (by decide +kernel) rfl, wg_in 747 (by decide +kernel) rfl, by decide +kernel⟩
theorem cw_La_150 : CwV "TogetherOrdersLaw" 150 y_Mo_clamp prog_11_method_44_code 12 (some .int) 3 := ⟨wg_in 1003 (by decide +kernel) rfl, wg_in 1004 (by decide +kernel) rfl, wg_in 1005 (by decide +kernel) rfl, wg_in 11 (by decide +kernel) rfl, wg_in 1006 (by decide +kernel) rfl, by decide +kernel⟩
