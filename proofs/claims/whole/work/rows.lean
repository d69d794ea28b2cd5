section
-- ===== PART A: goes FIRST, ahead of the names: the tables' words, and 'selects' of the private methods out of them =====
/-- a private method of a class that the tables say can be made, by its rows of tables_1 -/
def lw_okq (q : MethodName × Nat) : Prop := (q.1.cls ≠ "java/lang/invoke/MethodHandle" ∧ q.1.cls ≠ "java/lang/invoke/VarHandle") ∧ Cond.instantiable q.1.cls q.2 ∈ tables_1 ∧ Cond.privateMethod q.1 ∈ tables_1 ∧ Cond.instanceMethod q.1 ∈ tables_1
theorem lw_p0 : lw_okq (⟨"TogetherOrders$Bars", "fill", "(I)V"⟩, 7) := ⟨⟨by decide +kernel, by decide +kernel⟩, List.mem_of_getElem? (i := 116) (by decide +kernel), List.mem_of_getElem? (i := 280) (by decide +kernel), List.mem_of_getElem? (i := 281) (by decide +kernel)⟩
theorem lw_p1 : lw_okq (⟨"TogetherOrders$Bars", "note", "(IIII)V"⟩, 7) := ⟨⟨by decide +kernel, by decide +kernel⟩, List.mem_of_getElem? (i := 116) (by decide +kernel), List.mem_of_getElem? (i := 287) (by decide +kernel), List.mem_of_getElem? (i := 288) (by decide +kernel)⟩
theorem lw_p2 : lw_okq (⟨"TogetherOrders$Bars", "meets", "(IIII)Z"⟩, 7) := ⟨⟨by decide +kernel, by decide +kernel⟩, List.mem_of_getElem? (i := 116) (by decide +kernel), List.mem_of_getElem? (i := 291) (by decide +kernel), List.mem_of_getElem? (i := 292) (by decide +kernel)⟩
theorem lw_p3 : lw_okq (⟨"java/lang/Throwable", "fillInStackTrace", "(I)Ljava/lang/Throwable;"⟩, 6) := ⟨⟨by decide +kernel, by decide +kernel⟩, List.mem_of_getElem? (i := 376) (by decide +kernel), List.mem_of_getElem? (i := 374) (by decide +kernel), List.mem_of_getElem? (i := 375) (by decide +kernel)⟩
theorem lw_p4 : lw_okq (⟨"TogetherOrders", "needPart", "(I)V"⟩, 9) := ⟨⟨by decide +kernel, by decide +kernel⟩, List.mem_of_getElem? (i := 21) (by decide +kernel), List.mem_of_getElem? (i := 419) (by decide +kernel), List.mem_of_getElem? (i := 420) (by decide +kernel)⟩
theorem lw_p5 : lw_okq (⟨"TogetherOrders", "needTwoParts", "(II)V"⟩, 9) := ⟨⟨by decide +kernel, by decide +kernel⟩, List.mem_of_getElem? (i := 21) (by decide +kernel), List.mem_of_getElem? (i := 515) (by decide +kernel), List.mem_of_getElem? (i := 516) (by decide +kernel)⟩
theorem lw_p6 : lw_okq (⟨"TogetherOrders", "needSteps", "()V"⟩, 9) := ⟨⟨by decide +kernel, by decide +kernel⟩, List.mem_of_getElem? (i := 21) (by decide +kernel), List.mem_of_getElem? (i := 555) (by decide +kernel), List.mem_of_getElem? (i := 556) (by decide +kernel)⟩
theorem lw_p7 : lw_okq (⟨"TogetherOrders", "needRun", "()V"⟩, 9) := ⟨⟨by decide +kernel, by decide +kernel⟩, List.mem_of_getElem? (i := 21) (by decide +kernel), List.mem_of_getElem? (i := 559) (by decide +kernel), List.mem_of_getElem? (i := 560) (by decide +kernel)⟩
theorem lw_p8 : lw_okq (⟨"TogetherOrders", "needNumber", "(I)V"⟩, 9) := ⟨⟨by decide +kernel, by decide +kernel⟩, List.mem_of_getElem? (i := 21) (by decide +kernel), List.mem_of_getElem? (i := 586) (by decide +kernel), List.mem_of_getElem? (i := 587) (by decide +kernel)⟩
theorem lw_p9 : lw_okq (⟨"TogetherOrders$Sets", "findTurnings", "()I"⟩, 8) := ⟨⟨by decide +kernel, by decide +kernel⟩, List.mem_of_getElem? (i := 182) (by decide +kernel), List.mem_of_getElem? (i := 622) (by decide +kernel), List.mem_of_getElem? (i := 623) (by decide +kernel)⟩
theorem lw_p10 : lw_okq (⟨"TogetherOrders$Sets", "reach", "(I)V"⟩, 8) := ⟨⟨by decide +kernel, by decide +kernel⟩, List.mem_of_getElem? (i := 182) (by decide +kernel), List.mem_of_getElem? (i := 630) (by decide +kernel), List.mem_of_getElem? (i := 631) (by decide +kernel)⟩
theorem lw_p11 : lw_okq (⟨"TogetherOrders$Sets", "isEmptiedByOneMore", "(I)Z"⟩, 8) := ⟨⟨by decide +kernel, by decide +kernel⟩, List.mem_of_getElem? (i := 182) (by decide +kernel), List.mem_of_getElem? (i := 634) (by decide +kernel), List.mem_of_getElem? (i := 635) (by decide +kernel)⟩
theorem lw_p12 : lw_okq (⟨"TogetherOrders$Sets", "isReached", "(I)Z"⟩, 8) := ⟨⟨by decide +kernel, by decide +kernel⟩, List.mem_of_getElem? (i := 182) (by decide +kernel), List.mem_of_getElem? (i := 638) (by decide +kernel), List.mem_of_getElem? (i := 639) (by decide +kernel)⟩
theorem lw_p13 : lw_okq (⟨"TogetherOrders$Sets", "leave", "(I)V"⟩, 8) := ⟨⟨by decide +kernel, by decide +kernel⟩, List.mem_of_getElem? (i := 182) (by decide +kernel), List.mem_of_getElem? (i := 642) (by decide +kernel), List.mem_of_getElem? (i := 643) (by decide +kernel)⟩
theorem lw_p14 : lw_okq (⟨"TogetherOrders$SmallMoves", "isFreedBy", "(I)Z"⟩, 6) := ⟨⟨by decide +kernel, by decide +kernel⟩, List.mem_of_getElem? (i := 213) (by decide +kernel), List.mem_of_getElem? (i := 664) (by decide +kernel), List.mem_of_getElem? (i := 665) (by decide +kernel)⟩
theorem lw_p15 : lw_okq (⟨"TogetherOrders$SmallMoves", "isSomeFree", "()Z"⟩, 6) := ⟨⟨by decide +kernel, by decide +kernel⟩, List.mem_of_getElem? (i := 213) (by decide +kernel), List.mem_of_getElem? (i := 668) (by decide +kernel), List.mem_of_getElem? (i := 669) (by decide +kernel)⟩
def lw_privs_1 : List (MethodName × Nat) := [(⟨"TogetherOrders$Bars", "fill", "(I)V"⟩, 7), (⟨"TogetherOrders$Bars", "note", "(IIII)V"⟩, 7), (⟨"TogetherOrders$Bars", "meets", "(IIII)Z"⟩, 7), (⟨"java/lang/Throwable", "fillInStackTrace", "(I)Ljava/lang/Throwable;"⟩, 6), (⟨"TogetherOrders", "needPart", "(I)V"⟩, 9), (⟨"TogetherOrders", "needTwoParts", "(II)V"⟩, 9), (⟨"TogetherOrders", "needSteps", "()V"⟩, 9), (⟨"TogetherOrders", "needRun", "()V"⟩, 9), (⟨"TogetherOrders", "needNumber", "(I)V"⟩, 9), (⟨"TogetherOrders$Sets", "findTurnings", "()I"⟩, 8), (⟨"TogetherOrders$Sets", "reach", "(I)V"⟩, 8), (⟨"TogetherOrders$Sets", "isEmptiedByOneMore", "(I)Z"⟩, 8), (⟨"TogetherOrders$Sets", "isReached", "(I)Z"⟩, 8), (⟨"TogetherOrders$Sets", "leave", "(I)V"⟩, 8), (⟨"TogetherOrders$SmallMoves", "isFreedBy", "(I)Z"⟩, 6), (⟨"TogetherOrders$SmallMoves", "isSomeFree", "()Z"⟩, 6)]
theorem lw_r1 : ∀ q ∈ lw_privs_1, lw_okq q := List.forall_mem_cons.mpr ⟨lw_p0, List.forall_mem_cons.mpr ⟨lw_p1, List.forall_mem_cons.mpr ⟨lw_p2, List.forall_mem_cons.mpr ⟨lw_p3, List.forall_mem_cons.mpr ⟨lw_p4, List.forall_mem_cons.mpr ⟨lw_p5, List.forall_mem_cons.mpr ⟨lw_p6, List.forall_mem_cons.mpr ⟨lw_p7, List.forall_mem_cons.mpr ⟨lw_p8, List.forall_mem_cons.mpr ⟨lw_p9, List.forall_mem_cons.mpr ⟨lw_p10, List.forall_mem_cons.mpr ⟨lw_p11, List.forall_mem_cons.mpr ⟨lw_p12, List.forall_mem_cons.mpr ⟨lw_p13, List.forall_mem_cons.mpr ⟨lw_p14, List.forall_mem_cons.mpr ⟨lw_p15, fun _ h => absurd h List.not_mem_nil⟩⟩⟩⟩⟩⟩⟩⟩⟩⟩⟩⟩⟩⟩⟩⟩
theorem lw_p16 : lw_okq (⟨"TogetherOrders$SmallMoves", "unmoved", "()I"⟩, 6) := ⟨⟨by decide +kernel, by decide +kernel⟩, List.mem_of_getElem? (i := 213) (by decide +kernel), List.mem_of_getElem? (i := 672) (by decide +kernel), List.mem_of_getElem? (i := 673) (by decide +kernel)⟩
theorem lw_p17 : lw_okq (⟨"TogetherOrders$SmallMoves", "isBarred", "(III)Z"⟩, 6) := ⟨⟨by decide +kernel, by decide +kernel⟩, List.mem_of_getElem? (i := 213) (by decide +kernel), List.mem_of_getElem? (i := 680) (by decide +kernel), List.mem_of_getElem? (i := 681) (by decide +kernel)⟩
theorem lw_p18 : lw_okq (⟨"TogetherOrders$Sets", "findBefore", "()V"⟩, 8) := ⟨⟨by decide +kernel, by decide +kernel⟩, List.mem_of_getElem? (i := 182) (by decide +kernel), List.mem_of_getElem? (i := 720) (by decide +kernel), List.mem_of_getElem? (i := 721) (by decide +kernel)⟩
theorem lw_p19 : lw_okq (⟨"TogetherOrders$Sets", "takeEachOff", "(II)V"⟩, 8) := ⟨⟨by decide +kernel, by decide +kernel⟩, List.mem_of_getElem? (i := 182) (by decide +kernel), List.mem_of_getElem? (i := 726) (by decide +kernel), List.mem_of_getElem? (i := 727) (by decide +kernel)⟩
theorem lw_p20 : lw_okq (⟨"TogetherOrdersModel", "stand", "()V"⟩, 21) := ⟨⟨by decide +kernel, by decide +kernel⟩, List.mem_of_getElem? (i := 775) (by decide +kernel), List.mem_of_getElem? (i := 883) (by decide +kernel), List.mem_of_getElem? (i := 884) (by decide +kernel)⟩
theorem lw_p21 : lw_okq (⟨"TogetherOrdersModel", "barsOf", "(II)I"⟩, 21) := ⟨⟨by decide +kernel, by decide +kernel⟩, List.mem_of_getElem? (i := 775) (by decide +kernel), List.mem_of_getElem? (i := 887) (by decide +kernel), List.mem_of_getElem? (i := 888) (by decide +kernel)⟩
theorem lw_p22 : lw_okq (⟨"TogetherOrdersModel", "sweeps", "(III)Z"⟩, 21) := ⟨⟨by decide +kernel, by decide +kernel⟩, List.mem_of_getElem? (i := 775) (by decide +kernel), List.mem_of_getElem? (i := 891) (by decide +kernel), List.mem_of_getElem? (i := 892) (by decide +kernel)⟩
theorem lw_p23 : lw_okq (⟨"TogetherOrdersModel", "edge", "(II)J"⟩, 21) := ⟨⟨by decide +kernel, by decide +kernel⟩, List.mem_of_getElem? (i := 775) (by decide +kernel), List.mem_of_getElem? (i := 895) (by decide +kernel), List.mem_of_getElem? (i := 896) (by decide +kernel)⟩
theorem lw_p24 : lw_okq (⟨"TogetherOrdersModel", "reckonBars", "()V"⟩, 21) := ⟨⟨by decide +kernel, by decide +kernel⟩, List.mem_of_getElem? (i := 775) (by decide +kernel), List.mem_of_getElem? (i := 903) (by decide +kernel), List.mem_of_getElem? (i := 904) (by decide +kernel)⟩
theorem lw_p25 : lw_okq (⟨"TogetherOrdersModel", "allItems", "()I"⟩, 21) := ⟨⟨by decide +kernel, by decide +kernel⟩, List.mem_of_getElem? (i := 775) (by decide +kernel), List.mem_of_getElem? (i := 907) (by decide +kernel), List.mem_of_getElem? (i := 908) (by decide +kernel)⟩
theorem lw_p26 : lw_okq (⟨"TogetherOrdersModel", "isItem", "(I)Z"⟩, 21) := ⟨⟨by decide +kernel, by decide +kernel⟩, List.mem_of_getElem? (i := 775) (by decide +kernel), List.mem_of_getElem? (i := 911) (by decide +kernel), List.mem_of_getElem? (i := 912) (by decide +kernel)⟩
theorem lw_p27 : lw_okq (⟨"TogetherOrdersModel", "wayOut", "(II)I"⟩, 21) := ⟨⟨by decide +kernel, by decide +kernel⟩, List.mem_of_getElem? (i := 775) (by decide +kernel), List.mem_of_getElem? (i := 918) (by decide +kernel), List.mem_of_getElem? (i := 919) (by decide +kernel)⟩
theorem lw_p28 : lw_okq (⟨"TogetherOrdersModel", "isFree", "(III)Z"⟩, 21) := ⟨⟨by decide +kernel, by decide +kernel⟩, List.mem_of_getElem? (i := 775) (by decide +kernel), List.mem_of_getElem? (i := 922) (by decide +kernel), List.mem_of_getElem? (i := 923) (by decide +kernel)⟩
theorem lw_p29 : lw_okq (⟨"TogetherOrdersModel", "allParts", "(I)I"⟩, 21) := ⟨⟨by decide +kernel, by decide +kernel⟩, List.mem_of_getElem? (i := 775) (by decide +kernel), List.mem_of_getElem? (i := 926) (by decide +kernel), List.mem_of_getElem? (i := 927) (by decide +kernel)⟩
theorem lw_p30 : lw_okq (⟨"TogetherOrdersModel", "noSteps", "()Z"⟩, 21) := ⟨⟨by decide +kernel, by decide +kernel⟩, List.mem_of_getElem? (i := 775) (by decide +kernel), List.mem_of_getElem? (i := 934) (by decide +kernel), List.mem_of_getElem? (i := 935) (by decide +kernel)⟩
theorem lw_p31 : lw_okq (⟨"TogetherOrdersModel", "partsOf", "(I)I"⟩, 21) := ⟨⟨by decide +kernel, by decide +kernel⟩, List.mem_of_getElem? (i := 775) (by decide +kernel), List.mem_of_getElem? (i := 938) (by decide +kernel), List.mem_of_getElem? (i := 939) (by decide +kernel)⟩
def lw_privs_2 : List (MethodName × Nat) := [(⟨"TogetherOrders$SmallMoves", "unmoved", "()I"⟩, 6), (⟨"TogetherOrders$SmallMoves", "isBarred", "(III)Z"⟩, 6), (⟨"TogetherOrders$Sets", "findBefore", "()V"⟩, 8), (⟨"TogetherOrders$Sets", "takeEachOff", "(II)V"⟩, 8), (⟨"TogetherOrdersModel", "stand", "()V"⟩, 21), (⟨"TogetherOrdersModel", "barsOf", "(II)I"⟩, 21), (⟨"TogetherOrdersModel", "sweeps", "(III)Z"⟩, 21), (⟨"TogetherOrdersModel", "edge", "(II)J"⟩, 21), (⟨"TogetherOrdersModel", "reckonBars", "()V"⟩, 21), (⟨"TogetherOrdersModel", "allItems", "()I"⟩, 21), (⟨"TogetherOrdersModel", "isItem", "(I)Z"⟩, 21), (⟨"TogetherOrdersModel", "wayOut", "(II)I"⟩, 21), (⟨"TogetherOrdersModel", "isFree", "(III)Z"⟩, 21), (⟨"TogetherOrdersModel", "allParts", "(I)I"⟩, 21), (⟨"TogetherOrdersModel", "noSteps", "()Z"⟩, 21), (⟨"TogetherOrdersModel", "partsOf", "(I)I"⟩, 21)]
theorem lw_r2 : ∀ q ∈ lw_privs_2, lw_okq q := List.forall_mem_cons.mpr ⟨lw_p16, List.forall_mem_cons.mpr ⟨lw_p17, List.forall_mem_cons.mpr ⟨lw_p18, List.forall_mem_cons.mpr ⟨lw_p19, List.forall_mem_cons.mpr ⟨lw_p20, List.forall_mem_cons.mpr ⟨lw_p21, List.forall_mem_cons.mpr ⟨lw_p22, List.forall_mem_cons.mpr ⟨lw_p23, List.forall_mem_cons.mpr ⟨lw_p24, List.forall_mem_cons.mpr ⟨lw_p25, List.forall_mem_cons.mpr ⟨lw_p26, List.forall_mem_cons.mpr ⟨lw_p27, List.forall_mem_cons.mpr ⟨lw_p28, List.forall_mem_cons.mpr ⟨lw_p29, List.forall_mem_cons.mpr ⟨lw_p30, List.forall_mem_cons.mpr ⟨lw_p31, fun _ h => absurd h List.not_mem_nil⟩⟩⟩⟩⟩⟩⟩⟩⟩⟩⟩⟩⟩⟩⟩⟩
theorem lw_p32 : lw_okq (⟨"TogetherOrdersModel", "notRun", "()Z"⟩, 21) := ⟨⟨by decide +kernel, by decide +kernel⟩, List.mem_of_getElem? (i := 775) (by decide +kernel), List.mem_of_getElem? (i := 946) (by decide +kernel), List.mem_of_getElem? (i := 947) (by decide +kernel)⟩
theorem lw_p33 : lw_okq (⟨"TogetherOrdersModel", "anyFree", "()Z"⟩, 21) := ⟨⟨by decide +kernel, by decide +kernel⟩, List.mem_of_getElem? (i := 775) (by decide +kernel), List.mem_of_getElem? (i := 966) (by decide +kernel), List.mem_of_getElem? (i := 967) (by decide +kernel)⟩
theorem lw_p34 : lw_okq (⟨"TogetherOrdersModel", "oneMore", "()Z"⟩, 21) := ⟨⟨by decide +kernel, by decide +kernel⟩, List.mem_of_getElem? (i := 775) (by decide +kernel), List.mem_of_getElem? (i := 970) (by decide +kernel), List.mem_of_getElem? (i := 971) (by decide +kernel)⟩
theorem lw_p35 : lw_okq (⟨"TogetherOrdersModel", "shift", "(IIJ)V"⟩, 21) := ⟨⟨by decide +kernel, by decide +kernel⟩, List.mem_of_getElem? (i := 775) (by decide +kernel), List.mem_of_getElem? (i := 974) (by decide +kernel), List.mem_of_getElem? (i := 975) (by decide +kernel)⟩
theorem lw_p36 : lw_okq (⟨"TogetherOrdersModel", "isClear", "(I)Z"⟩, 21) := ⟨⟨by decide +kernel, by decide +kernel⟩, List.mem_of_getElem? (i := 775) (by decide +kernel), List.mem_of_getElem? (i := 978) (by decide +kernel), List.mem_of_getElem? (i := 979) (by decide +kernel)⟩
theorem lw_p37 : lw_okq (⟨"TogetherOrdersModel", "twoMore", "()Z"⟩, 21) := ⟨⟨by decide +kernel, by decide +kernel⟩, List.mem_of_getElem? (i := 775) (by decide +kernel), List.mem_of_getElem? (i := 982) (by decide +kernel), List.mem_of_getElem? (i := 983) (by decide +kernel)⟩
theorem lw_p38 : lw_okq (⟨"TogetherOrdersModel", "stepOf", "(I)I"⟩, 21) := ⟨⟨by decide +kernel, by decide +kernel⟩, List.mem_of_getElem? (i := 775) (by decide +kernel), List.mem_of_getElem? (i := 1005) (by decide +kernel), List.mem_of_getElem? (i := 1006) (by decide +kernel)⟩
theorem lw_p39 : lw_okq (⟨"TogetherOrdersModel", "hasBox", "(I)Z"⟩, 21) := ⟨⟨by decide +kernel, by decide +kernel⟩, List.mem_of_getElem? (i := 775) (by decide +kernel), List.mem_of_getElem? (i := 1013) (by decide +kernel), List.mem_of_getElem? (i := 1014) (by decide +kernel)⟩
def lw_privs_3 : List (MethodName × Nat) := [(⟨"TogetherOrdersModel", "notRun", "()Z"⟩, 21), (⟨"TogetherOrdersModel", "anyFree", "()Z"⟩, 21), (⟨"TogetherOrdersModel", "oneMore", "()Z"⟩, 21), (⟨"TogetherOrdersModel", "shift", "(IIJ)V"⟩, 21), (⟨"TogetherOrdersModel", "isClear", "(I)Z"⟩, 21), (⟨"TogetherOrdersModel", "twoMore", "()Z"⟩, 21), (⟨"TogetherOrdersModel", "stepOf", "(I)I"⟩, 21), (⟨"TogetherOrdersModel", "hasBox", "(I)Z"⟩, 21)]
theorem lw_r3 : ∀ q ∈ lw_privs_3, lw_okq q := List.forall_mem_cons.mpr ⟨lw_p32, List.forall_mem_cons.mpr ⟨lw_p33, List.forall_mem_cons.mpr ⟨lw_p34, List.forall_mem_cons.mpr ⟨lw_p35, List.forall_mem_cons.mpr ⟨lw_p36, List.forall_mem_cons.mpr ⟨lw_p37, List.forall_mem_cons.mpr ⟨lw_p38, List.forall_mem_cons.mpr ⟨lw_p39, fun _ h => absurd h List.not_mem_nil⟩⟩⟩⟩⟩⟩⟩⟩
def lw_privs : List (MethodName × Nat) := lw_privs_1 ++ (lw_privs_2 ++ (lw_privs_3))
def lw_tbl : List Cond := k2_sels lw_privs ++ tables_1
theorem lw_privs_ok : ∀ q ∈ lw_privs, lw_okq q := by
  show ∀ q ∈ lw_privs_1 ++ (lw_privs_2 ++ (lw_privs_3)), lw_okq q
  exact List.forall_mem_append.mpr ⟨lw_r1, List.forall_mem_append.mpr ⟨lw_r2, lw_r3⟩⟩
end
section
/-! THE WALK'S OWN MACHINE: values whose references are numbers of cells, locals as a list, one step of each plain instruction as a function, proved once against the kit's rows. -/
section ST
/-- a value of the walk: as the machine's, but a reference is the number of a cell -/
def cv (ad : Nat → Nat) (v : Value) : Value := match v with
  | .ref k => .ref (ad k)
  | .int x => .int x
  | .long x => .long x
  | .float x => .float x
  | .double x => .double x
  | .null => .null
  | .retAddr q => .retAddr q
theorem cv_cat (ad : Nat → Nat) (v : Value) : (cv ad v).category = v.category := by cases v <;> rfl
/-- a local variable, if its value is known -/
def lk : List (Option Value) → Nat → Option Value
  | [], _ => none
  | a :: _, 0 => a
  | _ :: r, n + 1 => lk r n
/-- a long below a slot that is written is lost -/
def kl2 (a : Option Value) : Option Value := match a with
  | some (.long _) => none
  | some (.double _) => none
  | x => x
def kil : List (Option Value) → List (Option Value)
  | [] => []
  | _ :: r => none :: r
/-- store a value of one slot -/
def sto1 : List (Option Value) → Nat → Value → List (Option Value)
  | [], _, _ => []
  | _ :: r, 0, v => some v :: r
  | a :: r, 1, v => kl2 a :: sto1 r 0 v
  | a :: r, n + 2, v => a :: sto1 r (n + 1) v
/-- store a long -/
def sto2 : List (Option Value) → Nat → Value → List (Option Value)
  | [], _, _ => []
  | _ :: r, 0, v => some v :: kil r
  | a :: r, 1, v => kl2 a :: sto2 r 0 v
  | a :: r, n + 2, v => a :: sto2 r (n + 1) v
theorem kl2_s {a : Option Value} {w : Value} (h : kl2 a = some w) : a = some w ∧ ¬ w.category = 2 := by
  unfold kl2 at h
  split at h
  · cases h
  · cases h
  · rename_i hl hd
    refine ⟨h, ?_⟩
    subst h
    cases w with
    | long x => exact absurd rfl (hl x)
    | double x => exact absurd rfl (hd x)
    | _ => simp [Value.category]
theorem lk_kil : ∀ (r : List (Option Value)) (j : Nat) (w : Value), lk (kil r) j = some w → j ≠ 0 ∧ lk r j = some w
  | [], _, _, h => by simp [kil, lk] at h
  | a :: r, 0, w, h => by simp [kil, lk] at h
  | a :: r, j + 1, w, h => ⟨Nat.succ_ne_zero j, h⟩
theorem lk_sto1 : ∀ (lv : List (Option Value)) (i : Nat) (v : Value) (j : Nat) (w : Value), lk (sto1 lv i v) j = some w → (j = i ∧ w = v) ∨ (j ≠ i ∧ lk lv j = some w ∧ ¬ (j + 1 = i ∧ w.category = 2))
  | [], i, v, j, w, h => by simp [sto1, lk] at h
  | a :: r, 0, v, 0, w, h => Or.inl ⟨rfl, (Option.some.inj h).symm⟩
  | a :: r, 0, v, j + 1, w, h => Or.inr ⟨Nat.succ_ne_zero j, h, fun q => by omega⟩
  | a :: r, 1, v, 0, w, h => by
    obtain ⟨h1, h2⟩ := kl2_s (a := a) h
    exact Or.inr ⟨by omega, h1, fun q => h2 q.2⟩
  | a :: r, 1, v, j + 1, w, h => by
    rcases lk_sto1 r 0 v j w h with ⟨h1, h2⟩ | ⟨h1, h2, h3⟩
    · exact Or.inl ⟨by omega, h2⟩
    · exact Or.inr ⟨by omega, h2, fun q => by omega⟩
  | a :: r, n + 2, v, 0, w, h => Or.inr ⟨by omega, h, fun q => by omega⟩
  | a :: r, n + 2, v, j + 1, w, h => by
    rcases lk_sto1 r (n + 1) v j w h with ⟨h1, h2⟩ | ⟨h1, h2, h3⟩
    · exact Or.inl ⟨by omega, h2⟩
    · exact Or.inr ⟨by omega, h2, fun q => h3 ⟨by omega, q.2⟩⟩
theorem lk_sto2 : ∀ (lv : List (Option Value)) (i : Nat) (v : Value) (j : Nat) (w : Value), lk (sto2 lv i v) j = some w → (j = i ∧ w = v) ∨ (j ≠ i ∧ j ≠ i + 1 ∧ lk lv j = some w ∧ ¬ (j + 1 = i ∧ w.category = 2))
  | [], i, v, j, w, h => by simp [sto2, lk] at h
  | a :: r, 0, v, 0, w, h => Or.inl ⟨rfl, (Option.some.inj h).symm⟩
  | a :: r, 0, v, j + 1, w, h => by
    obtain ⟨h1, h2⟩ := lk_kil r j w h
    exact Or.inr ⟨Nat.succ_ne_zero j, by omega, h2, fun q => by omega⟩
  | a :: r, 1, v, 0, w, h => by
    obtain ⟨h1, h2⟩ := kl2_s (a := a) h
    exact Or.inr ⟨by omega, by omega, h1, fun q => h2 q.2⟩
  | a :: r, 1, v, j + 1, w, h => by
    rcases lk_sto2 r 0 v j w h with ⟨h1, h2⟩ | ⟨h1, h2, h3, h4⟩
    · exact Or.inl ⟨by omega, h2⟩
    · exact Or.inr ⟨by omega, by omega, h3, fun q => by omega⟩
  | a :: r, n + 2, v, 0, w, h => Or.inr ⟨by omega, by omega, h, fun q => by omega⟩
  | a :: r, n + 2, v, j + 1, w, h => by
    rcases lk_sto2 r (n + 1) v j w h with ⟨h1, h2⟩ | ⟨h1, h2, h3, h4⟩
    · exact Or.inl ⟨by omega, h2⟩
    · exact Or.inr ⟨by omega, by omega, h3, fun q => h4 ⟨by omega, q.2⟩⟩
/-- the machine's locals bear the walk's -/
def lh (ls : Array Slot) (nL : Nat) (ad : Nat → Nat) (lv : List (Option Value)) : Prop := lv_has ls nL [] ∧ ∀ (i : Nat) (v : Value), lk lv i = some v → ls[i]? = some (.val (cv ad v))
/-- the known locals as the kit lists them -/
def prs (ad : Nat → Nat) : List (Option Value) → Nat → List (Nat × Value)
  | [], _ => []
  | none :: r, b => prs ad r (b + 1)
  | some v :: r, b => (b, cv ad v) :: prs ad r (b + 1)
theorem prs_in (ad : Nat → Nat) : ∀ (lv : List (Option Value)) (b j : Nat) (w : Value), lk lv j = some w → (b + j, cv ad w) ∈ prs ad lv b
  | [], b, j, w, h => by simp [lk] at h
  | none :: r, b, 0, w, h => by simp [lk] at h
  | some v :: r, b, 0, w, h => by
    have h1 : v = w := Option.some.inj h
    rw [h1]
    exact List.mem_cons_self
  | none :: r, b, j + 1, w, h => by
    have h1 := prs_in ad r (b + 1) j w h
    rw [show b + (j + 1) = b + 1 + j by omega]
    exact h1
  | some v :: r, b, j + 1, w, h => by
    have h1 := prs_in ad r (b + 1) j w h
    rw [show b + (j + 1) = b + 1 + j by omega]
    exact List.mem_cons_of_mem _ h1
theorem prs_of (ad : Nat → Nat) : ∀ (lv : List (Option Value)) (b : Nat) (q : Nat × Value), q ∈ prs ad lv b → ∃ (j : Nat) (w : Value), q = (b + j, cv ad w) ∧ lk lv j = some w
  | [], b, q, h => by simp [prs] at h
  | none :: r, b, q, h => by
    obtain ⟨j, w, h1, h2⟩ := prs_of ad r (b + 1) q h
    exact ⟨j + 1, w, by rw [h1, show b + 1 + j = b + (j + 1) by omega], h2⟩
  | some v :: r, b, q, h => by
    rcases List.mem_cons.mp h with h | h
    · exact ⟨0, v, h, rfl⟩
    · obtain ⟨j, w, h1, h2⟩ := prs_of ad r (b + 1) q h
      exact ⟨j + 1, w, by rw [h1, show b + 1 + j = b + (j + 1) by omega], h2⟩
theorem lh.has {ls : Array Slot} {nL : Nat} {ad : Nat → Nat} {lv : List (Option Value)} (h : lh ls nL ad lv) : lv_has ls nL (prs ad lv 0) := by
  refine ⟨h.1.1, h.1.2.1, fun q hq => ?_⟩
  obtain ⟨j, w, h1, h2⟩ := prs_of ad lv 0 q hq
  rw [h1, Nat.zero_add]
  exact h.2 j w h2
theorem lh.put1 {ls' : Array Slot} {nL : Nat} {ad : Nat → Nat} {lv : List (Option Value)} {i : Nat} {v : Value} (h : lv_has ls' nL ((i, cv ad v) :: (prs ad lv 0).filter (fun q => !(q.1 == i) && !(q.1 + 1 == i && q.2.category == 2)))) : lh ls' nL ad (sto1 lv i v) := by
  refine ⟨⟨h.1, h.2.1, fun q hq => by cases hq⟩, fun j w hj => ?_⟩
  rcases lk_sto1 lv i v j w hj with ⟨rfl, rfl⟩ | ⟨a, b, d⟩
  · exact h.2.2 (j, cv ad w) List.mem_cons_self
  · refine h.2.2 (j, cv ad w) (List.mem_cons_of_mem _ (List.mem_filter.mpr ⟨?_, ?_⟩))
    · have h1 := prs_in ad lv 0 j w b
      rw [Nat.zero_add] at h1
      exact h1
    · by_cases z : j + 1 = i
      · have z2 : ¬ w.category = 2 := fun q => d ⟨z, q⟩
        simp [a, z2, cv_cat]
      · simp [a, z]
theorem lh.put2 {ls' : Array Slot} {nL : Nat} {ad : Nat → Nat} {lv : List (Option Value)} {i : Nat} {v : Value} (h : lv_has ls' nL ((i, cv ad v) :: (prs ad lv 0).filter (fun q => !(q.1 == i) && (!(q.1 == i + 1) && !(q.1 + 1 == i && q.2.category == 2))))) : lh ls' nL ad (sto2 lv i v) := by
  refine ⟨⟨h.1, h.2.1, fun q hq => by cases hq⟩, fun j w hj => ?_⟩
  rcases lk_sto2 lv i v j w hj with ⟨rfl, rfl⟩ | ⟨a, a2, b, d⟩
  · exact h.2.2 (j, cv ad w) List.mem_cons_self
  · refine h.2.2 (j, cv ad w) (List.mem_cons_of_mem _ (List.mem_filter.mpr ⟨?_, ?_⟩))
    · have h1 := prs_in ad lv 0 j w b
      rw [Nat.zero_add] at h1
      exact h1
    · by_cases z : j + 1 = i
      · have z2 : ¬ w.category = 2 := fun q => d ⟨z, q⟩
        simp [a, a2, z2, cv_cat]
      · simp [a, a2, z]
/-- fewer known locals -/
theorem lh.less {ls : Array Slot} {nL : Nat} {ad : Nat → Nat} {lv lv' : List (Option Value)} (h : lh ls nL ad lv) (hs : ∀ (i : Nat) (v : Value), lk lv' i = some v → lk lv i = some v) : lh ls nL ad lv' := ⟨h.1, fun i v hi => h.2 i v (hs i v hi)⟩
/-- a row of a method's table: instruction, length, next place, where it jumps to or which field, local or class, a word's place, its constants -/
abbrev RowE : Type := Instr × Nat × Nat × Nat × Nat × Nat × Int32 × Int64
def lkT : List (Nat × RowE) → Nat → Option RowE
  | [], _ => none
  | (p, e) :: r, q => bif Nat.beq p q then some e else lkT r q
theorem lkT_mem : ∀ {tl : List (Nat × RowE)} {pc : Nat} {e : RowE}, lkT tl pc = some e → (pc, e) ∈ tl
  | [], pc, e, h => by simp [lkT] at h
  | (p, e') :: r, pc, e, h => by
    unfold lkT at h
    cases hb : Nat.beq p pc with
    | true =>
      rw [hb] at h
      have h1 : e' = e := Option.some.inj h
      have h2 : p = pc := Nat.eq_of_beq_eq_true hb
      rw [h1, h2]
      exact List.mem_cons_self
    | false =>
      rw [hb] at h
      exact List.mem_cons_of_mem _ (lkT_mem h)
/-- what the table says of a row is so -/
def ckE (own : String) (Ts : List Cond) (nL : Nat) (pc : Nat) (e : RowE) : Bool :=
  match e with
  | (i, n, nx, tg, x, wd, k, K) => (nx == pc + n) && match i with
    | .iconst a => n == 1 && decide (Int32.ofInt a = k)
    | .bipush a => n == 2 && decide ((Int8.ofInt a).toInt32 = k)
    | .sipush a => n == 3 && decide ((Int16.ofInt a).toInt32 = k)
    | .ldc a => n == 2 && decide (Ts[wd]? = some (Cond.constant own a k))
    | .ldc2_w a => n == 3 && decide (Ts[wd]? = some (Cond.constantLong own a K))
    | .lconst a => n == 1 && decide (Int64.ofNat (a : Nat) = K)
    | .iload a => n == 2 && a == x
    | .lload a => n == 2 && a == x
    | .aload a => n == 2 && a == x
    | .istore a => n == 2 && a == x && decide (a < nL)
    | .lstore a => n == 2 && a == x && decide (a + 1 < nL)
    | .astore a => n == 2 && a == x && decide (a < nL)
    | .iload_n a => n == 1 && (a : Nat) == x
    | .lload_n a => n == 1 && (a : Nat) == x
    | .aload_n a => n == 1 && (a : Nat) == x
    | .istore_n a => n == 1 && (a : Nat) == x && decide (x < nL)
    | .lstore_n a => n == 1 && (a : Nat) == x && decide (x + 1 < nL)
    | .astore_n a => n == 1 && (a : Nat) == x && decide (x < nL)
    | .iinc a d => n == 3 && a == x && decide (a < nL) && decide (Int32.ofInt d = k)
    | .ifCond _ o => n == 3 && decide ((pc : Int) + o = (tg : Int))
    | .if_icmp _ o => n == 3 && decide ((pc : Int) + o = (tg : Int))
    | .goto o => n == 3 && decide ((pc : Int) + o = (tg : Int))
    | .getfield _ => n == 3
    | .putfield _ => n == 3
    | .getstatic _ => n == 3
    | .invokevirtual _ => n == 3
    | .invokespecial _ => n == 3
    | .invokestatic _ => n == 3
    | .new _ => n == 3
    | .newarray _ => n == 2
    | .anewarray _ => n == 3
    | .multianewarray _ _ => n == 4
    | .tableswitch _ _ _ _ => true
    | _ => n == 1
def i_ii (f : Int32 → Int32 → Int32) (lv : List (Option Value)) (st : List Value) : Option (List (Option Value) × List Value) := match st with
  | .int y :: .int x :: r => some (lv, .int (f x y) :: r)
  | _ => none
def i_ll (f : Int64 → Int64 → Int64) (lv : List (Option Value)) (st : List Value) : Option (List (Option Value) × List Value) := match st with
  | .long y :: .long x :: r => some (lv, .long (f x y) :: r)
  | _ => none
def i_il (f : Int64 → Int32 → Int64) (lv : List (Option Value)) (st : List Value) : Option (List (Option Value) × List Value) := match st with
  | .int y :: .long x :: r => some (lv, .long (f x y) :: r)
  | _ => none
def i_ld (lv : List (Option Value)) (st : List Value) (x : Nat) : Option (List (Option Value) × List Value) := match lk lv x with
  | some (.int a) => some (lv, .int a :: st)
  | _ => none
def l_ld (lv : List (Option Value)) (st : List Value) (x : Nat) : Option (List (Option Value) × List Value) := match lk lv x with
  | some (.long a) => some (lv, .long a :: st)
  | _ => none
def a_ld (lv : List (Option Value)) (st : List Value) (x : Nat) : Option (List (Option Value) × List Value) := match lk lv x with
  | some (.ref a) => some (lv, .ref a :: st)
  | _ => none
def i_st (lv : List (Option Value)) (st : List Value) (x : Nat) : Option (List (Option Value) × List Value) := match st with
  | .int a :: r => some (sto1 lv x (.int a), r)
  | _ => none
def l_st (lv : List (Option Value)) (st : List Value) (x : Nat) : Option (List (Option Value) × List Value) := match st with
  | .long a :: r => some (sto2 lv x (.long a), r)
  | _ => none
def a_st (lv : List (Option Value)) (st : List Value) (x : Nat) : Option (List (Option Value) × List Value) := match st with
  | .ref a :: r => some (sto1 lv x (.ref a), r)
  | _ => none
/-- one step of a plain instruction: new locals, new stack -/
def ps (i : Instr) (x : Nat) (k : Int32) (K : Int64) (lv : List (Option Value)) (st : List Value) : Option (List (Option Value) × List Value) := match i with
  | .iconst _ => some (lv, .int k :: st)
  | .bipush _ => some (lv, .int k :: st)
  | .sipush _ => some (lv, .int k :: st)
  | .ldc _ => some (lv, .int k :: st)
  | .lconst _ => some (lv, .long K :: st)
  | .ldc2_w _ => some (lv, .long K :: st)
  | .iload _ => i_ld lv st x
  | .iload_n _ => i_ld lv st x
  | .lload _ => l_ld lv st x
  | .lload_n _ => l_ld lv st x
  | .aload _ => a_ld lv st x
  | .aload_n _ => a_ld lv st x
  | .istore _ => i_st lv st x
  | .istore_n _ => i_st lv st x
  | .lstore _ => l_st lv st x
  | .lstore_n _ => l_st lv st x
  | .astore _ => a_st lv st x
  | .astore_n _ => a_st lv st x
  | .iinc _ _ => match lk lv x with
    | some (.int a) => some (sto1 lv x (.int (a + k)), st)
    | _ => none
  | .iadd => i_ii (fun a b => a + b) lv st
  | .isub => i_ii (fun a b => a - b) lv st
  | .imul => i_ii (fun a b => a * b) lv st
  | .iand => i_ii (fun a b => a &&& b) lv st
  | .ior => i_ii (fun a b => a ||| b) lv st
  | .ixor => i_ii (fun a b => a ^^^ b) lv st
  | .ishl => i_ii (fun a b => a <<< (b &&& 31)) lv st
  | .ishr => i_ii (fun a b => a >>> (b &&& 31)) lv st
  | .iushr => i_ii (fun a b => (a.toUInt32 >>> (b.toUInt32 &&& Int32.toUInt32 31)).toInt32) lv st
  | .ladd => i_ll (fun a b => a + b) lv st
  | .lsub => i_ll (fun a b => a - b) lv st
  | .lmul => i_ll (fun a b => a * b) lv st
  | .land => i_ll (fun a b => a &&& b) lv st
  | .lor => i_ll (fun a b => a ||| b) lv st
  | .lxor => i_ll (fun a b => a ^^^ b) lv st
  | .lshl => i_il (fun a b => a <<< (b.toInt64 &&& 63)) lv st
  | .lshr => i_il (fun a b => a >>> (b.toInt64 &&& 63)) lv st
  | .lushr => i_il (fun a b => (a.toUInt64 >>> (b.toInt64.toUInt64 &&& Int64.toUInt64 63)).toInt64) lv st
  | .ineg => match st with
    | .int a :: r => some (lv, .int (-a) :: r)
    | _ => none
  | .lneg => match st with
    | .long a :: r => some (lv, .long (-a) :: r)
    | _ => none
  | .i2l => match st with
    | .int a :: r => some (lv, .long a.toInt64 :: r)
    | _ => none
  | .l2i => match st with
    | .long a :: r => some (lv, .int a.toInt32 :: r)
    | _ => none
  | .lcmp => match st with
    | .long y :: .long a :: r => some (lv, .int (lg_cmp a y) :: r)
    | _ => none
  | .dup => match st with
    | .int a :: r => some (lv, .int a :: .int a :: r)
    | .ref a :: r => some (lv, .ref a :: .ref a :: r)
    | _ => none
  | .pop => match st with
    | .int _ :: r => some (lv, r)
    | .ref _ :: r => some (lv, r)
    | _ => none
  | .pop2 => match st with
    | .long _ :: r => some (lv, r)
    | _ => none
  | .dup_x1 => match st with
    | .int a :: .ref b :: r => some (lv, .int a :: .ref b :: .int a :: r)
    | .int a :: .int b :: r => some (lv, .int a :: .int b :: .int a :: r)
    | _ => none
  | .dup2 => match st with
    | .int a :: .ref b :: r => some (lv, .int a :: .ref b :: .int a :: .ref b :: r)
    | .long a :: r => some (lv, .long a :: .long a :: r)
    | _ => none
  | _ => none
/-- a branch: what is left on the stack, when it is taken, when it isn't -/
def pb (i : Instr) (st : List Value) : Option (List Value × Prop × Prop) := match i with
  | .ifCond cd _ => match st with
    | .int x :: r => match cd with
      | .eq => some (r, x = 0, ¬ x = 0)
      | .ne => some (r, ¬ x = 0, x = 0)
      | .lt => some (r, x < 0, ¬ x < 0)
      | .ge => some (r, 0 ≤ x, ¬ 0 ≤ x)
      | .gt => some (r, 0 < x, ¬ 0 < x)
      | .le => some (r, x ≤ 0, ¬ x ≤ 0)
    | _ => none
  | .if_icmp cd _ => match st with
    | .int y :: .int x :: r => match cd with
      | .eq => some (r, x = y, ¬ x = y)
      | .ne => some (r, ¬ x = y, x = y)
      | .lt => some (r, x < y, ¬ x < y)
      | .ge => some (r, y ≤ x, ¬ y ≤ x)
      | .gt => some (r, y < x, ¬ y < x)
      | .le => some (r, x ≤ y, ¬ x ≤ y)
    | _ => none
  | _ => none
theorem i_ii_s {f : Int32 → Int32 → Int32} {lv lv' : List (Option Value)} {st st' : List Value} (h : i_ii f lv st = some (lv', st')) : ∃ (x y : Int32) (r : List Value), st = .int y :: .int x :: r ∧ lv' = lv ∧ st' = .int (f x y) :: r := by
  unfold i_ii at h
  split at h
  · rename_i y x r
    cases h
    exact ⟨x, y, r, rfl, rfl, rfl⟩
  · cases h
theorem i_ll_s {f : Int64 → Int64 → Int64} {lv lv' : List (Option Value)} {st st' : List Value} (h : i_ll f lv st = some (lv', st')) : ∃ (x y : Int64) (r : List Value), st = .long y :: .long x :: r ∧ lv' = lv ∧ st' = .long (f x y) :: r := by
  unfold i_ll at h
  split at h
  · rename_i y x r
    cases h
    exact ⟨x, y, r, rfl, rfl, rfl⟩
  · cases h
theorem i_il_s {f : Int64 → Int32 → Int64} {lv lv' : List (Option Value)} {st st' : List Value} (h : i_il f lv st = some (lv', st')) : ∃ (x : Int64) (y : Int32) (r : List Value), st = .int y :: .long x :: r ∧ lv' = lv ∧ st' = .long (f x y) :: r := by
  unfold i_il at h
  split at h
  · rename_i y x r
    cases h
    exact ⟨x, y, r, rfl, rfl, rfl⟩
  · cases h
theorem i_ld_s {lv lv' : List (Option Value)} {st st' : List Value} {x : Nat} (h : i_ld lv st x = some (lv', st')) : ∃ a : Int32, lk lv x = some (.int a) ∧ lv' = lv ∧ st' = .int a :: st := by
  unfold i_ld at h
  split at h
  · rename_i a e1
    cases h
    exact ⟨a, e1, rfl, rfl⟩
  · cases h
theorem l_ld_s {lv lv' : List (Option Value)} {st st' : List Value} {x : Nat} (h : l_ld lv st x = some (lv', st')) : ∃ a : Int64, lk lv x = some (.long a) ∧ lv' = lv ∧ st' = .long a :: st := by
  unfold l_ld at h
  split at h
  · rename_i a e1
    cases h
    exact ⟨a, e1, rfl, rfl⟩
  · cases h
theorem a_ld_s {lv lv' : List (Option Value)} {st st' : List Value} {x : Nat} (h : a_ld lv st x = some (lv', st')) : ∃ a : Nat, lk lv x = some (.ref a) ∧ lv' = lv ∧ st' = .ref a :: st := by
  unfold a_ld at h
  split at h
  · rename_i a e1
    cases h
    exact ⟨a, e1, rfl, rfl⟩
  · cases h
theorem i_st_s {lv lv' : List (Option Value)} {st st' : List Value} {x : Nat} (h : i_st lv st x = some (lv', st')) : ∃ (a : Int32) (r : List Value), st = .int a :: r ∧ lv' = sto1 lv x (.int a) ∧ st' = r := by
  unfold i_st at h
  split at h
  · rename_i a r
    cases h
    exact ⟨a, _, rfl, rfl, rfl⟩
  · cases h
theorem l_st_s {lv lv' : List (Option Value)} {st st' : List Value} {x : Nat} (h : l_st lv st x = some (lv', st')) : ∃ (a : Int64) (r : List Value), st = .long a :: r ∧ lv' = sto2 lv x (.long a) ∧ st' = r := by
  unfold l_st at h
  split at h
  · rename_i a r
    cases h
    exact ⟨a, _, rfl, rfl, rfl⟩
  · cases h
theorem a_st_s {lv lv' : List (Option Value)} {st st' : List Value} {x : Nat} (h : a_st lv st x = some (lv', st')) : ∃ (a : Nat) (r : List Value), st = .ref a :: r ∧ lv' = sto1 lv x (.ref a) ∧ st' = r := by
  unfold a_st at h
  split at h
  · rename_i a r
    cases h
    exact ⟨a, _, rfl, rfl, rfl⟩
  · cases h
end ST
section SD
variable {p : Program} {l : Launch} {e : Env} {R : Room} {s : State} {m : MethodId} {args : Array Value} {below : List Frame} {meth : Method} {c : Code} {H : Heap} {locs : List Loc} {cells slots : Nat} {Q : State → Prop} {cc : ByteArray} {own : String} {Ts : List Cond} {nL : Nat} {ad : Nat → Nat}
set_option maxHeartbeats 4000000 in
theorem ps_ok (hx : p.tables.exec = Jvm.exec) (hb : c.code = cc) (hown : s.vm.findClass own = some m.cls) (hts : ∀ w ∈ Ts, w.before args s = true) {pc : Nat} {i : Instr} {n nx tg x wd : Nat} {k : Int32} {K : Int64} (hd : decode cc pc = .ok (i, n)) (hc : ckE own Ts nL pc (i, n, nx, tg, x, wd, k, K) = true) {lv lv' : List (Option Value)} {st st' : List Value} (h : ps i x k K lv st = some (lv', st')) {ls : Array Slot} (hl : lh ls nL ad lv)
    (kk : ∀ ls' : Array Slot, lh ls' nL ad lv' → W p l e R s m args below meth c H locs cells slots Q (F0 m nx ls' (st'.map (cv ad)))) : W p l e R s m args below meth c H locs cells slots Q (F0 m pc ls (st.map (cv ad))) := by
  cases i with
  | iconst a =>
    simp only [ckE, Bool.and_eq_true, beq_iff_eq, decide_eq_true_eq] at hc
    obtain ⟨rfl, rfl, hk⟩ := hc
    cases h
    exact lv_iconst hx hb hd hk (kk ls hl)
  | bipush a =>
    simp only [ckE, Bool.and_eq_true, beq_iff_eq, decide_eq_true_eq] at hc
    obtain ⟨rfl, rfl, hk⟩ := hc
    cases h
    exact lv_bipush hx hb hd hk (kk ls hl)
  | sipush a =>
    simp only [ckE, Bool.and_eq_true, beq_iff_eq, decide_eq_true_eq] at hc
    obtain ⟨rfl, rfl, hk⟩ := hc
    cases h
    exact lv_sipush hx hb hd hk (kk ls hl)
  | lconst a =>
    simp only [ckE, Bool.and_eq_true, beq_iff_eq, decide_eq_true_eq] at hc
    obtain ⟨rfl, rfl, hk⟩ := hc
    cases h
    exact lv_lconst hx hb hd hk (kk ls hl)
  | ldc a =>
    simp only [ckE, Bool.and_eq_true, beq_iff_eq, decide_eq_true_eq] at hc
    obtain ⟨rfl, rfl, hk⟩ := hc
    cases h
    exact W.ldc hx hb hown (hts _ (List.mem_of_getElem? hk)) rfl hd (kk ls hl)
  | ldc2_w a =>
    simp only [ckE, Bool.and_eq_true, beq_iff_eq, decide_eq_true_eq] at hc
    obtain ⟨rfl, rfl, hk⟩ := hc
    cases h
    exact W.ldc2 hx hb hown (hts _ (List.mem_of_getElem? hk)) rfl hd (kk ls hl)
  | iload a =>
    simp only [ckE, Bool.and_eq_true, beq_iff_eq, decide_eq_true_eq] at hc
    obtain ⟨rfl, rfl, rfl⟩ := hc
    obtain ⟨v, h1, rfl, rfl⟩ := i_ld_s h
    exact lv_iload hx hb hd (hl.2 _ _ h1) (kk ls hl)
  | iload_n a =>
    simp only [ckE, Bool.and_eq_true, beq_iff_eq, decide_eq_true_eq] at hc
    obtain ⟨rfl, rfl, rfl⟩ := hc
    obtain ⟨v, h1, rfl, rfl⟩ := i_ld_s h
    exact lv_iload_n hx hb hd rfl (hl.2 _ _ h1) (kk ls hl)
  | lload a =>
    simp only [ckE, Bool.and_eq_true, beq_iff_eq, decide_eq_true_eq] at hc
    obtain ⟨rfl, rfl, rfl⟩ := hc
    obtain ⟨v, h1, rfl, rfl⟩ := l_ld_s h
    exact lv_lload hx hb hd (hl.2 _ _ h1) (kk ls hl)
  | lload_n a =>
    simp only [ckE, Bool.and_eq_true, beq_iff_eq, decide_eq_true_eq] at hc
    obtain ⟨rfl, rfl, rfl⟩ := hc
    obtain ⟨v, h1, rfl, rfl⟩ := l_ld_s h
    exact lv_lload_n hx hb hd rfl (hl.2 _ _ h1) (kk ls hl)
  | aload a =>
    simp only [ckE, Bool.and_eq_true, beq_iff_eq, decide_eq_true_eq] at hc
    obtain ⟨rfl, rfl, rfl⟩ := hc
    obtain ⟨v, h1, rfl, rfl⟩ := a_ld_s h
    exact lv_aload hx hb hd (hl.2 _ _ h1) (kk ls hl)
  | aload_n a =>
    simp only [ckE, Bool.and_eq_true, beq_iff_eq, decide_eq_true_eq] at hc
    obtain ⟨rfl, rfl, rfl⟩ := hc
    obtain ⟨v, h1, rfl, rfl⟩ := a_ld_s h
    exact lv_aload_n hx hb hd rfl (hl.2 _ _ h1) (kk ls hl)
  | istore a =>
    simp only [ckE, Bool.and_eq_true, beq_iff_eq, decide_eq_true_eq] at hc
    obtain ⟨rfl, ⟨rfl, rfl⟩, hn⟩ := hc
    obtain ⟨v, r, rfl, rfl, rfl⟩ := i_st_s h
    exact lv_istore hx hb hd hl.has hn rfl (fun ls2 h2 => kk ls2 (lh.put1 h2))
  | istore_n a =>
    simp only [ckE, Bool.and_eq_true, beq_iff_eq, decide_eq_true_eq] at hc
    obtain ⟨rfl, ⟨rfl, rfl⟩, hn⟩ := hc
    obtain ⟨v, r, rfl, rfl, rfl⟩ := i_st_s h
    exact lv_istore_n hx hb hd rfl hl.has hn rfl (fun ls2 h2 => kk ls2 (lh.put1 h2))
  | lstore a =>
    simp only [ckE, Bool.and_eq_true, beq_iff_eq, decide_eq_true_eq] at hc
    obtain ⟨rfl, ⟨rfl, rfl⟩, hn⟩ := hc
    obtain ⟨v, r, rfl, rfl, rfl⟩ := l_st_s h
    exact lv_lstore hx hb hd hl.has hn rfl (fun ls2 h2 => kk ls2 (lh.put2 h2))
  | lstore_n a =>
    simp only [ckE, Bool.and_eq_true, beq_iff_eq, decide_eq_true_eq] at hc
    obtain ⟨rfl, ⟨rfl, rfl⟩, hn⟩ := hc
    obtain ⟨v, r, rfl, rfl, rfl⟩ := l_st_s h
    exact lv_lstore_n hx hb hd rfl hl.has hn rfl (fun ls2 h2 => kk ls2 (lh.put2 h2))
  | astore a =>
    simp only [ckE, Bool.and_eq_true, beq_iff_eq, decide_eq_true_eq] at hc
    obtain ⟨rfl, ⟨rfl, rfl⟩, hn⟩ := hc
    obtain ⟨v, r, rfl, rfl, rfl⟩ := a_st_s h
    exact lv_astore hx hb hd hl.has hn rfl (fun ls2 h2 => kk ls2 (lh.put1 h2))
  | astore_n a =>
    simp only [ckE, Bool.and_eq_true, beq_iff_eq, decide_eq_true_eq] at hc
    obtain ⟨rfl, ⟨rfl, rfl⟩, hn⟩ := hc
    obtain ⟨v, r, rfl, rfl, rfl⟩ := a_st_s h
    exact lv_astore_n hx hb hd rfl hl.has hn rfl (fun ls2 h2 => kk ls2 (lh.put1 h2))
  | iinc a d =>
    simp only [ckE, Bool.and_eq_true, beq_iff_eq, decide_eq_true_eq] at hc
    obtain ⟨rfl, ⟨⟨rfl, rfl⟩, hn⟩, hk⟩ := hc
    simp only [ps] at h
    split at h
    · rename_i v h1
      cases h
      have h2 := prs_in ad lv 0 a _ h1
      rw [Nat.zero_add] at h2
      obtain ⟨j, hj⟩ := List.getElem?_of_mem h2
      exact lv_iinc (x := v) (k := j) hx hb hd hl.has hj (by rw [hk]) hn rfl (fun ls2 h2 => kk ls2 (lh.put1 h2))
    · cases h
  | iadd =>
    simp only [ckE, Bool.and_eq_true, beq_iff_eq, decide_eq_true_eq] at hc
    obtain ⟨rfl, rfl⟩ := hc
    obtain ⟨a, b, r, rfl, rfl, rfl⟩ := i_ii_s h
    exact lv_iadd hx hb hd (kk ls hl)
  | isub =>
    simp only [ckE, Bool.and_eq_true, beq_iff_eq, decide_eq_true_eq] at hc
    obtain ⟨rfl, rfl⟩ := hc
    obtain ⟨a, b, r, rfl, rfl, rfl⟩ := i_ii_s h
    exact lv_isub hx hb hd (kk ls hl)
  | imul =>
    simp only [ckE, Bool.and_eq_true, beq_iff_eq, decide_eq_true_eq] at hc
    obtain ⟨rfl, rfl⟩ := hc
    obtain ⟨a, b, r, rfl, rfl, rfl⟩ := i_ii_s h
    exact lv_imul hx hb hd (kk ls hl)
  | iand =>
    simp only [ckE, Bool.and_eq_true, beq_iff_eq, decide_eq_true_eq] at hc
    obtain ⟨rfl, rfl⟩ := hc
    obtain ⟨a, b, r, rfl, rfl, rfl⟩ := i_ii_s h
    exact lv_iand hx hb hd (kk ls hl)
  | ior =>
    simp only [ckE, Bool.and_eq_true, beq_iff_eq, decide_eq_true_eq] at hc
    obtain ⟨rfl, rfl⟩ := hc
    obtain ⟨a, b, r, rfl, rfl, rfl⟩ := i_ii_s h
    exact lv_ior hx hb hd (kk ls hl)
  | ixor =>
    simp only [ckE, Bool.and_eq_true, beq_iff_eq, decide_eq_true_eq] at hc
    obtain ⟨rfl, rfl⟩ := hc
    obtain ⟨a, b, r, rfl, rfl, rfl⟩ := i_ii_s h
    exact lv_ixor hx hb hd (kk ls hl)
  | ishl =>
    simp only [ckE, Bool.and_eq_true, beq_iff_eq, decide_eq_true_eq] at hc
    obtain ⟨rfl, rfl⟩ := hc
    obtain ⟨a, b, r, rfl, rfl, rfl⟩ := i_ii_s h
    exact lv_ishl hx hb hd (kk ls hl)
  | ishr =>
    simp only [ckE, Bool.and_eq_true, beq_iff_eq, decide_eq_true_eq] at hc
    obtain ⟨rfl, rfl⟩ := hc
    obtain ⟨a, b, r, rfl, rfl, rfl⟩ := i_ii_s h
    exact lv_ishr hx hb hd (kk ls hl)
  | iushr =>
    simp only [ckE, Bool.and_eq_true, beq_iff_eq, decide_eq_true_eq] at hc
    obtain ⟨rfl, rfl⟩ := hc
    obtain ⟨a, b, r, rfl, rfl, rfl⟩ := i_ii_s h
    exact lv_iushr hx hb hd rfl (kk ls hl)
  | ladd =>
    simp only [ckE, Bool.and_eq_true, beq_iff_eq, decide_eq_true_eq] at hc
    obtain ⟨rfl, rfl⟩ := hc
    obtain ⟨a, b, r, rfl, rfl, rfl⟩ := i_ll_s h
    exact lv_ladd hx hb hd (kk ls hl)
  | lsub =>
    simp only [ckE, Bool.and_eq_true, beq_iff_eq, decide_eq_true_eq] at hc
    obtain ⟨rfl, rfl⟩ := hc
    obtain ⟨a, b, r, rfl, rfl, rfl⟩ := i_ll_s h
    exact lv_lsub hx hb hd (kk ls hl)
  | lmul =>
    simp only [ckE, Bool.and_eq_true, beq_iff_eq, decide_eq_true_eq] at hc
    obtain ⟨rfl, rfl⟩ := hc
    obtain ⟨a, b, r, rfl, rfl, rfl⟩ := i_ll_s h
    exact lv_lmul hx hb hd (kk ls hl)
  | land =>
    simp only [ckE, Bool.and_eq_true, beq_iff_eq, decide_eq_true_eq] at hc
    obtain ⟨rfl, rfl⟩ := hc
    obtain ⟨a, b, r, rfl, rfl, rfl⟩ := i_ll_s h
    exact lv_land hx hb hd (kk ls hl)
  | lor =>
    simp only [ckE, Bool.and_eq_true, beq_iff_eq, decide_eq_true_eq] at hc
    obtain ⟨rfl, rfl⟩ := hc
    obtain ⟨a, b, r, rfl, rfl, rfl⟩ := i_ll_s h
    exact lv_lor hx hb hd (kk ls hl)
  | lxor =>
    simp only [ckE, Bool.and_eq_true, beq_iff_eq, decide_eq_true_eq] at hc
    obtain ⟨rfl, rfl⟩ := hc
    obtain ⟨a, b, r, rfl, rfl, rfl⟩ := i_ll_s h
    exact lv_lxor hx hb hd (kk ls hl)
  | lshl =>
    simp only [ckE, Bool.and_eq_true, beq_iff_eq, decide_eq_true_eq] at hc
    obtain ⟨rfl, rfl⟩ := hc
    obtain ⟨a, b, r, rfl, rfl, rfl⟩ := i_il_s h
    exact lv_lshl hx hb hd rfl (kk ls hl)
  | lshr =>
    simp only [ckE, Bool.and_eq_true, beq_iff_eq, decide_eq_true_eq] at hc
    obtain ⟨rfl, rfl⟩ := hc
    obtain ⟨a, b, r, rfl, rfl, rfl⟩ := i_il_s h
    exact lv_lshr hx hb hd rfl (kk ls hl)
  | lushr =>
    simp only [ckE, Bool.and_eq_true, beq_iff_eq, decide_eq_true_eq] at hc
    obtain ⟨rfl, rfl⟩ := hc
    obtain ⟨a, b, r, rfl, rfl, rfl⟩ := i_il_s h
    exact lv_lushr hx hb hd rfl (kk ls hl)
  | ineg =>
    simp only [ckE, Bool.and_eq_true, beq_iff_eq, decide_eq_true_eq] at hc
    obtain ⟨rfl, rfl⟩ := hc
    simp only [ps] at h
    split at h
    · cases h
      exact lv_ineg hx hb hd (kk ls hl)
    · cases h
  | lneg =>
    simp only [ckE, Bool.and_eq_true, beq_iff_eq, decide_eq_true_eq] at hc
    obtain ⟨rfl, rfl⟩ := hc
    simp only [ps] at h
    split at h
    · cases h
      exact lv_lneg hx hb hd (kk ls hl)
    · cases h
  | i2l =>
    simp only [ckE, Bool.and_eq_true, beq_iff_eq, decide_eq_true_eq] at hc
    obtain ⟨rfl, rfl⟩ := hc
    simp only [ps] at h
    split at h
    · cases h
      exact lv_i2l hx hb hd rfl (kk ls hl)
    · cases h
  | l2i =>
    simp only [ckE, Bool.and_eq_true, beq_iff_eq, decide_eq_true_eq] at hc
    obtain ⟨rfl, rfl⟩ := hc
    simp only [ps] at h
    split at h
    · cases h
      exact lv_l2i hx hb hd rfl (kk ls hl)
    · cases h
  | lcmp =>
    simp only [ckE, Bool.and_eq_true, beq_iff_eq, decide_eq_true_eq] at hc
    obtain ⟨rfl, rfl⟩ := hc
    simp only [ps] at h
    split at h
    · cases h
      exact W.lcmp hx hb hd (kk ls hl)
    · cases h
  | dup =>
    simp only [ckE, Bool.and_eq_true, beq_iff_eq, decide_eq_true_eq] at hc
    obtain ⟨rfl, rfl⟩ := hc
    simp only [ps] at h
    split at h
    · cases h
      exact lv_dup hx hb hd rfl (kk ls hl)
    · cases h
      exact lv_dup hx hb hd rfl (kk ls hl)
    · cases h
  | pop =>
    simp only [ckE, Bool.and_eq_true, beq_iff_eq, decide_eq_true_eq] at hc
    obtain ⟨rfl, rfl⟩ := hc
    simp only [ps] at h
    split at h
    · cases h
      exact lv_pop hx hb hd rfl (kk ls hl)
    · cases h
      exact lv_pop hx hb hd rfl (kk ls hl)
    · cases h
  | pop2 =>
    simp only [ckE, Bool.and_eq_true, beq_iff_eq, decide_eq_true_eq] at hc
    obtain ⟨rfl, rfl⟩ := hc
    simp only [ps] at h
    split at h
    · cases h
      exact lv_pop2_2 hx hb hd rfl (kk ls hl)
    · cases h
  | dup_x1 =>
    simp only [ckE, Bool.and_eq_true, beq_iff_eq, decide_eq_true_eq] at hc
    obtain ⟨rfl, rfl⟩ := hc
    simp only [ps] at h
    split at h
    · cases h
      exact lv_dup_x1 hx hb hd rfl rfl (kk ls hl)
    · cases h
      exact lv_dup_x1 hx hb hd rfl rfl (kk ls hl)
    · cases h
  | dup2 =>
    simp only [ckE, Bool.and_eq_true, beq_iff_eq, decide_eq_true_eq] at hc
    obtain ⟨rfl, rfl⟩ := hc
    simp only [ps] at h
    split at h
    · cases h
      exact lv_dup2_11 hx hb hd rfl rfl (kk ls hl)
    · cases h
      exact lv_dup2_2 hx hb hd rfl (kk ls hl)
    · cases h
  | _ => cases h
set_option maxHeartbeats 4000000 in
theorem pb_ok (hx : p.tables.exec = Jvm.exec) (hb : c.code = cc) {pc : Nat} {i : Instr} {n nx tg x wd : Nat} {k : Int32} {K : Int64} (hd : decode cc pc = .ok (i, n)) (hc : ckE own Ts nL pc (i, n, nx, tg, x, wd, k, K) = true) {st st' : List Value} {P1 P2 : Prop} (h : pb i st = some (st', P1, P2)) {ls : Array Slot}
    (kt : P1 → W p l e R s m args below meth c H locs cells slots Q (F0 m tg ls (st'.map (cv ad)))) (kf : P2 → W p l e R s m args below meth c H locs cells slots Q (F0 m nx ls (st'.map (cv ad)))) : W p l e R s m args below meth c H locs cells slots Q (F0 m pc ls (st.map (cv ad))) := by
  cases i with
  | ifCond cd o =>
    simp only [ckE, Bool.and_eq_true, beq_iff_eq, decide_eq_true_eq] at hc
    obtain ⟨rfl, rfl, ho⟩ := hc
    simp only [pb] at h
    split at h
    · cases cd with
      | eq =>
        cases h
        exact lv_if_eq hx hb hd ho kt kf
      | ne =>
        cases h
        exact lv_if_ne hx hb hd ho kt kf
      | lt =>
        cases h
        exact lv_if_lt hx hb hd ho kt kf
      | ge =>
        cases h
        exact lv_if_ge hx hb hd ho kt kf
      | gt =>
        cases h
        exact lv_if_gt hx hb hd ho kt kf
      | le =>
        cases h
        exact lv_if_le hx hb hd ho kt kf
    · cases h
  | if_icmp cd o =>
    simp only [ckE, Bool.and_eq_true, beq_iff_eq, decide_eq_true_eq] at hc
    obtain ⟨rfl, rfl, ho⟩ := hc
    simp only [pb] at h
    split at h
    · cases cd with
      | eq =>
        cases h
        exact lv_icmp_eq hx hb hd ho kt kf
      | ne =>
        cases h
        exact lv_icmp_ne hx hb hd ho kt kf
      | lt =>
        cases h
        exact lv_icmp_lt hx hb hd ho kt kf
      | ge =>
        cases h
        exact lv_icmp_ge hx hb hd ho kt kf
      | gt =>
        cases h
        exact lv_icmp_gt hx hb hd ho kt kf
      | le =>
        cases h
        exact lv_icmp_le hx hb hd ho kt kf
    · cases h
  | _ => cases h
end SD
end
section
/-! THE WALK'S HEAP: what the ints and the longs of a fixed set of cells are; the cells' shapes are a list. -/
section HP
/-- the ints of each cell, the longs of each cell -/
abbrev Hp : Type := (Nat → Nat → Int32) × (Nat → Nat → Int64)
/-- a cell's shape: an object (its class's number, its fields: 0 an int, 1 a long, 2 a boolean, r + 3 the cell r), or an array (its length, its kind: 0 ints, 1 longs, 2 booleans, 3 and on references, and the cell of its first row) -/
abbrev Sh : Type := (Nat × List Nat) ⊕ (Nat × Nat × Nat)
def fV (ad : Nat → Nat) (h : Hp) (k j f : Nat) : Value := match f with
  | 0 => .int (h.1 k j)
  | 1 => .long (h.2 k j)
  | 2 => .int (h.1 k j)
  | r + 3 => .ref (ad r)
def fsV (ad : Nat → Nat) (h : Hp) (k : Nat) : List Nat → Nat → List Value
  | [], _ => []
  | f :: r, j => fV ad h k j f :: fsV ad h k r (j + 1)
def cellE (cA : Nat → ClassId) (ad : Nat → Nat) (h : Hp) (k : Nat) (s : Sh) : va_E := match s with
  | .inl (ci, fs) => .inr (ci, fsV ad h k fs 0)
  | .inr (n, 0, _) => .inl (cA 0, n, .inl (h.1 k))
  | .inr (n, 1, _) => .inl (cA 1, n, .inr (.inl (h.2 k)))
  | .inr (n, 2, _) => .inl (cA 2, n, .inl (h.1 k))
  | .inr (n, t + 3, b) => .inl (cA (t + 3), n, .inr (.inr (.inr (.inr (fun j => some (ad (b + j)))))))
def wdl (cA : Nat → ClassId) (ad : Nat → Nat) (h : Hp) : List Sh → Nat → va_W
  | [], _ => []
  | s :: r, k => (ad k, cellE cA ad h k s) :: wdl cA ad h r (k + 1)
abbrev Wd (sl : List Sh) (cA : Nat → ClassId) (ad : Nat → Nat) (h : Hp) : va_W := wdl cA ad h sl 0
theorem wdl_at (cA : Nat → ClassId) (ad : Nat → Nat) (h : Hp) : ∀ (sl : List Sh) (b k : Nat) (s : Sh), sl[k]? = some s → (wdl cA ad h sl b)[k]? = some (ad (b + k), cellE cA ad h (b + k) s)
  | [], b, k, s, e => by simp at e
  | x :: r, b, 0, s, e => by
    have e1 : x = s := by simpa using e
    rw [e1]
    rfl
  | x :: r, b, k + 1, s, e => by
    have e1 := wdl_at cA ad h r (b + 1) k s (by simpa using e)
    rw [show b + (k + 1) = b + 1 + k by omega]
    simpa [wdl] using e1
theorem Wd_at {sl : List Sh} {cA : Nat → ClassId} {ad : Nat → Nat} {h : Hp} {k : Nat} {s : Sh} (e : sl[k]? = some s) : (Wd sl cA ad h)[k]? = some (ad k, cellE cA ad h k s) := by
  have e1 := wdl_at cA ad h sl 0 k s e
  rwa [Nat.zero_add] at e1
theorem fsV_same (ad : Nat → Nat) {h h' : Hp} {k : Nat} (h1 : h'.1 k = h.1 k) (h2 : h'.2 k = h.2 k) : ∀ (fs : List Nat) (j : Nat), fsV ad h' k fs j = fsV ad h k fs j
  | [], _ => rfl
  | f :: r, j => by
    have e : fV ad h' k j f = fV ad h k j f := by
      unfold fV
      split <;> simp [h1, h2]
    simp only [fsV, e, fsV_same ad h1 h2 r (j + 1)]
theorem cellE_same (cA : Nat → ClassId) (ad : Nat → Nat) {h h' : Hp} {k : Nat} (h1 : h'.1 k = h.1 k) (h2 : h'.2 k = h.2 k) (s : Sh) : cellE cA ad h' k s = cellE cA ad h k s := by
  unfold cellE
  split <;> simp [h1, h2, fsV_same ad h1 h2]
theorem wdl_set (cA : Nat → ClassId) (ad : Nat → Nat) {h h' : Hp} : ∀ (sl : List Sh) (b k : Nat) (s : Sh), sl[k]? = some s → (∀ j, j ≠ b + k → h'.1 j = h.1 j ∧ h'.2 j = h.2 j) → (wdl cA ad h sl b).set k (ad (b + k), cellE cA ad h' (b + k) s) = wdl cA ad h' sl b
  | [], b, k, s, e, _ => by simp at e
  | x :: r, b, 0, s, e, hj => by
    have e1 : x = s := by simpa using e
    have e2 : ∀ (q : List Sh) (d : Nat), b < d → wdl cA ad h q d = wdl cA ad h' q d := by
      intro q
      induction q with
      | nil => intro d _; rfl
      | cons y q ih =>
        intro d hd
        simp only [wdl]
        rw [ih (d + 1) (by omega), cellE_same cA ad (hj d (by omega)).1 (hj d (by omega)).2]
    rw [e1]
    simp only [wdl, List.set_cons_zero, Nat.add_zero]
    rw [e2 r (b + 1) (by omega)]
  | x :: r, b, k + 1, s, e, hj => by
    have e1 := wdl_set cA ad r (b + 1) k s (by simpa using e) (fun j q => hj j (by omega))
    simp only [wdl, List.set_cons_succ]
    rw [show b + (k + 1) = b + 1 + k by omega, e1, cellE_same cA ad (hj b (by omega)).1 (hj b (by omega)).2]
theorem Wd_set {sl : List Sh} {cA : Nat → ClassId} {ad : Nat → Nat} {h h' : Hp} {k : Nat} {s : Sh} (e : sl[k]? = some s) (hj : ∀ j, j ≠ k → h'.1 j = h.1 j ∧ h'.2 j = h.2 j) : (Wd sl cA ad h).set k (ad k, cellE cA ad h' k s) = Wd sl cA ad h' := by
  have e1 := wdl_set cA ad (h := h) (h' := h') sl 0 k s e (by rw [Nat.zero_add]; exact hj)
  rwa [Nat.zero_add] at e1
/-- an int of a cell is written -/
def upI (h : Hp) (k j : Nat) (v : Int32) : Hp := (va_up h.1 k (upd (h.1 k) j v), h.2)
def upL (h : Hp) (k j : Nat) (v : Int64) : Hp := (h.1, va_up h.2 k (vp_updL (h.2 k) j v))
theorem upI_off {h : Hp} {k j : Nat} {v : Int32} : ∀ q, q ≠ k → (upI h k j v).1 q = h.1 q ∧ (upI h k j v).2 q = h.2 q := fun q hq => ⟨va_up_ne h.1 _ hq, rfl⟩
theorem upL_off {h : Hp} {k j : Nat} {v : Int64} : ∀ q, q ≠ k → (upL h k j v).1 q = h.1 q ∧ (upL h k j v).2 q = h.2 q := fun q hq => ⟨rfl, va_up_ne h.2 _ hq⟩
theorem fsV_get (ad : Nat → Nat) (h : Hp) (k : Nat) : ∀ (fs : List Nat) (b j f : Nat), fs[j]? = some f → (fsV ad h k fs b)[j]? = some (fV ad h k (b + j) f)
  | [], b, j, f, e => by simp at e
  | x :: r, b, 0, f, e => by
    have e1 : x = f := by simpa using e
    rw [e1]
    rfl
  | x :: r, b, j + 1, f, e => by
    have e1 := fsV_get ad h k r (b + 1) j f (by simpa using e)
    rw [show b + (j + 1) = b + 1 + j by omega]
    simpa [fsV] using e1
/-- what a field holds, in the walk's words -/
def gF (h : Hp) (k j f : Nat) : Value := match f with
  | 0 => .int (h.1 k j)
  | 1 => .long (h.2 k j)
  | 2 => .int (h.1 k j)
  | r + 3 => .ref r
theorem gF_cv (ad : Nat → Nat) (h : Hp) (k j f : Nat) : cv ad (gF h k j f) = fV ad h k j f := by
  unfold gF fV
  split <;> rfl
theorem fsV_len (ad : Nat → Nat) (h : Hp) (k : Nat) : ∀ (fs : List Nat) (b : Nat), (fsV ad h k fs b).length = fs.length
  | [], _ => rfl
  | f :: r, b => by simp [fsV, fsV_len ad h k r (b + 1)]
/-- writing an int field -/
theorem fsV_setI (ad : Nat → Nat) (h : Hp) (k : Nat) (v : Int32) : ∀ (fs : List Nat) (b j f : Nat), fs[j]? = some f → (f = 0 ∨ f = 2) → (fsV ad h k fs b).set j (.int v) = fsV ad (upI h k (b + j) v) k fs b
  | [], b, j, f, e, _ => by simp at e
  | x :: r, b, 0, f, e, hf => by
    have e1 : x = f := by simpa using e
    have e2 : ∀ (q : List Nat) (d : Nat), b < d → fsV ad h k q d = fsV ad (upI h k (b + 0) v) k q d := by
      intro q
      induction q with
      | nil => intro d _; rfl
      | cons y q ih =>
        intro d hd
        have e3 : fV ad (upI h k (b + 0) v) k d y = fV ad h k d y := by
          unfold fV
          split
          · simp [upI, va_up_self, upd, show d ≠ b by omega]
          · rfl
          · simp [upI, va_up_self, upd, show d ≠ b by omega]
          · rfl
        simp only [fsV]
        rw [ih (d + 1) (by omega), e3]
    have e4 : fV ad (upI h k (b + 0) v) k b x = .int v := by
      rw [e1]
      rcases hf with rfl | rfl <;> simp [fV, upI, va_up_self, upd]
    simp only [fsV, List.set_cons_zero]
    rw [e4, ← e2 r (b + 1) (by omega)]
  | x :: r, b, j + 1, f, e, hf => by
    have e1 := fsV_setI ad h k v r (b + 1) j f (by simpa using e) hf
    have e3 : fV ad (upI h k (b + (j + 1)) v) k b x = fV ad h k b x := by
      unfold fV
      split
      · simp [upI, va_up_self, upd, show b ≠ b + (j + 1) by omega]
      · rfl
      · simp [upI, va_up_self, upd, show b ≠ b + (j + 1) by omega]
      · rfl
    simp only [fsV, List.set_cons_succ]
    rw [e1, e3, show b + (j + 1) = b + 1 + j by omega]
end HP
end
section
/-! THE RULES OF THE WALK: what a predicate V of places (pc, locals, stack, heap) keeps to (Gd), and that the machine's own predicate (Vt) keeps to it. A method is then walked over any V with Gd. -/
section RU
def ckF (cl : List vw_C) (own : String) (Ts : List Cond) (e : RowE) : Bool := match e with
  | (i, _, _, tg, x, wd, k, _) => match i with
    | .getfield a => match cl[x]? with
      | some (C, T, N) => decide (tg < N) && decide ((T tg).1 = C) && decide (Ts[wd]? = some (Cond.fieldLink own a C (T tg).2.1 (T tg).2.2.1))
      | none => false
    | .putfield a => match cl[x]? with
      | some (C, T, N) => decide (tg < N) && decide ((T tg).1 = C) && decide (Ts[wd]? = some (Cond.fieldLink own a C (T tg).2.1 (T tg).2.2.1)) && ((k == 2) || !(T tg).2.2.2) && (!(k == 0) || decide (parseFieldDescriptor (T tg).2.2.1 = some .int)) && (!(k == 1) || decide (parseFieldDescriptor (T tg).2.2.1 = some .boolean))
      | none => false
    | _ => true
def ClsOk (cl : List vw_C) (Ts : List Cond) : Prop := ∀ (ci : Nat) (C : String) (T : u_T) (N : Nat), cl[ci]? = some (C, T, N) → (∀ w ∈ u_ws C T N, w ∈ Ts) ∧ (∃ ty0 : Nat → FieldType, ∀ k, k < N → parseFieldDescriptor (T k).2.2.1 = some (ty0 k)) ∧ (∀ a, a < N → ∀ b, b < N → a ≠ b → (T a).2.1 ≠ (T b).2.1)
def tysOf (cA : Nat → ClassId) : List (ClassId × FieldType) := [(cA 0, .int), (cA 1, .long), (cA 2, .boolean), (cA 3, .array .long), (cA 4, .array .int)]
def rowOk (cc : ByteArray) (own : String) (Ts : List Cond) (nL : Nat) (cl : List vw_C) (q : Nat × RowE) : Bool := decide (decode cc q.1 = .ok (q.2.1, q.2.2.1)) && ckE own Ts nL q.1 q.2 && ckF cl own Ts q.2
def Cx (p : Program) (s : State) (m : MethodId) (args : Array Value) (c : Code) (cc : ByteArray) (own : String) (Ts : List Cond) (nL : Nat) (tl : List (Nat × RowE)) (D : va_G) (cl : List vw_C) (cA : Nat → ClassId) : Prop :=
  p.tables.exec = Jvm.exec ∧ c.code = cc ∧ s.vm.findClass own = some m.cls ∧ (∀ w ∈ Ts, w.before args s = true) ∧ tl.all (rowOk cc own Ts nL cl) = true ∧ va_K D cl (tysOf cA) s ∧ ClsOk cl Ts
abbrev VT : Type := Nat → List (Option Value) → List Value → Hp → Prop
def Gd (sl : List Sh) (tl : List (Nat × RowE)) (V : VT) : Prop :=
  (∀ (pc n nx tg x wd : Nat) (i : Instr) (k : Int32) (K : Int64) (lv lv' : List (Option Value)) (st st' : List Value) (h : Hp), lkT tl pc = some (i, n, nx, tg, x, wd, k, K) → ps i x k K lv st = some (lv', st') → V nx lv' st' h → V pc lv st h) ∧
  (∀ (pc n nx tg x wd : Nat) (i : Instr) (k : Int32) (K : Int64) (lv : List (Option Value)) (st st' : List Value) (P1 P2 : Prop) (h : Hp), lkT tl pc = some (i, n, nx, tg, x, wd, k, K) → pb i st = some (st', P1, P2) → (P1 → V tg lv st' h) → (P2 → V nx lv st' h) → V pc lv st h) ∧
  (∀ (pc n nx tg x wd : Nat) (o : Int) (k : Int32) (K : Int64) (lv : List (Option Value)) (st : List Value) (h : Hp), lkT tl pc = some (.goto o, n, nx, tg, x, wd, k, K) → V tg lv st h → V pc lv st h) ∧
  (∀ (pc n nx j ci wd a f o : Nat) (k : Int32) (K : Int64) (fs : List Nat) (lv : List (Option Value)) (st : List Value) (h : Hp), lkT tl pc = some (.getfield o, n, nx, j, ci, wd, k, K) → sl[a]? = some (.inl (ci, fs)) → fs[j]? = some f → V nx lv (gF h a j f :: st) h → V pc lv (.ref a :: st) h) ∧
  (∀ (pc n nx j ci wd a o : Nat) (K : Int64) (fs : List Nat) (lv : List (Option Value)) (st : List Value) (h : Hp) (v : Int32), lkT tl pc = some (.putfield o, n, nx, j, ci, wd, 0, K) → sl[a]? = some (.inl (ci, fs)) → fs[j]? = some 0 → V nx lv st (upI h a j v) → V pc lv (.int v :: .ref a :: st) h) ∧
  (∀ (pc n nx j ci wd a o : Nat) (K : Int64) (fs : List Nat) (lv : List (Option Value)) (st : List Value) (h : Hp) (v : Int32), lkT tl pc = some (.putfield o, n, nx, j, ci, wd, 1, K) → sl[a]? = some (.inl (ci, fs)) → fs[j]? = some 2 → (v = 0 ∨ v = 1) → V nx lv st (upI h a j v) → V pc lv (.int v :: .ref a :: st) h) ∧
  (∀ (pc n nx tg x wd a N b : Nat) (k : Int32) (K : Int64) (lv : List (Option Value)) (st : List Value) (h : Hp) (i : Int32), lkT tl pc = some (.iaload, n, nx, tg, x, wd, k, K) → sl[a]? = some (.inr (N, 0, b)) → vp_in i N → V nx lv (.int (h.1 a i.toNatClampNeg) :: st) h → V pc lv (.int i :: .ref a :: st) h) ∧
  (∀ (pc n nx tg x wd a N b : Nat) (k : Int32) (K : Int64) (lv : List (Option Value)) (st : List Value) (h : Hp) (i : Int32), lkT tl pc = some (.baload, n, nx, tg, x, wd, k, K) → sl[a]? = some (.inr (N, 2, b)) → vp_in i N → V nx lv (.int (h.1 a i.toNatClampNeg) :: st) h → V pc lv (.int i :: .ref a :: st) h) ∧
  (∀ (pc n nx tg x wd a N b : Nat) (k : Int32) (K : Int64) (lv : List (Option Value)) (st : List Value) (h : Hp) (i : Int32), lkT tl pc = some (.laload, n, nx, tg, x, wd, k, K) → sl[a]? = some (.inr (N, 1, b)) → vp_in i N → V nx lv (.long (h.2 a i.toNatClampNeg) :: st) h → V pc lv (.int i :: .ref a :: st) h) ∧
  (∀ (pc n nx tg x wd a N t b : Nat) (k : Int32) (K : Int64) (lv : List (Option Value)) (st : List Value) (h : Hp) (i : Int32), lkT tl pc = some (.aaload, n, nx, tg, x, wd, k, K) → sl[a]? = some (.inr (N, t + 3, b)) → t < 2 → vp_in i N → V nx lv (.ref (b + i.toNatClampNeg) :: st) h → V pc lv (.int i :: .ref a :: st) h) ∧
  (∀ (pc n nx tg x wd a N b : Nat) (k : Int32) (K : Int64) (lv : List (Option Value)) (st : List Value) (h : Hp) (i v : Int32), lkT tl pc = some (.iastore, n, nx, tg, x, wd, k, K) → sl[a]? = some (.inr (N, 0, b)) → vp_in i N → V nx lv st (upI h a i.toNatClampNeg v) → V pc lv (.int v :: .int i :: .ref a :: st) h) ∧
  (∀ (pc n nx tg x wd a N b : Nat) (k : Int32) (K : Int64) (lv : List (Option Value)) (st : List Value) (h : Hp) (i v : Int32), lkT tl pc = some (.bastore, n, nx, tg, x, wd, k, K) → sl[a]? = some (.inr (N, 2, b)) → vp_in i N → (v = 0 ∨ v = 1) → V nx lv st (upI h a i.toNatClampNeg v) → V pc lv (.int v :: .int i :: .ref a :: st) h) ∧
  (∀ (pc n nx tg x wd a N b : Nat) (k : Int32) (K : Int64) (lv : List (Option Value)) (st : List Value) (h : Hp) (i : Int32) (v : Int64), lkT tl pc = some (.lastore, n, nx, tg, x, wd, k, K) → sl[a]? = some (.inr (N, 1, b)) → vp_in i N → V nx lv st (upL h a i.toNatClampNeg v) → V pc lv (.long v :: .int i :: .ref a :: st) h) ∧
  (∀ (pc n nx tg x wd a N t b : Nat) (k : Int32) (K : Int64) (lv : List (Option Value)) (st : List Value) (h : Hp), lkT tl pc = some (.arraylength, n, nx, tg, x, wd, k, K) → sl[a]? = some (.inr (N, t, b)) → t < 5 → V nx lv (.int (nI N) :: st) h → V pc lv (.ref a :: st) h) ∧
  (∀ (pc n nx tg x wd : Nat) (k : Int32) (K : Int64) (lv : List (Option Value)) (st : List Value) (h : Hp) (a b : Int32), lkT tl pc = some (.idiv, n, nx, tg, x, wd, k, K) → ¬ b = 0 → V nx lv (.int (a / b) :: st) h → V pc lv (.int b :: .int a :: st) h) ∧
  (∀ (pc n nx tg x wd : Nat) (k : Int32) (K : Int64) (lv : List (Option Value)) (st : List Value) (h : Hp) (a b : Int32), lkT tl pc = some (.irem, n, nx, tg, x, wd, k, K) → ¬ b = 0 → V nx lv (.int (a - a / b * b) :: st) h → V pc lv (.int b :: .int a :: st) h) ∧
  (∀ (pc : Nat) (lv lv' : List (Option Value)) (st : List Value) (h : Hp), (∀ (i : Nat) (v : Value), lk lv' i = some v → lk lv i = some v) → V pc lv' st h → V pc lv st h)
section
variable {sl : List Sh} {tl : List (Nat × RowE)} {V : VT} {pc n nx tg x wd a N t b j ci f o : Nat} {k : Int32} {K : Int64} {lv lv' : List (Option Value)} {st st' : List Value} {h : Hp} {i v : Int32} {fs : List Nat}
theorem Gd.s (G : Gd sl tl V) {i : Instr} (h1 : lkT tl pc = some (i, n, nx, tg, x, wd, k, K)) (h2 : ps i x k K lv st = some (lv', st')) (h3 : V nx lv' st' h) : V pc lv st h := G.1 pc n nx tg x wd i k K lv lv' st st' h h1 h2 h3
theorem Gd.br (G : Gd sl tl V) {i : Instr} {P1 P2 : Prop} (h1 : lkT tl pc = some (i, n, nx, tg, x, wd, k, K)) (h2 : pb i st = some (st', P1, P2)) (h3 : P1 → V tg lv st' h) (h4 : P2 → V nx lv st' h) : V pc lv st h := G.2.1 pc n nx tg x wd i k K lv st st' P1 P2 h h1 h2 h3 h4
theorem Gd.go (G : Gd sl tl V) {o : Int} (h1 : lkT tl pc = some (.goto o, n, nx, tg, x, wd, k, K)) (h3 : V tg lv st h) : V pc lv st h := G.2.2.1 pc n nx tg x wd o k K lv st h h1 h3
theorem Gd.get (G : Gd sl tl V) (h1 : lkT tl pc = some (.getfield o, n, nx, j, ci, wd, k, K)) (h2 : sl[a]? = some (.inl (ci, fs))) (h3 : fs[j]? = some f) (h4 : V nx lv (gF h a j f :: st) h) : V pc lv (.ref a :: st) h := G.2.2.2.1 pc n nx j ci wd a f o k K fs lv st h h1 h2 h3 h4
theorem Gd.put (G : Gd sl tl V) (h1 : lkT tl pc = some (.putfield o, n, nx, j, ci, wd, 0, K)) (h2 : sl[a]? = some (.inl (ci, fs))) (h3 : fs[j]? = some 0) (h4 : V nx lv st (upI h a j v)) : V pc lv (.int v :: .ref a :: st) h := G.2.2.2.2.1 pc n nx j ci wd a o K fs lv st h v h1 h2 h3 h4
theorem Gd.putz (G : Gd sl tl V) (h1 : lkT tl pc = some (.putfield o, n, nx, j, ci, wd, 1, K)) (h2 : sl[a]? = some (.inl (ci, fs))) (h3 : fs[j]? = some 2) (hv : v = 0 ∨ v = 1) (h4 : V nx lv st (upI h a j v)) : V pc lv (.int v :: .ref a :: st) h := G.2.2.2.2.2.1 pc n nx j ci wd a o K fs lv st h v h1 h2 h3 hv h4
theorem Gd.iald (G : Gd sl tl V) (h1 : lkT tl pc = some (.iaload, n, nx, tg, x, wd, k, K)) (h2 : sl[a]? = some (.inr (N, 0, b))) (h3 : vp_in i N) (h4 : V nx lv (.int (h.1 a i.toNatClampNeg) :: st) h) : V pc lv (.int i :: .ref a :: st) h := G.2.2.2.2.2.2.1 pc n nx tg x wd a N b k K lv st h i h1 h2 h3 h4
theorem Gd.zald (G : Gd sl tl V) (h1 : lkT tl pc = some (.baload, n, nx, tg, x, wd, k, K)) (h2 : sl[a]? = some (.inr (N, 2, b))) (h3 : vp_in i N) (h4 : V nx lv (.int (h.1 a i.toNatClampNeg) :: st) h) : V pc lv (.int i :: .ref a :: st) h := G.2.2.2.2.2.2.2.1 pc n nx tg x wd a N b k K lv st h i h1 h2 h3 h4
theorem Gd.lald (G : Gd sl tl V) (h1 : lkT tl pc = some (.laload, n, nx, tg, x, wd, k, K)) (h2 : sl[a]? = some (.inr (N, 1, b))) (h3 : vp_in i N) (h4 : V nx lv (.long (h.2 a i.toNatClampNeg) :: st) h) : V pc lv (.int i :: .ref a :: st) h := G.2.2.2.2.2.2.2.2.1 pc n nx tg x wd a N b k K lv st h i h1 h2 h3 h4
theorem Gd.aald (G : Gd sl tl V) (h1 : lkT tl pc = some (.aaload, n, nx, tg, x, wd, k, K)) (h2 : sl[a]? = some (.inr (N, t + 3, b))) (ht : t < 2) (h3 : vp_in i N) (h4 : V nx lv (.ref (b + i.toNatClampNeg) :: st) h) : V pc lv (.int i :: .ref a :: st) h := G.2.2.2.2.2.2.2.2.2.1 pc n nx tg x wd a N t b k K lv st h i h1 h2 ht h3 h4
theorem Gd.iast (G : Gd sl tl V) (h1 : lkT tl pc = some (.iastore, n, nx, tg, x, wd, k, K)) (h2 : sl[a]? = some (.inr (N, 0, b))) (h3 : vp_in i N) (h4 : V nx lv st (upI h a i.toNatClampNeg v)) : V pc lv (.int v :: .int i :: .ref a :: st) h := G.2.2.2.2.2.2.2.2.2.2.1 pc n nx tg x wd a N b k K lv st h i v h1 h2 h3 h4
theorem Gd.zast (G : Gd sl tl V) (h1 : lkT tl pc = some (.bastore, n, nx, tg, x, wd, k, K)) (h2 : sl[a]? = some (.inr (N, 2, b))) (h3 : vp_in i N) (hv : v = 0 ∨ v = 1) (h4 : V nx lv st (upI h a i.toNatClampNeg v)) : V pc lv (.int v :: .int i :: .ref a :: st) h := G.2.2.2.2.2.2.2.2.2.2.2.1 pc n nx tg x wd a N b k K lv st h i v h1 h2 h3 hv h4
theorem Gd.last (G : Gd sl tl V) {v : Int64} (h1 : lkT tl pc = some (.lastore, n, nx, tg, x, wd, k, K)) (h2 : sl[a]? = some (.inr (N, 1, b))) (h3 : vp_in i N) (h4 : V nx lv st (upL h a i.toNatClampNeg v)) : V pc lv (.long v :: .int i :: .ref a :: st) h := G.2.2.2.2.2.2.2.2.2.2.2.2.1 pc n nx tg x wd a N b k K lv st h i v h1 h2 h3 h4
theorem Gd.alen (G : Gd sl tl V) (h1 : lkT tl pc = some (.arraylength, n, nx, tg, x, wd, k, K)) (h2 : sl[a]? = some (.inr (N, t, b))) (ht : t < 5) (h4 : V nx lv (.int (nI N) :: st) h) : V pc lv (.ref a :: st) h := G.2.2.2.2.2.2.2.2.2.2.2.2.2.1 pc n nx tg x wd a N t b k K lv st h h1 h2 ht h4
theorem Gd.idiv (G : Gd sl tl V) {p q : Int32} (h1 : lkT tl pc = some (.idiv, n, nx, tg, x, wd, k, K)) (h2 : ¬ q = 0) (h4 : V nx lv (.int (p / q) :: st) h) : V pc lv (.int q :: .int p :: st) h := G.2.2.2.2.2.2.2.2.2.2.2.2.2.2.1 pc n nx tg x wd k K lv st h p q h1 h2 h4
theorem Gd.irem (G : Gd sl tl V) {p q : Int32} (h1 : lkT tl pc = some (.irem, n, nx, tg, x, wd, k, K)) (h2 : ¬ q = 0) (h4 : V nx lv (.int (p - p / q * q) :: st) h) : V pc lv (.int q :: .int p :: st) h := G.2.2.2.2.2.2.2.2.2.2.2.2.2.2.2.1 pc n nx tg x wd k K lv st h p q h1 h2 h4
theorem Gd.less (G : Gd sl tl V) (h1 : ∀ (i : Nat) (v : Value), lk lv' i = some v → lk lv i = some v) (h4 : V pc lv' st h) : V pc lv st h := G.2.2.2.2.2.2.2.2.2.2.2.2.2.2.2.2 pc lv lv' st h h1 h4
end
section
variable {p : Program} {l : Launch} {e : Env} {R : Room} {s : State} {m : MethodId} {args : Array Value} {below : List Frame} {meth : Method} {c : Code} {cells slots : Nat} {Q : State → Prop} {cc : ByteArray} {own : String} {Ts : List Cond} {nL : Nat} {tl : List (Nat × RowE)} {D : va_G} {cl : List vw_C} {cA : Nat → ClassId} {ad : Nat → Nat} {A : Nat → Prop} {sl : List Sh}
/-- the machine comes to Q from this place, whatever heap bears it -/
def Vt (p : Program) (l : Launch) (e : Env) (R : Room) (s : State) (m : MethodId) (args : Array Value) (below : List Frame) (meth : Method) (c : Code) (nL : Nat) (ad : Nat → Nat) (D : va_G) (cl : List vw_C) (sl : List Sh) (cA : Nat → ClassId) (A : Nat → Prop) (cells slots : Nat) (Q : State → Prop) : VT := fun pc lv st h =>
  ∀ (ls : Array Slot) (H : Heap) (locs : List Loc), lh ls nL ad lv → va_P D cl (Wd sl cA ad h) H → va_D A (Wd sl cA ad h) → va_S A s.heap H locs → W p l e R s m args below meth c H locs cells slots Q (F0 m pc ls (st.map (cv ad)))
theorem rowOk_s {cc : ByteArray} {own : String} {Ts : List Cond} {nL : Nat} {cl : List vw_C} {tl : List (Nat × RowE)} (h : tl.all (rowOk cc own Ts nL cl) = true) {pc : Nat} {r : RowE} (h1 : lkT tl pc = some r) : decode cc pc = .ok (r.1, r.2.1) ∧ ckE own Ts nL pc r = true ∧ ckF cl own Ts r = true := by
  have h2 := List.all_eq_true.mp h _ (lkT_mem h1)
  simp only [rowOk, Bool.and_eq_true, decide_eq_true_eq] at h2
  exact ⟨h2.1.1, h2.1.2, h2.2⟩
theorem tys_0 (cA : Nat → ClassId) : (tysOf cA)[0]? = some (cA 0, .int) := rfl
theorem tys_1 (cA : Nat → ClassId) : (tysOf cA)[1]? = some (cA 1, .long) := rfl
theorem tys_2 (cA : Nat → ClassId) : (tysOf cA)[2]? = some (cA 2, .boolean) := rfl
theorem nar_b {v : Int32} (h : v = 0 ∨ v = 1) : narrow .boolean (.int v) = .int v ∧ fits .boolean (.int v) = true ∧ vp_nar .boolean v = v := by
  rcases h with rfl | rfl <;> exact ⟨by decide, by decide, by decide⟩
set_option maxHeartbeats 4000000 in
theorem Vt_Gd (C0 : Cx p s m args c cc own Ts nL tl D cl cA) : Gd sl tl (Vt p l e R s m args below meth c nL ad D cl sl cA A cells slots Q) := by
  obtain ⟨hx, hb, hown, hts, htl, hK, hcl⟩ := C0
  refine ⟨?_, ?_, ?_, ?_, ?_, ?_, ?_, ?_, ?_, ?_, ?_, ?_, ?_, ?_, ?_, ?_, ?_⟩
  · intro pc n nx tg x wd i k K lv lv' st st' h h1 h2 h3 ls H locs hl hP hD hS
    obtain ⟨hd, hc, -⟩ := rowOk_s htl h1
    exact ps_ok hx hb hown hts hd hc h2 hl (fun ls' hl' => h3 ls' H locs hl' hP hD hS)
  · intro pc n nx tg x wd i k K lv st st' P1 P2 h h1 h2 h3 h4 ls H locs hl hP hD hS
    obtain ⟨hd, hc, -⟩ := rowOk_s htl h1
    exact pb_ok hx hb hd hc h2 (fun q => h3 q ls H locs hl hP hD hS) (fun q => h4 q ls H locs hl hP hD hS)
  · intro pc n nx tg x wd o k K lv st h h1 h3 ls H locs hl hP hD hS
    obtain ⟨hd, hc, -⟩ := rowOk_s htl h1
    simp only [ckE, Bool.and_eq_true, beq_iff_eq, decide_eq_true_eq] at hc
    obtain ⟨-, rfl, ho⟩ := hc
    exact lv_goto hx hb hd ho (h3 ls H locs hl hP hD hS)
  · intro pc n nx j ci wd a f o k K fs lv st h h1 h2 h3 h4 ls H locs hl hP hD hS
    obtain ⟨hd, hc, hf⟩ := rowOk_s htl h1
    simp only [ckE, Bool.and_eq_true, beq_iff_eq] at hc
    obtain ⟨rfl, rfl⟩ := hc
    simp only [ckF] at hf
    split at hf
    · rename_i C T N hC
      simp only [Bool.and_eq_true, decide_eq_true_eq] at hf
      obtain ⟨⟨hj, hd1⟩, hw⟩ := hf
      have hat := Wd_at (cA := cA) (ad := ad) (h := h) h2
      have hv := fsV_get ad h a fs 0 j f h3
      rw [Nat.zero_add] at hv
      refine va_get (ci := ci) (C := C) (T := T) (N := N) hx hb hts (hcl ci C T N hC).1 hown hK hP a hat hC j hj (hts _ (List.mem_of_getElem? hw)) (fun y hy => by rw [hd1] at hy; exact hy) hv hd ?_
      have h5 := h4 ls H locs hl hP hD hS
      rw [List.map_cons, gF_cv] at h5
      exact h5
    · cases hf
  · intro pc n nx j ci wd a o K fs lv st h v h1 h2 h3 h4 ls H locs hl hP hD hS
    obtain ⟨hd, hc, hf⟩ := rowOk_s htl h1
    simp only [ckE, Bool.and_eq_true, beq_iff_eq] at hc
    obtain ⟨rfl, rfl⟩ := hc
    simp only [ckF] at hf
    split at hf
    · rename_i C T N hC
      simp only [Bool.and_eq_true, decide_eq_true_eq] at hf
      obtain ⟨⟨⟨⟨⟨hj, hd1⟩, hw⟩, hfin⟩, hti⟩, -⟩ := hf
      have hfin : (T j).2.2.2 = false := by simpa using hfin
      have hti : parseFieldDescriptor (T j).2.2.1 = some .int := by simpa using hti
      obtain ⟨hin, ⟨ty0, hty⟩, hnm⟩ := hcl ci C T N hC
      have hat := Wd_at (cA := cA) (ad := ad) (h := h) h2
      have hlen : j < (fsV ad h a fs 0).length := by
        rw [fsV_len]
        exact (List.getElem?_eq_some_iff.mp h3).1
      refine va_put (v := .int v) (ci := ci) (C := C) (T := T) (N := N) hx hb hts hin ty0 hty hnm hown hK hP hD hS a hat hC j hj (hts _ (List.mem_of_getElem? hw)) (fun y hy => by rw [hd1] at hy; exact hy) hfin hti rfl rfl hlen hd (fun H1 locs1 hP1 hD1 hS1 => ?_)
      have e1 := fsV_setI ad h a v fs 0 j 0 h3 (Or.inl rfl)
      rw [Nat.zero_add] at e1
      have e2 : (Wd sl cA ad h).set a (ad a, .inr (ci, (fsV ad h a fs 0).set j (.int v))) = Wd sl cA ad (upI h a j v) := by
        rw [e1]
        exact Wd_set (s := .inl (ci, fs)) h2 upI_off
      rw [e2] at hP1 hD1
      exact h4 ls H1 locs1 hl hP1 hD1 hS1
    · cases hf
  · intro pc n nx j ci wd a o K fs lv st h v h1 h2 h3 hv h4 ls H locs hl hP hD hS
    obtain ⟨hd, hc, hf⟩ := rowOk_s htl h1
    simp only [ckE, Bool.and_eq_true, beq_iff_eq] at hc
    obtain ⟨rfl, rfl⟩ := hc
    simp only [ckF] at hf
    split at hf
    · rename_i C T N hC
      simp only [Bool.and_eq_true, decide_eq_true_eq] at hf
      obtain ⟨⟨⟨⟨⟨hj, hd1⟩, hw⟩, hfin⟩, -⟩, hti⟩ := hf
      have hfin : (T j).2.2.2 = false := by simpa using hfin
      have hti : parseFieldDescriptor (T j).2.2.1 = some .boolean := by simpa using hti
      obtain ⟨hin, ⟨ty0, hty⟩, hnm⟩ := hcl ci C T N hC
      have hat := Wd_at (cA := cA) (ad := ad) (h := h) h2
      have hlen : j < (fsV ad h a fs 0).length := by
        rw [fsV_len]
        exact (List.getElem?_eq_some_iff.mp h3).1
      refine va_put (v := .int v) (ci := ci) (C := C) (T := T) (N := N) hx hb hts hin ty0 hty hnm hown hK hP hD hS a hat hC j hj (hts _ (List.mem_of_getElem? hw)) (fun y hy => by rw [hd1] at hy; exact hy) hfin hti (nar_b hv).1 (nar_b hv).2.1 hlen hd (fun H1 locs1 hP1 hD1 hS1 => ?_)
      have e1 := fsV_setI ad h a v fs 0 j 2 h3 (Or.inr rfl)
      rw [Nat.zero_add] at e1
      have e2 : (Wd sl cA ad h).set a (ad a, .inr (ci, (fsV ad h a fs 0).set j (.int v))) = Wd sl cA ad (upI h a j v) := by
        rw [e1]
        exact Wd_set (s := .inl (ci, fs)) h2 upI_off
      rw [e2] at hP1 hD1
      exact h4 ls H1 locs1 hl hP1 hD1 hS1
    · cases hf
  · intro pc n nx tg x wd a N b k K lv st h i h1 h2 h3 h4 ls H locs hl hP hD hS
    obtain ⟨hd, hc, -⟩ := rowOk_s htl h1
    simp only [ckE, Bool.and_eq_true, beq_iff_eq] at hc
    obtain ⟨rfl, rfl⟩ := hc
    exact va_iald hx hb hK hP a 0 (Wd_at h2) (tys_0 cA) h3 hd (h4 ls H locs hl hP hD hS)
  · intro pc n nx tg x wd a N b k K lv st h i h1 h2 h3 h4 ls H locs hl hP hD hS
    obtain ⟨hd, hc, -⟩ := rowOk_s htl h1
    simp only [ckE, Bool.and_eq_true, beq_iff_eq] at hc
    obtain ⟨rfl, rfl⟩ := hc
    exact va_zald hx hb hK hP a 2 (Wd_at h2) (tys_2 cA) h3 hd (h4 ls H locs hl hP hD hS)
  · intro pc n nx tg x wd a N b k K lv st h i h1 h2 h3 h4 ls H locs hl hP hD hS
    obtain ⟨hd, hc, -⟩ := rowOk_s htl h1
    simp only [ckE, Bool.and_eq_true, beq_iff_eq] at hc
    obtain ⟨rfl, rfl⟩ := hc
    exact va_lald hx hb hK hP a 1 (Wd_at h2) (tys_1 cA) h3 hd (h4 ls H locs hl hP hD hS)
  · intro pc n nx tg x wd a N t b k K lv st h i h1 h2 ht h3 h4 ls H locs hl hP hD hS
    obtain ⟨hd, hc, -⟩ := rowOk_s htl h1
    simp only [ckE, Bool.and_eq_true, beq_iff_eq] at hc
    obtain ⟨rfl, rfl⟩ := hc
    have hlt : i.toNatClampNeg < N := Nat.not_le.mp fun q => h3 (Or.inr q)
    have hat := hP a _ (Wd_at (cA := cA) (ad := ad) (h := h) h2)
    obtain ⟨ty, hty, hr⟩ : ∃ ty : FieldType, (tysOf cA)[t + 3]? = some (cA (t + 3), ty) ∧ ty.isReference = true := by
      rcases (show t = 0 ∨ t = 1 by omega) with rfl | rfl
      · exact ⟨_, rfl, rfl⟩
      · exact ⟨_, rfl, rfl⟩
    exact W.aald (v := va_rf (some (ad (b + i.toNatClampNeg)))) (ty := ty) hx hb hat ((hK.2 (t + 3) _ hty).1 N (fun j => va_rf (some (ad (b + j))))) hr (fun q => by cases q) (by show ¬ (i < 0 ∨ (arrV _ _ _).slots.size ≤ _); rw [arrV_size]; exact h3) (by show (arrV _ _ _).slots[_]? = _; rw [arrV_read _ _ hlt]) rfl rfl hd (h4 ls H locs hl hP hD hS)
  · intro pc n nx tg x wd a N b k K lv st h i v h1 h2 h3 h4 ls H locs hl hP hD hS
    obtain ⟨hd, hc, -⟩ := rowOk_s htl h1
    simp only [ckE, Bool.and_eq_true, beq_iff_eq] at hc
    obtain ⟨rfl, rfl⟩ := hc
    refine va_iast hx hb hK hP hD hS a 0 (Wd_at h2) (tys_0 cA) h3 hd (fun H1 locs1 hP1 hD1 hS1 => ?_)
    have e2 : (Wd sl cA ad h).set a (ad a, .inl (cA 0, N, .inl (upd (h.1 a) i.toNatClampNeg v))) = Wd sl cA ad (upI h a i.toNatClampNeg v) := by
      have e3 := Wd_set (cA := cA) (ad := ad) (h := h) (h' := upI h a i.toNatClampNeg v) h2 upI_off
      rw [← e3]
      simp [cellE, upI, va_up_self]
    rw [e2] at hP1 hD1
    exact h4 ls H1 locs1 hl hP1 hD1 hS1
  · intro pc n nx tg x wd a N b k K lv st h i v h1 h2 h3 hv h4 ls H locs hl hP hD hS
    obtain ⟨hd, hc, -⟩ := rowOk_s htl h1
    simp only [ckE, Bool.and_eq_true, beq_iff_eq] at hc
    obtain ⟨rfl, rfl⟩ := hc
    refine va_zast hx hb hK hP hD hS a 2 (Wd_at h2) (tys_2 cA) h3 hd (fun H1 locs1 hP1 hD1 hS1 => ?_)
    rw [(nar_b hv).2.2] at hP1 hD1
    have e2 : (Wd sl cA ad h).set a (ad a, .inl (cA 2, N, .inl (upd (h.1 a) i.toNatClampNeg v))) = Wd sl cA ad (upI h a i.toNatClampNeg v) := by
      have e3 := Wd_set (cA := cA) (ad := ad) (h := h) (h' := upI h a i.toNatClampNeg v) h2 upI_off
      rw [← e3]
      simp [cellE, upI, va_up_self]
    rw [e2] at hP1 hD1
    exact h4 ls H1 locs1 hl hP1 hD1 hS1
  · intro pc n nx tg x wd a N b k K lv st h i v h1 h2 h3 h4 ls H locs hl hP hD hS
    obtain ⟨hd, hc, -⟩ := rowOk_s htl h1
    simp only [ckE, Bool.and_eq_true, beq_iff_eq] at hc
    obtain ⟨rfl, rfl⟩ := hc
    refine va_last hx hb hK hP hD hS a 1 (Wd_at h2) (tys_1 cA) h3 hd (fun H1 locs1 hP1 hD1 hS1 => ?_)
    have e2 : (Wd sl cA ad h).set a (ad a, .inl (cA 1, N, .inr (.inl (vp_updL (h.2 a) i.toNatClampNeg v)))) = Wd sl cA ad (upL h a i.toNatClampNeg v) := by
      have e3 := Wd_set (cA := cA) (ad := ad) (h := h) (h' := upL h a i.toNatClampNeg v) h2 upL_off
      rw [← e3]
      simp [cellE, upL, va_up_self]
    rw [e2] at hP1 hD1
    exact h4 ls H1 locs1 hl hP1 hD1 hS1
  · intro pc n nx tg x wd a N t b k K lv st h h1 h2 ht h4 ls H locs hl hP hD hS
    obtain ⟨hd, hc, -⟩ := rowOk_s htl h1
    simp only [ckE, Bool.and_eq_true, beq_iff_eq] at hc
    obtain ⟨rfl, rfl⟩ := hc
    have hat := Wd_at (cA := cA) (ad := ad) (h := h) h2
    rcases (show t = 0 ∨ t = 1 ∨ t = 2 ∨ t = 3 ∨ t = 4 by omega) with rfl | rfl | rfl | rfl | rfl
    · exact va_alen hx hb hK hP a 0 hat (tys_0 cA) rfl hd (h4 ls H locs hl hP hD hS)
    · exact va_alen hx hb hK hP a 1 hat (tys_1 cA) rfl hd (h4 ls H locs hl hP hD hS)
    · exact va_alen hx hb hK hP a 2 hat (tys_2 cA) rfl hd (h4 ls H locs hl hP hD hS)
    · exact va_alen (ty := .array .long) hx hb hK hP a 3 hat rfl rfl hd (h4 ls H locs hl hP hD hS)
    · exact va_alen (ty := .array .int) hx hb hK hP a 4 hat rfl rfl hd (h4 ls H locs hl hP hD hS)
  · intro pc n nx tg x wd k K lv st h a b h1 h2 h4 ls H locs hl hP hD hS
    obtain ⟨hd, hc, -⟩ := rowOk_s htl h1
    simp only [ckE, Bool.and_eq_true, beq_iff_eq] at hc
    obtain ⟨rfl, rfl⟩ := hc
    exact lv_idiv hx hb hd h2 (h4 ls H locs hl hP hD hS)
  · intro pc n nx tg x wd k K lv st h a b h1 h2 h4 ls H locs hl hP hD hS
    obtain ⟨hd, hc, -⟩ := rowOk_s htl h1
    simp only [ckE, Bool.and_eq_true, beq_iff_eq] at hc
    obtain ⟨rfl, rfl⟩ := hc
    exact lv_irem hx hb hd h2 (h4 ls H locs hl hP hD hS)
  · intro pc lv lv' st h h1 h4 ls H locs hl hP hD hS
    exact h4 ls H locs (hl.less h1) hP hD hS
end
end RU
end
section
/-! CONTRACTS in the walk's words: a method, its arguments, the heap before; what it answers and the heap behind it. The calls of the walk, and a method's contract out of its walk. -/
section CT
/-- the words that every method takes along -/
def wg : List Cond := lw_tbl.filter goodWord
theorem wg_in {w : Cond} (i : Nat) (h : tables_1[i]? = some w) (hg : goodWord w = true) : w ∈ wg := List.mem_filter.mpr ⟨List.mem_append_right _ (List.mem_of_getElem? h), hg⟩
theorem wg_sel {w : Cond} (i : Nat) (h : (k2_sels lw_privs)[i]? = some w) (hg : goodWord w = true) : w ∈ wg := List.mem_filter.mpr ⟨List.mem_append_left _ (List.mem_of_getElem? h), hg⟩
theorem wg_good : GoodIn wg wg := fun _ hw => ⟨hw, good_of_word (List.mem_filter.mp hw).2⟩
theorem wg_cons {w : Cond} (h : w ∈ wg) : GoodIn wg (w :: wg) := fun v hv => by
  rcases List.mem_cons.mp hv with rfl | hv
  · exact wg_good _ h
  · exact wg_good _ hv
/-- what a method knows of cells that are no part of its world (static arrays): it stays -/
def StOk (St : (Nat → Prop) → State → Heap → Prop) : Prop := (∀ A u U H, u.vm.Alike U.vm → St A u H → St A U H) ∧ (∀ A U H H1, St A U H → (∀ a : Nat, a < H.size → ¬ A a → H1[a]? = H[a]?) → St A U H1) ∧ (∀ A B U H, St A U H → (∀ q, B q → A q) → St B U H)
def Px (D : va_G) (cl : List vw_C) (cA : Nat → ClassId) (sl : List Sh) (St : (Nat → Prop) → State → Heap → Prop) (ad : Nat → Nat) (avs : List Value) (h : Hp) (sz : Nat) : Array Value → State → Prop := va_Pc (avs.map (cv ad)) (fun U => U.heap.size = sz ∧ va_P D cl (Wd sl cA ad h) U.heap ∧ va_K D cl (tysOf cA) U ∧ va_D (fun _ => True) (Wd sl cA ad h) ∧ St (va_A (Wd sl cA ad h) sz) U U.heap)
def Qx (D : va_G) (cl : List vw_C) (cA : Nat → ClassId) (sl : List Sh) (ad : Nat → Nat) (A : Nat → Prop) (post : Option Value → Hp → Prop) : Array Value → State → Outcome → State → Prop := fun _ st oc t => (∃ (r : Option Value) (h' : Hp), oc = .returned (r.map (cv ad)) ∧ post r h' ∧ va_P D cl (Wd sl cA ad h') t.heap ∧ va_D A (Wd sl cA ad h')) ∧ va_F A st t
def Ct (l : Launch) (y : MethodName) (bytes : ByteArray) (maxL : Nat) (ret : Option FieldType) (rm : Room) (D : va_G) (cl : List vw_C) (cA : Nat → ClassId) (sl : List Sh) (St : (Nat → Prop) → State → Heap → Prop) (ad : Nat → Nat) (avs : List Value) (h : Hp) (post : Option Value → Hp → Prop) : Prop :=
  ∀ sz : Nat, Met l y (Cond.code y bytes maxL ret :: wg) rm (Px D cl cA sl St ad avs h sz) (Qx D cl cA sl ad (va_A (Wd sl cA ad h) sz) post) 0 0 (va_A (Wd sl cA ad h) sz)
theorem Px_blind {D : va_G} {cl : List vw_C} {cA : Nat → ClassId} {sl : List Sh} {St : (Nat → Prop) → State → Heap → Prop} {ad : Nat → Nat} {avs : List Value} {h : Hp} {sz : Nat} (hS : StOk St) : FrameBlind (Px D cl cA sl St ad avs h sz) := by
  intro a U g mk q
  obtain ⟨q0, q1, qP, qK, qD, qS⟩ := q
  exact ⟨q0, q1, qP, va_K.moved (u := U) (U := U.calling g mk a) (Vm.Alike.refl U.vm) qK, qD, hS.1 _ _ _ _ (Vm.Alike.refl U.vm) qS⟩
/-- the words of a call -/
def CwV (own : String) (o : Nat) (y : MethodName) (bytes : ByteArray) (maxL : Nat) (ret : Option FieldType) (N : Nat) : Prop := Cond.methodLink own o y ∈ wg ∧ Cond.instanceMethod y ∈ wg ∧ Cond.selects y.cls y y ∈ wg ∧ Cond.initialized y.cls ∈ wg ∧ Cond.code y bytes maxL ret ∈ wg ∧ (y.cls ≠ "java/lang/invoke/MethodHandle" ∧ y.cls ≠ "java/lang/invoke/VarHandle" ∧ (parseMethodDescriptor y.desc).map (fun d => d.parameters.length) = some N)
def CwS (own : String) (o : Nat) (y : MethodName) (bytes : ByteArray) (maxL : Nat) (ret : Option FieldType) (N : Nat) : Prop := Cond.methodLink own o y ∈ wg ∧ Cond.static y ∈ wg ∧ Cond.initialized y.cls ∈ wg ∧ Cond.code y bytes maxL ret ∈ wg ∧ (y.cls ≠ "java/lang/invoke/MethodHandle" ∧ y.cls ≠ "java/lang/invoke/VarHandle" ∧ (parseMethodDescriptor y.desc).map (fun d => d.parameters.length) = some N)
/-- the room of a method whose calls go d deep -/
def rmD (d : Nat) : Room := { frames := d, cells := 0, slots := 0, locals := 60 * d }
variable {p : Program} {l : Launch} {e : Env} {R : Room} {s : State} {m : MethodId} {args : Array Value} {below : List Frame} {meth : Method} {c : Code} {cells slots : Nat} {Q : State → Prop} {cc : ByteArray} {own : String} {nL : Nat} {tl : List (Nat × RowE)} {D : va_G} {cl : List vw_C} {cA : Nat → ClassId} {ad : Nat → Nat} {A : Nat → Prop} {sl : List Sh} {St : (Nat → Prop) → State → Heap → Prop}
theorem A_in {sl : List Sh} {cA : Nat → ClassId} {ad : Nat → Nat} {h : Hp} {A : Nat → Prop} {H0 H : Heap} {locs : List Loc} (hA : ∀ q, H0.size ≤ q → A q) (hD : va_D A (Wd sl cA ad h)) (hS : va_S A H0 H locs) : ∀ q, va_A (Wd sl cA ad h) H.size q → A q := by
  intro q hq
  rcases hq with ⟨k, e, hk⟩ | hq
  · exact hD.2 k (q, e) hk
  · exact hA q (Nat.le_trans hS.1 hq)
/-- behind a call -/
theorem Vt_run {pc nx : Nat} {lv : List (Option Value)} {st st0 : List Value} {h : Hp} {post : Option Value → Hp → Prop} {a : Array Value} {ls : Array Slot} {H : Heap} {locs : List Loc}
    (hr : va_Run p l e R s m args below meth c H locs cells slots 0 0 (F0 m pc ls st0) (st.map (cv ad)) (Qx D cl cA sl ad (va_A (Wd sl cA ad h) H.size) post a) (va_A (Wd sl cA ad h) H.size)) (hnx : nx = pc + 3)
    (hA : ∀ q, s.heap.size ≤ q → A q) (hD : va_D A (Wd sl cA ad h)) (hS : va_S A s.heap H locs) (hl : lh ls nL ad lv) (kk : ∀ (r : Option Value) (h' : Hp), post r h' → Vt p l e R s m args below meth c nL ad D cl sl cA A cells slots Q nx lv (r.toList ++ st) h') : W p l e R s m args below meth c H locs cells slots Q (F0 m pc ls st0) := by
  intro T hT X
  have hF := A_in hA hD hS
  obtain ⟨v, st₀, t, T', L, h0, X', hL, e1, e2, ⟨⟨r, h', hv, hp, hP1, hD1⟩, hz, hk⟩, stp⟩ := hr T hT X
  rw [h0] at hz hk
  have hv : v = r.map (cv ad) := Outcome.returned.inj hv
  subst hv
  subst hnx
  have hS1 : va_S A s.heap T'.heap (locs ++ L) := ⟨Nat.le_trans hS.1 (by rw [e1]; exact hz), fun q h1 h2 => by rw [e1, hk q (Nat.lt_of_lt_of_le h1 hS.1) (fun z => h2 (hF q z))]; exact hS.2.1 q h1 h2, fun q hq => by
    rcases List.mem_append.mp hq with hq | hq
    · exact hS.2.2 q hq
    · exact hF _ (hL q hq)⟩
  have k1 := kk r h' hp ls T'.heap (locs ++ L) hl (by rw [e1]; exact hP1) (hD1.weaken (fun _ q _ hq => hF q.1 hq)) hS1
  have e3 : (r.toList ++ st).map (cv ad) = (r.map (cv ad)).toList ++ st.map (cv ad) := by cases r <;> simp
  rw [e3] at k1
  obtain ⟨t2, a1, b1⟩ := k1 T' rfl X'
  exact ⟨t2, stp t2 a1, b1⟩
theorem cat_map (ad : Nat → Nat) (st : List Value) : ((st.map (cv ad)).map fun v => v.category).sum = (st.map fun v => v.category).sum := by
  rw [List.map_map]
  congr 1
  exact List.map_congr_left (fun v _ => cv_cat ad v)
theorem Vt_callV (C0 : Cx p s m args c cc own wg nL tl D cl cA) (hml : c.maxLocals = nL) (hA : ∀ q, s.heap.size ≤ q → A q) (hSt : StOk St) (hst : St A s s.heap) (hcap : cells ≤ R.cells ∧ slots ≤ R.slots)
    {pc n nx tg x wd o : Nat} {k : Int32} {K : Int64} (h1 : lkT tl pc = some (.invokevirtual o, n, nx, tg, x, wd, k, K)) {y : MethodName} {bytes : ByteArray} {maxL : Nat} {ret : Option FieldType} {rm : Room} {N : Nat} (cw : CwV own o y bytes maxL ret N) (hrm : rm.cells = 0 ∧ rm.slots = 0 ∧ rm.frames + 1 ≤ R.frames ∧ 8 + (maxL + 11) + rm.locals ≤ R.locals)
    {b ci M : Nat} {fs : List Nat} {T : u_T} (hb1 : sl[b]? = some (.inl (ci, fs))) (hb2 : cl[ci]? = some (y.cls, T, M)) {As : List Value} (hN : As.length = N) {h : Hp} {post : Option Value → Hp → Prop} (hM : Ct l y bytes maxL ret rm D cl cA sl St ad (.ref b :: As) h post) {lv : List (Option Value)} {st : List Value} (hs8 : (st.map fun v => v.category).sum ≤ 8)
    (kk : ∀ (r : Option Value) (h' : Hp), post r h' → Vt p l e R s m args below meth c nL ad D cl sl cA A cells slots Q nx lv (r.toList ++ st) h') : Vt p l e R s m args below meth c nL ad D cl sl cA A cells slots Q pc lv (As.reverse ++ .ref b :: st) h := by
  intro ls H locs hl hP hD hS
  obtain ⟨hx, hb, hown, hts, htl, hK, hcl⟩ := C0
  obtain ⟨hd, hc, -⟩ := rowOk_s htl h1
  simp only [ckE, Bool.and_eq_true, beq_iff_eq] at hc
  obtain ⟨hnx, rfl⟩ := hc
  obtain ⟨w1, w2, w3, w4, w5, w6⟩ := cw
  have cb : CallW R s args own y.cls o y bytes maxL ret (Cond.code y bytes maxL ret :: wg) rm 0 0 N := ⟨callB_of N hts (wg_cons w5) rfl hrm.1 hrm.2.1 (hts _ w4) (hts _ w1) w6 hrm.2.2, hts _ w2, hts _ w3⟩
  have hF := A_in hA hD hS
  have hpre : PreV s H y.cls (ad b) (Px D cl cA sl St ad (.ref b :: As) h H.size) (As.map (cv ad)) := by
    refine ⟨Px_blind hSt, va_recv hK hP hb2 (Wd_at hb1), fun U hU hW => ⟨rfl, by rw [hU], by rw [hU]; exact hP, va_K.moved hW.alike hK, hD.weaken (fun _ _ _ _ => trivial), ?_⟩⟩
    rw [hU]
    exact hSt.1 _ _ _ _ hW.alike (hSt.2.2 _ _ _ _ (hSt.2.1 _ _ _ _ hst (fun q h1 h2 => hS.2.1 q h1 h2)) hF)
  have e0 : (As.reverse ++ Value.ref b :: st).map (cv ad) = (As.map (cv ad)).reverse ++ .ref (ad b) :: st.map (cv ad) := by simp [cv]
  rw [e0]
  exact Vt_run (va_runV (g := F0 m pc ls ((As.map (cv ad)).reverse ++ .ref (ad b) :: st.map (cv ad))) ⟨hx, hb, hml, hown, hts⟩ (hM H.size) cb hpre rfl (by rw [List.length_map]; exact hN) hl.1.1 rfl (lv_room (by rw [cat_map]; exact hs8)) hd ⟨hcap.1, hcap.2⟩) hnx hA hD hS hl kk
theorem Vt_callS (C0 : Cx p s m args c cc own wg nL tl D cl cA) (hml : c.maxLocals = nL) (hA : ∀ q, s.heap.size ≤ q → A q) (hSt : StOk St) (hst : St A s s.heap) (hcap : cells ≤ R.cells ∧ slots ≤ R.slots)
    {pc n nx tg x wd o : Nat} {k : Int32} {K : Int64} (h1 : lkT tl pc = some (.invokestatic o, n, nx, tg, x, wd, k, K)) {y : MethodName} {bytes : ByteArray} {maxL : Nat} {ret : Option FieldType} {rm : Room} {N : Nat} (cw : CwS own o y bytes maxL ret N) (hrm : rm.cells = 0 ∧ rm.slots = 0 ∧ rm.frames + 1 ≤ R.frames ∧ 8 + (maxL + 11) + rm.locals ≤ R.locals)
    {As : List Value} (hN : As.length = N) {h : Hp} {post : Option Value → Hp → Prop} (hM : Ct l y bytes maxL ret rm D cl cA sl St ad As h post) {lv : List (Option Value)} {st : List Value} (hs8 : (st.map fun v => v.category).sum ≤ 8)
    (kk : ∀ (r : Option Value) (h' : Hp), post r h' → Vt p l e R s m args below meth c nL ad D cl sl cA A cells slots Q nx lv (r.toList ++ st) h') : Vt p l e R s m args below meth c nL ad D cl sl cA A cells slots Q pc lv (As.reverse ++ st) h := by
  intro ls H locs hl hP hD hS
  obtain ⟨hx, hb, hown, hts, htl, hK, hcl⟩ := C0
  obtain ⟨hd, hc, -⟩ := rowOk_s htl h1
  simp only [ckE, Bool.and_eq_true, beq_iff_eq] at hc
  obtain ⟨hnx, rfl⟩ := hc
  obtain ⟨w1, w2, w4, w5, w6⟩ := cw
  have cb : CallB R s args own o y bytes maxL ret (Cond.code y bytes maxL ret :: wg) rm 0 0 N ∧ (Cond.static y).before args s = true := ⟨callB_of N hts (wg_cons w5) rfl hrm.1 hrm.2.1 (hts _ w4) (hts _ w1) w6 hrm.2.2, hts _ w2⟩
  have hF := A_in hA hD hS
  have hpre : PreS s H (Px D cl cA sl St ad As h H.size) (As.map (cv ad)) := by
    refine ⟨Px_blind hSt, fun U hU hW => ⟨rfl, by rw [hU], by rw [hU]; exact hP, va_K.moved hW.alike hK, hD.weaken (fun _ _ _ _ => trivial), ?_⟩⟩
    rw [hU]
    exact hSt.1 _ _ _ _ hW.alike (hSt.2.2 _ _ _ _ (hSt.2.1 _ _ _ _ hst (fun q h1 h2 => hS.2.1 q h1 h2)) hF)
  have e0 : (As.reverse ++ st).map (cv ad) = (As.map (cv ad)).reverse ++ st.map (cv ad) := by simp
  rw [e0]
  exact Vt_run (va_runS (g := F0 m pc ls ((As.map (cv ad)).reverse ++ st.map (cv ad))) ⟨hx, hb, hml, hown, hts⟩ (hM H.size) cb hpre rfl (by rw [List.length_map]; exact hN) hl.1.1 rfl (lv_room (by rw [cat_map]; exact hs8)) hd ⟨hcap.1, hcap.2⟩) hnx hA hD hS hl kk
/-- the locals with which a method begins -/
def ent : List Value → Nat → List (Option Value)
  | [], n => List.replicate n none
  | .long x :: r, n => some (.long x) :: none :: ent r (n - 2)
  | .double x :: r, n => some (.double x) :: none :: ent r (n - 2)
  | .int x :: r, n => some (.int x) :: ent r (n - 1)
  | .float x :: r, n => some (.float x) :: ent r (n - 1)
  | .null :: r, n => some .null :: ent r (n - 1)
  | .ref x :: r, n => some (.ref x) :: ent r (n - 1)
  | .retAddr x :: r, n => some (.retAddr x) :: ent r (n - 1)
theorem lk_rep (n i : Nat) : lk (List.replicate n none) i = none := by
  induction n generalizing i with
  | zero => rfl
  | succ n ih => cases i with
    | zero => rfl
    | succ i => exact ih i
theorem ent_1 {v : Value} (hc : v.category = 1) (r : List Value) (n : Nat) : ent (v :: r) n = some v :: ent r (n - 1) := by
  cases v <;> first | rfl | cases hc
theorem ent_2 {v : Value} (hc : v.category = 2) (r : List Value) (n : Nat) : ent (v :: r) n = some v :: none :: ent r (n - 2) := by
  cases v <;> first | rfl | cases hc
theorem ent_args (ad : Nat → Nat) : ∀ (vs : List Value) (n b i : Nat) (v : Value), lk (ent vs n) i = some v → (b + i, cv ad v) ∈ lv_args b (vs.map (cv ad))
  | [], n, b, i, v, h => by
    rw [show ent [] n = List.replicate n none from rfl, lk_rep] at h
    cases h
  | w :: r, n, b, i, v, h => by
    rw [List.map_cons, lv_args, cv_cat]
    rcases lv_cat w with hc | hc
    · rw [ent_1 hc] at h
      rw [if_neg (by omega)]
      cases i with
      | zero =>
        have e1 : w = v := Option.some.inj h
        rw [e1]
        exact List.mem_cons_self
      | succ i =>
        have h1 := ent_args ad r (n - 1) (b + 1) i v h
        rw [show b + (i + 1) = b + 1 + i by omega]
        exact List.mem_cons_of_mem _ h1
    · rw [ent_2 hc] at h
      rw [if_pos hc]
      match i, h with
      | 0, h =>
        have e1 : w = v := Option.some.inj h
        rw [e1]
        exact List.mem_cons_self
      | 1, h => cases h
      | i + 2, h =>
        have h1 := ent_args ad r (n - 2) (b + 2) i v h
        rw [show b + (i + 2) = b + 2 + i by omega]
        exact List.mem_cons_of_mem _ h1
theorem sl_len (ad : Nat → Nat) : ∀ vs : List Value, (lg_sl (vs.map (cv ad))).length = (lg_sl vs).length
  | [] => rfl
  | v :: r => by
    have ih := sl_len ad r
    simp only [lg_sl, List.map_cons, List.flatMap_cons, List.length_append] at ih ⊢
    rw [cv_cat]
    rw [ih]
    congr 1
    split <;> rfl
/-- how a method ends -/
def Rt (tl : List (Nat × RowE)) (ret : Option FieldType) (post : Option Value → Hp → Prop) (V : VT) : Prop :=
  (∀ (pc n nx tg x wd : Nat) (k : Int32) (K : Int64) (lv : List (Option Value)) (h : Hp) (v : Int32), lkT tl pc = some (.ireturn, n, nx, tg, x, wd, k, K) → (ret = some .int ∨ ret = some .boolean ∧ (v = 0 ∨ v = 1)) → post (some (.int v)) h → V pc lv [.int v] h) ∧
  (∀ (pc n nx tg x wd : Nat) (k : Int32) (K : Int64) (lv : List (Option Value)) (h : Hp) (v : Int64), lkT tl pc = some (.lreturn, n, nx, tg, x, wd, k, K) → ret = some .long → post (some (.long v)) h → V pc lv [.long v] h) ∧
  (∀ (pc n nx tg x wd : Nat) (k : Int32) (K : Int64) (lv : List (Option Value)) (h : Hp), lkT tl pc = some (.return_, n, nx, tg, x, wd, k, K) → ret = none → post none h → V pc lv [] h)
/-- all calls that the room allows, of methods whose contracts stand -/
def Cl (l : Launch) (d : Nat) (D : va_G) (cl : List vw_C) (cA : Nat → ClassId) (sl : List Sh) (St : (Nat → Prop) → State → Heap → Prop) (ad : Nat → Nat) (own : String) (tl : List (Nat × RowE)) (V : VT) : Prop :=
  (∀ (pc n nx tg x wd o : Nat) (k : Int32) (K : Int64) (y : MethodName) (bytes : ByteArray) (maxL : Nat) (ret : Option FieldType) (d1 N b ci M : Nat) (fs : List Nat) (T : u_T) (As : List Value) (h : Hp) (post : Option Value → Hp → Prop) (lv : List (Option Value)) (st : List Value), lkT tl pc = some (.invokevirtual o, n, nx, tg, x, wd, k, K) → CwV own o y bytes maxL ret N → d1 < d → maxL ≤ 40 → sl[b]? = some (.inl (ci, fs)) → cl[ci]? = some (y.cls, T, M) → As.length = N →
    Ct l y bytes maxL ret (rmD d1) D cl cA sl St ad (.ref b :: As) h post → (st.map fun v => v.category).sum ≤ 8 → (∀ (r : Option Value) (h' : Hp), post r h' → V nx lv (r.toList ++ st) h') → V pc lv (As.reverse ++ .ref b :: st) h) ∧
  (∀ (pc n nx tg x wd o : Nat) (k : Int32) (K : Int64) (y : MethodName) (bytes : ByteArray) (maxL : Nat) (ret : Option FieldType) (d1 N : Nat) (As : List Value) (h : Hp) (post : Option Value → Hp → Prop) (lv : List (Option Value)) (st : List Value), lkT tl pc = some (.invokestatic o, n, nx, tg, x, wd, k, K) → CwS own o y bytes maxL ret N → d1 < d → maxL ≤ 40 → As.length = N →
    Ct l y bytes maxL ret (rmD d1) D cl cA sl St ad As h post → (st.map fun v => v.category).sum ≤ 8 → (∀ (r : Option Value) (h' : Hp), post r h' → V nx lv (r.toList ++ st) h') → V pc lv (As.reverse ++ st) h)
set_option maxHeartbeats 1000000 in
/-- a contract out of the walk -/
theorem Ct.of {l : Launch} {y : MethodName} {bytes : ByteArray} {maxL : Nat} {ret : Option FieldType} {d : Nat} {D : va_G} {cl : List vw_C} {cA : Nat → ClassId} {sl : List Sh} {St : (Nat → Prop) → State → Heap → Prop} {ad : Nat → Nat} {avs : List Value} {h : Hp} {post : Option Value → Hp → Prop} {tl : List (Nat × RowE)}
    (hy : plainName y.cls = true) (htl : tl.all (rowOk bytes y.cls wg maxL cl) = true) (hcl : ClsOk cl wg) (hSt : StOk St) (hlen : (lg_sl avs).length ≤ maxL)
    (body : ∀ V : VT, Gd sl tl V → Rt tl ret post V → Cl l d D cl cA sl St ad y.cls tl V → V 0 (ent avs maxL) [] h) : Ct l y bytes maxL ret (rmD d) D cl cA sl St ad avs h post := by
  intro sz
  refine Met.ofW (cc := bytes) (maxL := maxL) (ret := ret) hy rfl ?_
  intro p e s m args below meth c s₁ B hml hv
  obtain ⟨rfl, hsz, hP, hK, hD0, hst⟩ := hv
  have hx := B.exec
  have hb := B.bytes
  have hr := B.returns
  have hts0 := atoms_spec (ws := Cond.code y bytes maxL ret :: wg) B.pre
  have hts : ∀ w ∈ wg, w.before (avs.map (cv ad)).toArray s = true := fun w hw => hts0 w (List.mem_cons_of_mem _ hw)
  have hown : s.vm.findClass y.cls = some m.cls := findClass_of_methodNamed B.named
  have hlocks := B.notSynchronized
  subst hsz
  have hD := hD0.self (sz := s.heap.size)
  have hA : ∀ q : Nat, s.heap.size ≤ q → va_A (Wd sl cA ad h) s.heap.size q := fun q hq => Or.inr hq
  have C0 : Cx p s m (avs.map (cv ad)).toArray c bytes y.cls wg maxL tl D cl cA := ⟨hx, hb, hown, hts, htl, hK, hcl⟩
  have hl0 := lv_entry (avs.map (cv ad)) (n := maxL) (by rw [sl_len]; exact hlen)
  rw [lg_entry_eq]
  refine body (Vt p l e (headSpec (Cond.code y bytes maxL ret :: wg) (rmD d)).room s m (avs.map (cv ad)).toArray below meth c maxL ad D cl sl cA (va_A (Wd sl cA ad h) s.heap.size) 0 0 (MQ below (Qx D cl cA sl ad (va_A (Wd sl cA ad h) s.heap.size) post) (avs.map (cv ad)).toArray s 0 0 (va_A (Wd sl cA ad h) s.heap.size))) (Vt_Gd C0) ⟨?_, ?_, ?_⟩ ⟨?_, ?_⟩ _ s.heap [] ⟨⟨hl0.1, hl0.2.1, fun q hq => by cases hq⟩, fun i v hi => ?_⟩ hP hD va_S.rf
  · intro pc n nx tg x wd k K lv h2 v h1 hret hp ls H locs hl hP hD hS
    obtain ⟨hd, hc, -⟩ := rowOk_s htl h1
    simp only [ckE, Bool.and_eq_true, beq_iff_eq] at hc
    obtain ⟨-, rfl⟩ := hc
    rcases hret with rfl | ⟨rfl, hv⟩
    · exact W.iret hx hb hr (fun t ht _ => ⟨⟨some (.int v), h2, rfl, hp, by rw [ht]; exact hP, hD⟩, hS.F ht⟩) hS.2.2 hd
    · exact W.zret hx hb hr (nar_b hv).1 (fun t ht _ => ⟨⟨some (.int v), h2, rfl, hp, by rw [ht]; exact hP, hD⟩, hS.F ht⟩) hS.2.2 hd
  · intro pc n nx tg x wd k K lv h2 v h1 hret hp ls H locs hl hP hD hS
    obtain ⟨hd, hc, -⟩ := rowOk_s htl h1
    simp only [ckE, Bool.and_eq_true, beq_iff_eq] at hc
    obtain ⟨-, rfl⟩ := hc
    subst hret
    exact W.lret hx hb hr (fun t ht _ => ⟨⟨some (.long v), h2, rfl, hp, by rw [ht]; exact hP, hD⟩, hS.F ht⟩) hS.2.2 hd
  · intro pc n nx tg x wd k K lv h2 h1 hret hp ls H locs hl hP hD hS
    obtain ⟨hd, hc, -⟩ := rowOk_s htl h1
    simp only [ckE, Bool.and_eq_true, beq_iff_eq] at hc
    obtain ⟨-, rfl⟩ := hc
    subst hret
    exact W.vret hx hb hr (fun t ht _ => ⟨⟨none, h2, rfl, hp, by rw [ht]; exact hP, hD⟩, hS.F ht⟩) hS.2.2 hd
  · intro pc n nx tg x wd o k K y2 bytes2 maxL2 ret2 d1 N b ci M fs T As h2 post2 lv st h1 cw hd1 hm hb1 hb2 hN hM hs8 kk
    exact Vt_callV C0 hml hA hSt hst ⟨Nat.zero_le _, Nat.zero_le _⟩ h1 cw ⟨rfl, rfl, (by show d1 + 1 ≤ d; omega), (by show 8 + (maxL2 + 11) + 60 * d1 ≤ 60 * d; omega)⟩ hb1 hb2 hN hM hs8 kk
  · intro pc n nx tg x wd o k K y2 bytes2 maxL2 ret2 d1 N As h2 post2 lv st h1 cw hd1 hm hN hM hs8 kk
    exact Vt_callS C0 hml hA hSt hst ⟨Nat.zero_le _, Nat.zero_le _⟩ h1 cw ⟨rfl, rfl, (by show d1 + 1 ≤ d; omega), (by show 8 + (maxL2 + 11) + 60 * d1 ≤ 60 * d; omega)⟩ hN hM hs8 kk
  · have h1 := ent_args ad avs maxL 0 i v hi
    rw [Nat.zero_add] at h1
    exact hl0.2.2 _ h1
end CT
end
