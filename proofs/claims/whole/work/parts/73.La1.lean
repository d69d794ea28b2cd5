/-! NAMES: the law's tables (printed by wip/gen/mk72.py) -/
def T_La_4_0 : List (Nat × RowE) := [(752, .aload_n 1, 1, 753, 0, 1, 0, 0, 0),
  (753, .aload_n 0, 1, 754, 0, 0, 0, 0, 0),
  (754, .iload 4, 2, 756, 0, 4, 0, 0, 0),
  (756, .iconst 1, 1, 757, 0, 0, 0, 1, 0),
  (757, .iadd, 1, 758, 0, 0, 0, 0, 0),
  (758, .iaload, 1, 759, 0, 0, 0, 0, 0),
  (759, .aload_n 0, 1, 760, 0, 0, 0, 0, 0),
  (760, .iload 4, 2, 762, 0, 4, 0, 0, 0),
  (762, .iconst 2, 1, 763, 0, 0, 0, 2, 0),
  (763, .iadd, 1, 764, 0, 0, 0, 0, 0),
  (764, .iaload, 1, 765, 0, 0, 0, 0, 0),
  (765, .aload_n 3, 1, 766, 0, 3, 0, 0, 0),
  (766, .invokestatic 104, 3, 769, 0, 0, 0, 0, 0),
  (769, .istore 5, 2, 771, 0, 5, 0, 0, 0),
  (771, .aload_n 2, 1, 772, 0, 2, 0, 0, 0),
  (772, .aload_n 0, 1, 773, 0, 0, 0, 0, 0),
  (773, .iload 4, 2, 775, 0, 4, 0, 0, 0),
  (775, .iconst 1, 1, 776, 0, 0, 0, 1, 0),
  (776, .iadd, 1, 777, 0, 0, 0, 0, 0),
  (777, .iaload, 1, 778, 0, 0, 0, 0, 0),
  (778, .aload_n 0, 1, 779, 0, 0, 0, 0, 0),
  (779, .iload 4, 2, 781, 0, 4, 0, 0, 0),
  (781, .iconst 2, 1, 782, 0, 0, 0, 2, 0),
  (782, .iadd, 1, 783, 0, 0, 0, 0, 0),
  (783, .iaload, 1, 784, 0, 0, 0, 0, 0),
  (784, .invokevirtual 107, 3, 787, 0, 0, 0, 0, 0),
  (787, .istore 6, 2, 789, 0, 6, 0, 0, 0),
  (789, .aload_n 2, 1, 790, 0, 2, 0, 0, 0),
  (790, .invokevirtual 87, 3, 793, 0, 0, 0, 0, 0),
  (793, .iload 5, 2, 795, 0, 5, 0, 0, 0)]
set_option maxRecDepth 20000 in
theorem tk_La_4_0 : T_La_4_0.all (rowOk code "TogetherOrdersLaw" wg 7 cls) = true := by decide +kernel
def T_La_4_1 : List (Nat × RowE) := [(795, .if_icmp .eq 5, 3, 798, 800, 0, 0, 0, 0),
  (798, .iconst 0, 1, 799, 0, 0, 0, 0, 0),
  (799, .ireturn, 1, 800, 0, 0, 0, 0, 0),
  (800, .iload 5, 2, 802, 0, 5, 0, 0, 0),
  (802, .ifCond .ne 22, 3, 805, 824, 0, 0, 0, 0),
  (805, .aload_n 3, 1, 806, 0, 3, 0, 0, 0),
  (806, .iconst 0, 1, 807, 0, 0, 0, 0, 0),
  (807, .laload, 1, 808, 0, 0, 0, 0, 0),
  (808, .iload 6, 2, 810, 0, 6, 0, 0, 0),
  (810, .ifCond .eq 7, 3, 813, 817, 0, 0, 0, 0),
  (813, .lconst 1, 1, 814, 0, 0, 0, 0, 1),
  (814, .goto 4, 3, 817, 818, 0, 0, 0, 0),
  (817, .lconst 0, 1, 818, 0, 0, 0, 0, 0),
  (818, .lcmp, 1, 819, 0, 0, 0, 0, 0),
  (819, .ifCond .eq 5, 3, 822, 824, 0, 0, 0, 0),
  (822, .iconst 0, 1, 823, 0, 0, 0, 0, 0),
  (823, .ireturn, 1, 824, 0, 0, 0, 0, 0),
  (824, .goto 845, 3, 827, 1669, 0, 0, 0, 0)]
set_option maxRecDepth 20000 in
theorem tk_La_4_1 : T_La_4_1.all (rowOk code "TogetherOrdersLaw" wg 7 cls) = true := by decide +kernel
def T_La_4 : List (Nat × RowE) := T_La_4_0 ++ T_La_4_1
theorem tk_La_4 : T_La_4.all (rowOk code "TogetherOrdersLaw" wg 7 cls) = true := by
  unfold T_La_4
  simp only [List.all_append, tk_La_4_0, tk_La_4_1, Bool.and_self]
def T_La_5_0 : List (Nat × RowE) := [(827, .aload_n 1, 1, 828, 0, 1, 0, 0, 0),
  (828, .aload_n 0, 1, 829, 0, 0, 0, 0, 0),
  (829, .iload 4, 2, 831, 0, 4, 0, 0, 0),
  (831, .iconst 1, 1, 832, 0, 0, 0, 1, 0),
  (832, .iadd, 1, 833, 0, 0, 0, 0, 0),
  (833, .iaload, 1, 834, 0, 0, 0, 0, 0),
  (834, .aload_n 0, 1, 835, 0, 0, 0, 0, 0),
  (835, .iload 4, 2, 837, 0, 4, 0, 0, 0),
  (837, .iconst 2, 1, 838, 0, 0, 0, 2, 0),
  (838, .iadd, 1, 839, 0, 0, 0, 0, 0),
  (839, .iaload, 1, 840, 0, 0, 0, 0, 0),
  (840, .aload_n 0, 1, 841, 0, 0, 0, 0, 0),
  (841, .iload 4, 2, 843, 0, 4, 0, 0, 0),
  (843, .iconst 3, 1, 844, 0, 0, 0, 3, 0),
  (844, .iadd, 1, 845, 0, 0, 0, 0, 0),
  (845, .iaload, 1, 846, 0, 0, 0, 0, 0),
  (846, .i2l, 1, 847, 0, 0, 0, 0, 0),
  (847, .bipush 32, 2, 849, 0, 0, 0, 32, 0),
  (849, .lshl, 1, 850, 0, 0, 0, 0, 0),
  (850, .aload_n 0, 1, 851, 0, 0, 0, 0, 0),
  (851, .iload 4, 2, 853, 0, 4, 0, 0, 0),
  (853, .iconst 4, 1, 854, 0, 0, 0, 4, 0),
  (854, .iadd, 1, 855, 0, 0, 0, 0, 0),
  (855, .iaload, 1, 856, 0, 0, 0, 0, 0),
  (856, .i2l, 1, 857, 0, 0, 0, 0, 0),
  (857, .ldc2_w 90, 3, 860, 0, 0, 976, 0, 4294967295),
  (860, .land, 1, 861, 0, 0, 0, 0, 0),
  (861, .lor, 1, 862, 0, 0, 0, 0, 0),
  (862, .aload_n 3, 1, 863, 0, 3, 0, 0, 0),
  (863, .invokestatic 108, 3, 866, 0, 0, 0, 0, 0)]
set_option maxRecDepth 20000 in
theorem tk_La_5_0 : T_La_5_0.all (rowOk code "TogetherOrdersLaw" wg 7 cls) = true := by decide +kernel
def T_La_5_1 : List (Nat × RowE) := [(866, .istore 5, 2, 868, 0, 5, 0, 0, 0),
  (868, .aload_n 2, 1, 869, 0, 2, 0, 0, 0),
  (869, .aload_n 0, 1, 870, 0, 0, 0, 0, 0),
  (870, .iload 4, 2, 872, 0, 4, 0, 0, 0),
  (872, .iconst 1, 1, 873, 0, 0, 0, 1, 0),
  (873, .iadd, 1, 874, 0, 0, 0, 0, 0),
  (874, .iaload, 1, 875, 0, 0, 0, 0, 0),
  (875, .aload_n 0, 1, 876, 0, 0, 0, 0, 0),
  (876, .iload 4, 2, 878, 0, 4, 0, 0, 0),
  (878, .iconst 2, 1, 879, 0, 0, 0, 2, 0),
  (879, .iadd, 1, 880, 0, 0, 0, 0, 0),
  (880, .iaload, 1, 881, 0, 0, 0, 0, 0),
  (881, .aload_n 0, 1, 882, 0, 0, 0, 0, 0),
  (882, .iload 4, 2, 884, 0, 4, 0, 0, 0),
  (884, .iconst 3, 1, 885, 0, 0, 0, 3, 0),
  (885, .iadd, 1, 886, 0, 0, 0, 0, 0),
  (886, .iaload, 1, 887, 0, 0, 0, 0, 0),
  (887, .i2l, 1, 888, 0, 0, 0, 0, 0),
  (888, .bipush 32, 2, 890, 0, 0, 0, 32, 0),
  (890, .lshl, 1, 891, 0, 0, 0, 0, 0),
  (891, .aload_n 0, 1, 892, 0, 0, 0, 0, 0),
  (892, .iload 4, 2, 894, 0, 4, 0, 0, 0),
  (894, .iconst 4, 1, 895, 0, 0, 0, 4, 0),
  (895, .iadd, 1, 896, 0, 0, 0, 0, 0),
  (896, .iaload, 1, 897, 0, 0, 0, 0, 0),
  (897, .i2l, 1, 898, 0, 0, 0, 0, 0),
  (898, .ldc2_w 90, 3, 901, 0, 0, 976, 0, 4294967295),
  (901, .land, 1, 902, 0, 0, 0, 0, 0),
  (902, .lor, 1, 903, 0, 0, 0, 0, 0),
  (903, .invokevirtual 111, 3, 906, 0, 0, 0, 0, 0)]
set_option maxRecDepth 20000 in
theorem tk_La_5_1 : T_La_5_1.all (rowOk code "TogetherOrdersLaw" wg 7 cls) = true := by decide +kernel
def T_La_5_2 : List (Nat × RowE) := [(906, .istore 6, 2, 908, 0, 6, 0, 0, 0),
  (908, .aload_n 2, 1, 909, 0, 2, 0, 0, 0),
  (909, .invokevirtual 87, 3, 912, 0, 0, 0, 0, 0),
  (912, .iload 5, 2, 914, 0, 5, 0, 0, 0),
  (914, .if_icmp .eq 5, 3, 917, 919, 0, 0, 0, 0),
  (917, .iconst 0, 1, 918, 0, 0, 0, 0, 0),
  (918, .ireturn, 1, 919, 0, 0, 0, 0, 0),
  (919, .iload 5, 2, 921, 0, 5, 0, 0, 0),
  (921, .ifCond .ne 22, 3, 924, 943, 0, 0, 0, 0),
  (924, .aload_n 3, 1, 925, 0, 3, 0, 0, 0),
  (925, .iconst 0, 1, 926, 0, 0, 0, 0, 0),
  (926, .laload, 1, 927, 0, 0, 0, 0, 0),
  (927, .iload 6, 2, 929, 0, 6, 0, 0, 0),
  (929, .ifCond .eq 7, 3, 932, 936, 0, 0, 0, 0),
  (932, .lconst 1, 1, 933, 0, 0, 0, 0, 1),
  (933, .goto 4, 3, 936, 937, 0, 0, 0, 0),
  (936, .lconst 0, 1, 937, 0, 0, 0, 0, 0),
  (937, .lcmp, 1, 938, 0, 0, 0, 0, 0),
  (938, .ifCond .eq 5, 3, 941, 943, 0, 0, 0, 0),
  (941, .iconst 0, 1, 942, 0, 0, 0, 0, 0),
  (942, .ireturn, 1, 943, 0, 0, 0, 0, 0),
  (943, .goto 726, 3, 946, 1669, 0, 0, 0, 0)]
set_option maxRecDepth 20000 in
theorem tk_La_5_2 : T_La_5_2.all (rowOk code "TogetherOrdersLaw" wg 7 cls) = true := by decide +kernel
def T_La_5 : List (Nat × RowE) := T_La_5_0 ++ T_La_5_1 ++ T_La_5_2
theorem tk_La_5 : T_La_5.all (rowOk code "TogetherOrdersLaw" wg 7 cls) = true := by
  unfold T_La_5
  simp only [List.all_append, tk_La_5_0, tk_La_5_1, tk_La_5_2, Bool.and_self]
def T_La_6_0 : List (Nat × RowE) := [(946, .aload_n 1, 1, 947, 0, 1, 0, 0, 0),
  (947, .invokevirtual 112, 3, 950, 0, 0, 0, 0, 0),
  (950, .aload_n 2, 1, 951, 0, 2, 0, 0, 0),
  (951, .invokevirtual 115, 3, 954, 0, 0, 0, 0, 0),
  (954, .if_icmp .eq 715, 3, 957, 1669, 0, 0, 0, 0),
  (957, .iconst 0, 1, 958, 0, 0, 0, 0, 0),
  (958, .ireturn, 1, 959, 0, 0, 0, 0, 0)]
set_option maxRecDepth 20000 in
theorem tk_La_6_0 : T_La_6_0.all (rowOk code "TogetherOrdersLaw" wg 7 cls) = true := by decide +kernel
def T_La_6 : List (Nat × RowE) := T_La_6_0
theorem tk_La_6 : T_La_6.all (rowOk code "TogetherOrdersLaw" wg 7 cls) = true := by
  unfold T_La_6
  simp only [List.all_append, tk_La_6_0, Bool.and_self]
def T_La_7_0 : List (Nat × RowE) := [(959, .aload_n 1, 1, 960, 0, 1, 0, 0, 0),
  (960, .aload_n 0, 1, 961, 0, 0, 0, 0, 0),
  (961, .iload 4, 2, 963, 0, 4, 0, 0, 0),
  (963, .iconst 1, 1, 964, 0, 0, 0, 1, 0),
  (964, .iadd, 1, 965, 0, 0, 0, 0, 0),
  (965, .iaload, 1, 966, 0, 0, 0, 0, 0),
  (966, .aload_n 0, 1, 967, 0, 0, 0, 0, 0),
  (967, .iload 4, 2, 969, 0, 4, 0, 0, 0),
  (969, .iconst 2, 1, 970, 0, 0, 0, 2, 0),
  (970, .iadd, 1, 971, 0, 0, 0, 0, 0),
  (971, .iaload, 1, 972, 0, 0, 0, 0, 0),
  (972, .aload_n 3, 1, 973, 0, 3, 0, 0, 0),
  (973, .invokestatic 116, 3, 976, 0, 0, 0, 0, 0),
  (976, .istore 5, 2, 978, 0, 5, 0, 0, 0),
  (978, .aload_n 2, 1, 979, 0, 2, 0, 0, 0),
  (979, .aload_n 0, 1, 980, 0, 0, 0, 0, 0),
  (980, .iload 4, 2, 982, 0, 4, 0, 0, 0),
  (982, .iconst 1, 1, 983, 0, 0, 0, 1, 0),
  (983, .iadd, 1, 984, 0, 0, 0, 0, 0),
  (984, .iaload, 1, 985, 0, 0, 0, 0, 0),
  (985, .aload_n 0, 1, 986, 0, 0, 0, 0, 0),
  (986, .iload 4, 2, 988, 0, 4, 0, 0, 0),
  (988, .iconst 2, 1, 989, 0, 0, 0, 2, 0),
  (989, .iadd, 1, 990, 0, 0, 0, 0, 0),
  (990, .iaload, 1, 991, 0, 0, 0, 0, 0),
  (991, .invokevirtual 118, 3, 994, 0, 0, 0, 0, 0),
  (994, .istore 6, 2, 996, 0, 6, 0, 0, 0),
  (996, .aload_n 2, 1, 997, 0, 2, 0, 0, 0),
  (997, .invokevirtual 87, 3, 1000, 0, 0, 0, 0, 0),
  (1000, .iload 5, 2, 1002, 0, 5, 0, 0, 0)]
set_option maxRecDepth 20000 in
theorem tk_La_7_0 : T_La_7_0.all (rowOk code "TogetherOrdersLaw" wg 7 cls) = true := by decide +kernel
def T_La_7_1 : List (Nat × RowE) := [(1002, .if_icmp .eq 5, 3, 1005, 1007, 0, 0, 0, 0),
  (1005, .iconst 0, 1, 1006, 0, 0, 0, 0, 0),
  (1006, .ireturn, 1, 1007, 0, 0, 0, 0, 0),
  (1007, .iload 5, 2, 1009, 0, 5, 0, 0, 0),
  (1009, .ifCond .ne 15, 3, 1012, 1024, 0, 0, 0, 0),
  (1012, .aload_n 3, 1, 1013, 0, 3, 0, 0, 0),
  (1013, .iconst 0, 1, 1014, 0, 0, 0, 0, 0),
  (1014, .laload, 1, 1015, 0, 0, 0, 0, 0),
  (1015, .iload 6, 2, 1017, 0, 6, 0, 0, 0),
  (1017, .i2l, 1, 1018, 0, 0, 0, 0, 0),
  (1018, .lcmp, 1, 1019, 0, 0, 0, 0, 0),
  (1019, .ifCond .eq 5, 3, 1022, 1024, 0, 0, 0, 0),
  (1022, .iconst 0, 1, 1023, 0, 0, 0, 0, 0),
  (1023, .ireturn, 1, 1024, 0, 0, 0, 0, 0),
  (1024, .goto 645, 3, 1027, 1669, 0, 0, 0, 0)]
set_option maxRecDepth 20000 in
theorem tk_La_7_1 : T_La_7_1.all (rowOk code "TogetherOrdersLaw" wg 7 cls) = true := by decide +kernel
def T_La_7 : List (Nat × RowE) := T_La_7_0 ++ T_La_7_1
theorem tk_La_7 : T_La_7.all (rowOk code "TogetherOrdersLaw" wg 7 cls) = true := by
  unfold T_La_7
  simp only [List.all_append, tk_La_7_0, tk_La_7_1, Bool.and_self]
def T_La_8_0 : List (Nat × RowE) := [(1027, .aload_n 1, 1, 1028, 0, 1, 0, 0, 0),
  (1028, .aload_n 0, 1, 1029, 0, 0, 0, 0, 0),
  (1029, .iload 4, 2, 1031, 0, 4, 0, 0, 0),
  (1031, .iconst 1, 1, 1032, 0, 0, 0, 1, 0),
  (1032, .iadd, 1, 1033, 0, 0, 0, 0, 0),
  (1033, .iaload, 1, 1034, 0, 0, 0, 0, 0),
  (1034, .aload_n 3, 1, 1035, 0, 3, 0, 0, 0),
  (1035, .invokestatic 119, 3, 1038, 0, 0, 0, 0, 0),
  (1038, .istore 5, 2, 1040, 0, 5, 0, 0, 0),
  (1040, .aload_n 2, 1, 1041, 0, 2, 0, 0, 0),
  (1041, .aload_n 0, 1, 1042, 0, 0, 0, 0, 0),
  (1042, .iload 4, 2, 1044, 0, 4, 0, 0, 0),
  (1044, .iconst 1, 1, 1045, 0, 0, 0, 1, 0),
  (1045, .iadd, 1, 1046, 0, 0, 0, 0, 0),
  (1046, .iaload, 1, 1047, 0, 0, 0, 0, 0),
  (1047, .invokevirtual 122, 3, 1050, 0, 0, 0, 0, 0),
  (1050, .istore 6, 2, 1052, 0, 6, 0, 0, 0),
  (1052, .aload_n 2, 1, 1053, 0, 2, 0, 0, 0),
  (1053, .invokevirtual 87, 3, 1056, 0, 0, 0, 0, 0),
  (1056, .iload 5, 2, 1058, 0, 5, 0, 0, 0),
  (1058, .if_icmp .eq 5, 3, 1061, 1063, 0, 0, 0, 0),
  (1061, .iconst 0, 1, 1062, 0, 0, 0, 0, 0),
  (1062, .ireturn, 1, 1063, 0, 0, 0, 0, 0),
  (1063, .iload 5, 2, 1065, 0, 5, 0, 0, 0),
  (1065, .ifCond .ne 15, 3, 1068, 1080, 0, 0, 0, 0),
  (1068, .aload_n 3, 1, 1069, 0, 3, 0, 0, 0),
  (1069, .iconst 0, 1, 1070, 0, 0, 0, 0, 0),
  (1070, .laload, 1, 1071, 0, 0, 0, 0, 0),
  (1071, .iload 6, 2, 1073, 0, 6, 0, 0, 0),
  (1073, .i2l, 1, 1074, 0, 0, 0, 0, 0)]
set_option maxRecDepth 20000 in
theorem tk_La_8_0 : T_La_8_0.all (rowOk code "TogetherOrdersLaw" wg 7 cls) = true := by decide +kernel
def T_La_8_1 : List (Nat × RowE) := [(1074, .lcmp, 1, 1075, 0, 0, 0, 0, 0),
  (1075, .ifCond .eq 5, 3, 1078, 1080, 0, 0, 0, 0),
  (1078, .iconst 0, 1, 1079, 0, 0, 0, 0, 0),
  (1079, .ireturn, 1, 1080, 0, 0, 0, 0, 0),
  (1080, .goto 589, 3, 1083, 1669, 0, 0, 0, 0)]
set_option maxRecDepth 20000 in
theorem tk_La_8_1 : T_La_8_1.all (rowOk code "TogetherOrdersLaw" wg 7 cls) = true := by decide +kernel
def T_La_8 : List (Nat × RowE) := T_La_8_0 ++ T_La_8_1
theorem tk_La_8 : T_La_8.all (rowOk code "TogetherOrdersLaw" wg 7 cls) = true := by
  unfold T_La_8
  simp only [List.all_append, tk_La_8_0, tk_La_8_1, Bool.and_self]
