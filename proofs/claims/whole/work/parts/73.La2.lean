/-! NAMES: the law's tables (printed by wip/gen/mk72.py) -/
def T_La_9_0 : List (Nat × RowE) := [(1083, .aload_n 1, 1, 1084, 0, 1, 0, 0, 0),
  (1084, .aload_n 0, 1, 1085, 0, 0, 0, 0, 0),
  (1085, .iload 4, 2, 1087, 0, 4, 0, 0, 0),
  (1087, .iconst 1, 1, 1088, 0, 0, 0, 1, 0),
  (1088, .iadd, 1, 1089, 0, 0, 0, 0, 0),
  (1089, .iaload, 1, 1090, 0, 0, 0, 0, 0),
  (1090, .aload_n 3, 1, 1091, 0, 3, 0, 0, 0),
  (1091, .invokestatic 123, 3, 1094, 0, 0, 0, 0, 0),
  (1094, .istore 5, 2, 1096, 0, 5, 0, 0, 0),
  (1096, .aload_n 2, 1, 1097, 0, 2, 0, 0, 0),
  (1097, .aload_n 0, 1, 1098, 0, 0, 0, 0, 0),
  (1098, .iload 4, 2, 1100, 0, 4, 0, 0, 0),
  (1100, .iconst 1, 1, 1101, 0, 0, 0, 1, 0),
  (1101, .iadd, 1, 1102, 0, 0, 0, 0, 0),
  (1102, .iaload, 1, 1103, 0, 0, 0, 0, 0),
  (1103, .invokevirtual 125, 3, 1106, 0, 0, 0, 0, 0),
  (1106, .istore 6, 2, 1108, 0, 6, 0, 0, 0),
  (1108, .aload_n 2, 1, 1109, 0, 2, 0, 0, 0),
  (1109, .invokevirtual 87, 3, 1112, 0, 0, 0, 0, 0),
  (1112, .iload 5, 2, 1114, 0, 5, 0, 0, 0),
  (1114, .if_icmp .eq 5, 3, 1117, 1119, 0, 0, 0, 0),
  (1117, .iconst 0, 1, 1118, 0, 0, 0, 0, 0),
  (1118, .ireturn, 1, 1119, 0, 0, 0, 0, 0),
  (1119, .iload 5, 2, 1121, 0, 5, 0, 0, 0),
  (1121, .ifCond .ne 15, 3, 1124, 1136, 0, 0, 0, 0),
  (1124, .aload_n 3, 1, 1125, 0, 3, 0, 0, 0),
  (1125, .iconst 0, 1, 1126, 0, 0, 0, 0, 0),
  (1126, .laload, 1, 1127, 0, 0, 0, 0, 0),
  (1127, .iload 6, 2, 1129, 0, 6, 0, 0, 0),
  (1129, .i2l, 1, 1130, 0, 0, 0, 0, 0)]
set_option maxRecDepth 20000 in
theorem tk_La_9_0 : T_La_9_0.all (rowOk code "TogetherOrdersLaw" wg 7 cls) = true := by decide +kernel
def T_La_9_1 : List (Nat × RowE) := [(1130, .lcmp, 1, 1131, 0, 0, 0, 0, 0),
  (1131, .ifCond .eq 5, 3, 1134, 1136, 0, 0, 0, 0),
  (1134, .iconst 0, 1, 1135, 0, 0, 0, 0, 0),
  (1135, .ireturn, 1, 1136, 0, 0, 0, 0, 0),
  (1136, .goto 533, 3, 1139, 1669, 0, 0, 0, 0)]
set_option maxRecDepth 20000 in
theorem tk_La_9_1 : T_La_9_1.all (rowOk code "TogetherOrdersLaw" wg 7 cls) = true := by decide +kernel
def T_La_9 : List (Nat × RowE) := T_La_9_0 ++ T_La_9_1
theorem tk_La_9 : T_La_9.all (rowOk code "TogetherOrdersLaw" wg 7 cls) = true := by
  unfold T_La_9
  simp only [List.all_append, tk_La_9_0, tk_La_9_1, Bool.and_self]
def T_La_10_0 : List (Nat × RowE) := [(1139, .aload_n 1, 1, 1140, 0, 1, 0, 0, 0),
  (1140, .aload_n 0, 1, 1141, 0, 0, 0, 0, 0),
  (1141, .iload 4, 2, 1143, 0, 4, 0, 0, 0),
  (1143, .iconst 1, 1, 1144, 0, 0, 0, 1, 0),
  (1144, .iadd, 1, 1145, 0, 0, 0, 0, 0),
  (1145, .iaload, 1, 1146, 0, 0, 0, 0, 0),
  (1146, .aload_n 3, 1, 1147, 0, 3, 0, 0, 0),
  (1147, .invokestatic 126, 3, 1150, 0, 0, 0, 0, 0),
  (1150, .istore 5, 2, 1152, 0, 5, 0, 0, 0),
  (1152, .aload_n 2, 1, 1153, 0, 2, 0, 0, 0),
  (1153, .aload_n 0, 1, 1154, 0, 0, 0, 0, 0),
  (1154, .iload 4, 2, 1156, 0, 4, 0, 0, 0),
  (1156, .iconst 1, 1, 1157, 0, 0, 0, 1, 0),
  (1157, .iadd, 1, 1158, 0, 0, 0, 0, 0),
  (1158, .iaload, 1, 1159, 0, 0, 0, 0, 0),
  (1159, .invokevirtual 128, 3, 1162, 0, 0, 0, 0, 0),
  (1162, .istore 6, 2, 1164, 0, 6, 0, 0, 0),
  (1164, .aload_n 2, 1, 1165, 0, 2, 0, 0, 0),
  (1165, .invokevirtual 87, 3, 1168, 0, 0, 0, 0, 0),
  (1168, .iload 5, 2, 1170, 0, 5, 0, 0, 0),
  (1170, .if_icmp .eq 5, 3, 1173, 1175, 0, 0, 0, 0),
  (1173, .iconst 0, 1, 1174, 0, 0, 0, 0, 0),
  (1174, .ireturn, 1, 1175, 0, 0, 0, 0, 0),
  (1175, .iload 5, 2, 1177, 0, 5, 0, 0, 0),
  (1177, .ifCond .ne 15, 3, 1180, 1192, 0, 0, 0, 0),
  (1180, .aload_n 3, 1, 1181, 0, 3, 0, 0, 0),
  (1181, .iconst 0, 1, 1182, 0, 0, 0, 0, 0),
  (1182, .laload, 1, 1183, 0, 0, 0, 0, 0),
  (1183, .iload 6, 2, 1185, 0, 6, 0, 0, 0),
  (1185, .i2l, 1, 1186, 0, 0, 0, 0, 0)]
set_option maxRecDepth 20000 in
theorem tk_La_10_0 : T_La_10_0.all (rowOk code "TogetherOrdersLaw" wg 7 cls) = true := by decide +kernel
def T_La_10_1 : List (Nat × RowE) := [(1186, .lcmp, 1, 1187, 0, 0, 0, 0, 0),
  (1187, .ifCond .eq 5, 3, 1190, 1192, 0, 0, 0, 0),
  (1190, .iconst 0, 1, 1191, 0, 0, 0, 0, 0),
  (1191, .ireturn, 1, 1192, 0, 0, 0, 0, 0),
  (1192, .goto 477, 3, 1195, 1669, 0, 0, 0, 0)]
set_option maxRecDepth 20000 in
theorem tk_La_10_1 : T_La_10_1.all (rowOk code "TogetherOrdersLaw" wg 7 cls) = true := by decide +kernel
def T_La_10 : List (Nat × RowE) := T_La_10_0 ++ T_La_10_1
theorem tk_La_10 : T_La_10.all (rowOk code "TogetherOrdersLaw" wg 7 cls) = true := by
  unfold T_La_10
  simp only [List.all_append, tk_La_10_0, tk_La_10_1, Bool.and_self]
def T_La_11_0 : List (Nat × RowE) := [(1195, .aload_n 1, 1, 1196, 0, 1, 0, 0, 0),
  (1196, .aload_n 3, 1, 1197, 0, 3, 0, 0, 0),
  (1197, .invokestatic 129, 3, 1200, 0, 0, 0, 0, 0),
  (1200, .istore 5, 2, 1202, 0, 5, 0, 0, 0),
  (1202, .aload_n 2, 1, 1203, 0, 2, 0, 0, 0),
  (1203, .invokevirtual 131, 3, 1206, 0, 0, 0, 0, 0),
  (1206, .istore 6, 2, 1208, 0, 6, 0, 0, 0),
  (1208, .aload_n 2, 1, 1209, 0, 2, 0, 0, 0),
  (1209, .invokevirtual 87, 3, 1212, 0, 0, 0, 0, 0),
  (1212, .iload 5, 2, 1214, 0, 5, 0, 0, 0),
  (1214, .if_icmp .eq 5, 3, 1217, 1219, 0, 0, 0, 0),
  (1217, .iconst 0, 1, 1218, 0, 0, 0, 0, 0),
  (1218, .ireturn, 1, 1219, 0, 0, 0, 0, 0),
  (1219, .iload 5, 2, 1221, 0, 5, 0, 0, 0),
  (1221, .ifCond .ne 15, 3, 1224, 1236, 0, 0, 0, 0),
  (1224, .aload_n 3, 1, 1225, 0, 3, 0, 0, 0),
  (1225, .iconst 0, 1, 1226, 0, 0, 0, 0, 0),
  (1226, .laload, 1, 1227, 0, 0, 0, 0, 0),
  (1227, .iload 6, 2, 1229, 0, 6, 0, 0, 0),
  (1229, .i2l, 1, 1230, 0, 0, 0, 0, 0),
  (1230, .lcmp, 1, 1231, 0, 0, 0, 0, 0),
  (1231, .ifCond .eq 5, 3, 1234, 1236, 0, 0, 0, 0),
  (1234, .iconst 0, 1, 1235, 0, 0, 0, 0, 0),
  (1235, .ireturn, 1, 1236, 0, 0, 0, 0, 0),
  (1236, .goto 433, 3, 1239, 1669, 0, 0, 0, 0)]
set_option maxRecDepth 20000 in
theorem tk_La_11_0 : T_La_11_0.all (rowOk code "TogetherOrdersLaw" wg 7 cls) = true := by decide +kernel
def T_La_11 : List (Nat × RowE) := T_La_11_0
theorem tk_La_11 : T_La_11.all (rowOk code "TogetherOrdersLaw" wg 7 cls) = true := by
  unfold T_La_11
  simp only [List.all_append, tk_La_11_0, Bool.and_self]
def T_La_12_0 : List (Nat × RowE) := [(1239, .aload_n 1, 1, 1240, 0, 1, 0, 0, 0),
  (1240, .aload_n 0, 1, 1241, 0, 0, 0, 0, 0),
  (1241, .iload 4, 2, 1243, 0, 4, 0, 0, 0),
  (1243, .iconst 1, 1, 1244, 0, 0, 0, 1, 0),
  (1244, .iadd, 1, 1245, 0, 0, 0, 0, 0),
  (1245, .iaload, 1, 1246, 0, 0, 0, 0, 0),
  (1246, .aload_n 3, 1, 1247, 0, 3, 0, 0, 0),
  (1247, .invokestatic 132, 3, 1250, 0, 0, 0, 0, 0),
  (1250, .istore 5, 2, 1252, 0, 5, 0, 0, 0),
  (1252, .aload_n 2, 1, 1253, 0, 2, 0, 0, 0),
  (1253, .aload_n 0, 1, 1254, 0, 0, 0, 0, 0),
  (1254, .iload 4, 2, 1256, 0, 4, 0, 0, 0),
  (1256, .iconst 1, 1, 1257, 0, 0, 0, 1, 0),
  (1257, .iadd, 1, 1258, 0, 0, 0, 0, 0),
  (1258, .iaload, 1, 1259, 0, 0, 0, 0, 0),
  (1259, .invokevirtual 134, 3, 1262, 0, 0, 0, 0, 0),
  (1262, .istore 6, 2, 1264, 0, 6, 0, 0, 0),
  (1264, .aload_n 2, 1, 1265, 0, 2, 0, 0, 0),
  (1265, .invokevirtual 87, 3, 1268, 0, 0, 0, 0, 0),
  (1268, .iload 5, 2, 1270, 0, 5, 0, 0, 0),
  (1270, .if_icmp .eq 5, 3, 1273, 1275, 0, 0, 0, 0),
  (1273, .iconst 0, 1, 1274, 0, 0, 0, 0, 0),
  (1274, .ireturn, 1, 1275, 0, 0, 0, 0, 0),
  (1275, .iload 5, 2, 1277, 0, 5, 0, 0, 0),
  (1277, .ifCond .ne 15, 3, 1280, 1292, 0, 0, 0, 0),
  (1280, .aload_n 3, 1, 1281, 0, 3, 0, 0, 0),
  (1281, .iconst 0, 1, 1282, 0, 0, 0, 0, 0),
  (1282, .laload, 1, 1283, 0, 0, 0, 0, 0),
  (1283, .iload 6, 2, 1285, 0, 6, 0, 0, 0),
  (1285, .i2l, 1, 1286, 0, 0, 0, 0, 0)]
set_option maxRecDepth 20000 in
theorem tk_La_12_0 : T_La_12_0.all (rowOk code "TogetherOrdersLaw" wg 7 cls) = true := by decide +kernel
def T_La_12_1 : List (Nat × RowE) := [(1286, .lcmp, 1, 1287, 0, 0, 0, 0, 0),
  (1287, .ifCond .eq 5, 3, 1290, 1292, 0, 0, 0, 0),
  (1290, .iconst 0, 1, 1291, 0, 0, 0, 0, 0),
  (1291, .ireturn, 1, 1292, 0, 0, 0, 0, 0),
  (1292, .goto 377, 3, 1295, 1669, 0, 0, 0, 0)]
set_option maxRecDepth 20000 in
theorem tk_La_12_1 : T_La_12_1.all (rowOk code "TogetherOrdersLaw" wg 7 cls) = true := by decide +kernel
def T_La_12 : List (Nat × RowE) := T_La_12_0 ++ T_La_12_1
theorem tk_La_12 : T_La_12.all (rowOk code "TogetherOrdersLaw" wg 7 cls) = true := by
  unfold T_La_12
  simp only [List.all_append, tk_La_12_0, tk_La_12_1, Bool.and_self]
def T_La_13_0 : List (Nat × RowE) := [(1295, .aload_n 1, 1, 1296, 0, 1, 0, 0, 0),
  (1296, .aload_n 0, 1, 1297, 0, 0, 0, 0, 0),
  (1297, .iload 4, 2, 1299, 0, 4, 0, 0, 0),
  (1299, .iconst 1, 1, 1300, 0, 0, 0, 1, 0),
  (1300, .iadd, 1, 1301, 0, 0, 0, 0, 0),
  (1301, .iaload, 1, 1302, 0, 0, 0, 0, 0),
  (1302, .aload_n 0, 1, 1303, 0, 0, 0, 0, 0),
  (1303, .iload 4, 2, 1305, 0, 4, 0, 0, 0),
  (1305, .iconst 2, 1, 1306, 0, 0, 0, 2, 0),
  (1306, .iadd, 1, 1307, 0, 0, 0, 0, 0),
  (1307, .iaload, 1, 1308, 0, 0, 0, 0, 0),
  (1308, .aload_n 3, 1, 1309, 0, 3, 0, 0, 0),
  (1309, .invokestatic 135, 3, 1312, 0, 0, 0, 0, 0),
  (1312, .istore 5, 2, 1314, 0, 5, 0, 0, 0),
  (1314, .aload_n 2, 1, 1315, 0, 2, 0, 0, 0),
  (1315, .aload_n 0, 1, 1316, 0, 0, 0, 0, 0),
  (1316, .iload 4, 2, 1318, 0, 4, 0, 0, 0),
  (1318, .iconst 1, 1, 1319, 0, 0, 0, 1, 0),
  (1319, .iadd, 1, 1320, 0, 0, 0, 0, 0),
  (1320, .iaload, 1, 1321, 0, 0, 0, 0, 0),
  (1321, .aload_n 0, 1, 1322, 0, 0, 0, 0, 0),
  (1322, .iload 4, 2, 1324, 0, 4, 0, 0, 0),
  (1324, .iconst 2, 1, 1325, 0, 0, 0, 2, 0),
  (1325, .iadd, 1, 1326, 0, 0, 0, 0, 0),
  (1326, .iaload, 1, 1327, 0, 0, 0, 0, 0),
  (1327, .invokevirtual 137, 3, 1330, 0, 0, 0, 0, 0),
  (1330, .istore 6, 2, 1332, 0, 6, 0, 0, 0),
  (1332, .aload_n 2, 1, 1333, 0, 2, 0, 0, 0),
  (1333, .invokevirtual 87, 3, 1336, 0, 0, 0, 0, 0),
  (1336, .iload 5, 2, 1338, 0, 5, 0, 0, 0)]
set_option maxRecDepth 20000 in
theorem tk_La_13_0 : T_La_13_0.all (rowOk code "TogetherOrdersLaw" wg 7 cls) = true := by decide +kernel
def T_La_13_1 : List (Nat × RowE) := [(1338, .if_icmp .eq 5, 3, 1341, 1343, 0, 0, 0, 0),
  (1341, .iconst 0, 1, 1342, 0, 0, 0, 0, 0),
  (1342, .ireturn, 1, 1343, 0, 0, 0, 0, 0),
  (1343, .iload 5, 2, 1345, 0, 5, 0, 0, 0),
  (1345, .ifCond .ne 15, 3, 1348, 1360, 0, 0, 0, 0),
  (1348, .aload_n 3, 1, 1349, 0, 3, 0, 0, 0),
  (1349, .iconst 0, 1, 1350, 0, 0, 0, 0, 0),
  (1350, .laload, 1, 1351, 0, 0, 0, 0, 0),
  (1351, .iload 6, 2, 1353, 0, 6, 0, 0, 0),
  (1353, .i2l, 1, 1354, 0, 0, 0, 0, 0),
  (1354, .lcmp, 1, 1355, 0, 0, 0, 0, 0),
  (1355, .ifCond .eq 5, 3, 1358, 1360, 0, 0, 0, 0),
  (1358, .iconst 0, 1, 1359, 0, 0, 0, 0, 0),
  (1359, .ireturn, 1, 1360, 0, 0, 0, 0, 0),
  (1360, .goto 309, 3, 1363, 1669, 0, 0, 0, 0)]
set_option maxRecDepth 20000 in
theorem tk_La_13_1 : T_La_13_1.all (rowOk code "TogetherOrdersLaw" wg 7 cls) = true := by decide +kernel
def T_La_13 : List (Nat × RowE) := T_La_13_0 ++ T_La_13_1
theorem tk_La_13 : T_La_13.all (rowOk code "TogetherOrdersLaw" wg 7 cls) = true := by
  unfold T_La_13
  simp only [List.all_append, tk_La_13_0, tk_La_13_1, Bool.and_self]
