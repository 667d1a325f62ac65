/-! the law: further calls (printed by wip/whole/law.py) -/
theorem law_last {L j : Nat} {xs : Nat → Int32} {i : Int32} {I : st_I} {M : st_L} {W : Nat → Int64} (hi : i = nI j) (hj : j + 8 ≤ L) (hL : L ≤ 4096) (H : Inv W I M) (k : ∀ I2 M2, Inv W I2 M2 → LT L xs i 2065 [] I2 M2) : LT L xs i 1046 [] I M := by
  refine LT_x d_law_1046 ?_
  refine LT_arg 1 hi (by omega) hL d_law_1047 d_law_1048 d_law_1049 d_law_1050 d_law_1051 ?_
  refine LT_arg 2 hi (by omega) hL d_law_1052 d_law_1053 d_law_1054 d_law_1055 d_law_1056 ?_
  refine LT_arg 3 hi (by omega) hL d_law_1057 d_law_1058 d_law_1059 d_law_1060 d_law_1061 ?_
  refine LT_bool d_law_1062 d_law_1065 d_law_1066 d_law_1069 ?_
  refine LT_arg 4 hi (by omega) hL d_law_1070 d_law_1071 d_law_1072 d_law_1073 d_law_1074 ?_
  refine LT_call (M' := mX11_last) [.int (xs (j + 1)), .int (xs (j + 2)), .int ((if xs (j + 3) = 0 then (0 : Int32) else 1)), .int (xs (j + 4))] [] d_law_1075 ml_law_92 mkX11_last rfl shp_0 rfl rfl rfl (Nat.zero_le _) (Ev.mono (h_last H (xs (j + 1)) (xs (j + 2)) ((if xs (j + 3) = 0 then (0 : Int32) else 1)) (xs (j + 4))) ?_)
  rintro v sh I1 M1 ⟨r, rfl, rfl, hr⟩
  refine ⟨rfl, trivial, ?_⟩
  refine LT_m d_law_1078 ?_
  refine LT_arg 1 hi (by omega) hL d_law_1079 d_law_1080 d_law_1081 d_law_1082 d_law_1083 ?_
  refine LT_arg 2 hi (by omega) hL d_law_1084 d_law_1085 d_law_1086 d_law_1087 d_law_1088 ?_
  refine LT_arg 3 hi (by omega) hL d_law_1089 d_law_1090 d_law_1091 d_law_1092 d_law_1093 ?_
  refine LT_bool d_law_1094 d_law_1097 d_law_1098 d_law_1101 ?_
  refine LT_arg 4 hi (by omega) hL d_law_1102 d_law_1103 d_law_1104 d_law_1105 d_law_1106 ?_
  refine LT_call (M' := mX12_last) [.int (xs (j + 1)), .int (xs (j + 2)), .int ((if xs (j + 3) = 0 then (0 : Int32) else 1)), .int (xs (j + 4))] [.int r] d_law_1107 ml_law_96 mkX12_last rfl shp_58 rfl rfl rfl (Nat.le_of_ble_eq_true rfl) (Ev.mono hr ?_)
  rintro v sh I2 M2 ⟨r2, rfl, rfl, rfl, hI⟩
  refine ⟨rfl, trivial, ?_⟩
  exact LT_same (tgt := 2065) d_law_1110 (by decide) (k I2 M2 hI)
theorem law_mean {L j : Nat} {xs : Nat → Int32} {i : Int32} {I : st_I} {M : st_L} {W : Nat → Int64} (hi : i = nI j) (hj : j + 8 ≤ L) (hL : L ≤ 4096) (H : Inv W I M) (k : ∀ I2 M2, Inv W I2 M2 → LT L xs i 2065 [] I2 M2) : LT L xs i 1115 [] I M := by
  refine LT_x d_law_1115 ?_
  refine LT_arg 1 hi (by omega) hL d_law_1116 d_law_1117 d_law_1118 d_law_1119 d_law_1120 ?_
  refine LT_arg 2 hi (by omega) hL d_law_1121 d_law_1122 d_law_1123 d_law_1124 d_law_1125 ?_
  refine LT_bool d_law_1126 d_law_1129 d_law_1130 d_law_1133 ?_
  refine LT_arg 3 hi (by omega) hL d_law_1134 d_law_1135 d_law_1136 d_law_1137 d_law_1138 ?_
  refine LT_arg 4 hi (by omega) hL d_law_1139 d_law_1140 d_law_1141 d_law_1142 d_law_1143 ?_
  refine LT_call (M' := mX11_mean) [.int (xs (j + 1)), .int ((if xs (j + 2) = 0 then (0 : Int32) else 1)), .int (xs (j + 3)), .int (xs (j + 4))] [] d_law_1144 ml_law_97 mkX11_mean rfl shp_0 rfl rfl rfl (Nat.zero_le _) (Ev.mono (h_mean H (xs (j + 1)) ((if xs (j + 2) = 0 then (0 : Int32) else 1)) (xs (j + 3)) (xs (j + 4)) (bo_i _)) ?_)
  rintro v sh I1 M1 ⟨r, rfl, rfl, hr⟩
  refine ⟨rfl, trivial, ?_⟩
  refine LT_m d_law_1147 ?_
  refine LT_arg 1 hi (by omega) hL d_law_1148 d_law_1149 d_law_1150 d_law_1151 d_law_1152 ?_
  refine LT_arg 2 hi (by omega) hL d_law_1153 d_law_1154 d_law_1155 d_law_1156 d_law_1157 ?_
  refine LT_bool d_law_1158 d_law_1161 d_law_1162 d_law_1165 ?_
  refine LT_arg 3 hi (by omega) hL d_law_1166 d_law_1167 d_law_1168 d_law_1169 d_law_1170 ?_
  refine LT_arg 4 hi (by omega) hL d_law_1171 d_law_1172 d_law_1173 d_law_1174 d_law_1175 ?_
  refine LT_call (M' := mX12_mean) [.int (xs (j + 1)), .int ((if xs (j + 2) = 0 then (0 : Int32) else 1)), .int (xs (j + 3)), .int (xs (j + 4))] [.int r] d_law_1176 ml_law_101 mkX12_mean rfl shp_58 rfl rfl rfl (Nat.le_of_ble_eq_true rfl) (Ev.mono hr ?_)
  rintro v sh I2 M2 ⟨r2, rfl, rfl, rfl, hI⟩
  refine ⟨rfl, trivial, ?_⟩
  exact LT_same (tgt := 2065) d_law_1179 (by decide) (k I2 M2 hI)
theorem law_guesses {L j : Nat} {xs : Nat → Int32} {i : Int32} {I : st_I} {M : st_L} {W : Nat → Int64} (hi : i = nI j) (hj : j + 8 ≤ L) (hL : L ≤ 4096) (H : Inv W I M) (k : ∀ I2 M2, Inv W I2 M2 → LT L xs i 2065 [] I2 M2) : LT L xs i 1184 [] I M := by
  refine LT_x d_law_1184 ?_
  refine LT_arg 1 hi (by omega) hL d_law_1185 d_law_1186 d_law_1187 d_law_1188 d_law_1189 ?_
  refine LT_arg 2 hi (by omega) hL d_law_1190 d_law_1191 d_law_1192 d_law_1193 d_law_1194 ?_
  refine LT_call (M' := mX11_guesses) [.int (xs (j + 1)), .int (xs (j + 2))] [] d_law_1195 ml_law_102 mkX11_guesses rfl shp_0 rfl rfl rfl (Nat.zero_le _) (Ev.mono (h_guesses H (xs (j + 1)) (xs (j + 2))) ?_)
  rintro v sh I1 M1 ⟨r, rfl, rfl, hr⟩
  refine ⟨rfl, trivial, ?_⟩
  refine LT_m d_law_1198 ?_
  refine LT_arg 1 hi (by omega) hL d_law_1199 d_law_1200 d_law_1201 d_law_1202 d_law_1203 ?_
  refine LT_arg 2 hi (by omega) hL d_law_1204 d_law_1205 d_law_1206 d_law_1207 d_law_1208 ?_
  refine LT_call (M' := mX12_guesses) [.int (xs (j + 1)), .int (xs (j + 2))] [.int r] d_law_1209 ml_law_105 mkX12_guesses rfl shp_58 rfl rfl rfl (Nat.le_of_ble_eq_true rfl) (Ev.mono hr ?_)
  rintro v sh I2 M2 ⟨r2, rfl, rfl, rfl, hI⟩
  refine ⟨rfl, trivial, ?_⟩
  exact LT_same (tgt := 2065) d_law_1212 (by decide) (k I2 M2 hI)
theorem law_coin {L j : Nat} {xs : Nat → Int32} {i : Int32} {I : st_I} {M : st_L} {W : Nat → Int64} (hi : i = nI j) (hj : j + 8 ≤ L) (hL : L ≤ 4096) (H : Inv W I M) (k : ∀ I2 M2, Inv W I2 M2 → LT L xs i 2065 [] I2 M2) : LT L xs i 1217 [] I M := by
  refine LT_x d_law_1217 ?_
  refine LT_arg 1 hi (by omega) hL d_law_1218 d_law_1219 d_law_1220 d_law_1221 d_law_1222 ?_
  refine LT_arg 2 hi (by omega) hL d_law_1223 d_law_1224 d_law_1225 d_law_1226 d_law_1227 ?_
  refine LT_bool d_law_1228 d_law_1231 d_law_1232 d_law_1235 ?_
  refine LT_call (M' := mX11_coin) [.int (xs (j + 1)), .int ((if xs (j + 2) = 0 then (0 : Int32) else 1))] [] d_law_1236 ml_law_106 mkX11_coin rfl shp_0 rfl rfl rfl (Nat.zero_le _) (Ev.mono (h_coin H (xs (j + 1)) ((if xs (j + 2) = 0 then (0 : Int32) else 1))) ?_)
  rintro v sh I1 M1 ⟨r, rfl, rfl, hr⟩
  refine ⟨rfl, trivial, ?_⟩
  refine LT_m d_law_1239 ?_
  refine LT_arg 1 hi (by omega) hL d_law_1240 d_law_1241 d_law_1242 d_law_1243 d_law_1244 ?_
  refine LT_arg 2 hi (by omega) hL d_law_1245 d_law_1246 d_law_1247 d_law_1248 d_law_1249 ?_
  refine LT_bool d_law_1250 d_law_1253 d_law_1254 d_law_1257 ?_
  refine LT_call (M' := mX12_coin) [.int (xs (j + 1)), .int ((if xs (j + 2) = 0 then (0 : Int32) else 1))] [.long r] d_law_1258 ml_law_110 mkX12_coin rfl shp_58 rfl rfl rfl (Nat.le_of_ble_eq_true rfl) (Ev.mono hr ?_)
  rintro v sh I2 M2 ⟨r2, rfl, rfl, rfl, hI⟩
  refine ⟨rfl, trivial, ?_⟩
  exact LT_sameL (tgt := 2065) d_law_1261 d_law_1262 (by decide) (k I2 M2 hI)
theorem law_table {L j : Nat} {xs : Nat → Int32} {i : Int32} {I : st_I} {M : st_L} {W : Nat → Int64} (hi : i = nI j) (hj : j + 8 ≤ L) (hL : L ≤ 4096) (H : Inv W I M) (k : ∀ I2 M2, Inv W I2 M2 → LT L xs i 2065 [] I2 M2) : LT L xs i 1267 [] I M := by
  refine LT_x d_law_1267 ?_
  refine LT_arg 1 hi (by omega) hL d_law_1268 d_law_1269 d_law_1270 d_law_1271 d_law_1272 ?_
  refine LT_arg 2 hi (by omega) hL d_law_1273 d_law_1274 d_law_1275 d_law_1276 d_law_1277 ?_
  refine LT_bool d_law_1278 d_law_1281 d_law_1282 d_law_1285 ?_
  refine LT_call (M' := mX11_table) [.int (xs (j + 1)), .int ((if xs (j + 2) = 0 then (0 : Int32) else 1))] [] d_law_1286 ml_law_111 mkX11_table rfl shp_0 rfl rfl rfl (Nat.zero_le _) (Ev.mono (h_table H (xs (j + 1)) ((if xs (j + 2) = 0 then (0 : Int32) else 1))) ?_)
  rintro v sh I1 M1 ⟨r, rfl, rfl, hr⟩
  refine ⟨rfl, trivial, ?_⟩
  refine LT_m d_law_1289 ?_
  refine LT_arg 1 hi (by omega) hL d_law_1290 d_law_1291 d_law_1292 d_law_1293 d_law_1294 ?_
  refine LT_arg 2 hi (by omega) hL d_law_1295 d_law_1296 d_law_1297 d_law_1298 d_law_1299 ?_
  refine LT_bool d_law_1300 d_law_1303 d_law_1304 d_law_1307 ?_
  refine LT_call (M' := mX12_table) [.int (xs (j + 1)), .int ((if xs (j + 2) = 0 then (0 : Int32) else 1))] [.long r] d_law_1308 ml_law_114 mkX12_table rfl shp_58 rfl rfl rfl (Nat.le_of_ble_eq_true rfl) (Ev.mono hr ?_)
  rintro v sh I2 M2 ⟨r2, rfl, rfl, rfl, hI⟩
  refine ⟨rfl, trivial, ?_⟩
  exact LT_sameL (tgt := 2065) d_law_1311 d_law_1312 (by decide) (k I2 M2 hI)
theorem law_steady {L j : Nat} {xs : Nat → Int32} {i : Int32} {I : st_I} {M : st_L} {W : Nat → Int64} (hi : i = nI j) (hj : j + 8 ≤ L) (hL : L ≤ 4096) (H : Inv W I M) (k : ∀ I2 M2, Inv W I2 M2 → LT L xs i 2065 [] I2 M2) : LT L xs i 1317 [] I M := by
  refine LT_x d_law_1317 ?_
  refine LT_arg 1 hi (by omega) hL d_law_1318 d_law_1319 d_law_1320 d_law_1321 d_law_1322 ?_
  refine LT_arg 2 hi (by omega) hL d_law_1323 d_law_1324 d_law_1325 d_law_1326 d_law_1327 ?_
  refine LT_call (M' := mX11_steady) [.int (xs (j + 1)), .int (xs (j + 2))] [] d_law_1328 ml_law_115 mkX11_steady rfl shp_0 rfl rfl rfl (Nat.zero_le _) (Ev.mono (h_steady H (xs (j + 1)) (xs (j + 2))) ?_)
  rintro v sh I1 M1 ⟨r, rfl, rfl, hr⟩
  refine ⟨rfl, trivial, ?_⟩
  refine LT_m d_law_1331 ?_
  refine LT_arg 1 hi (by omega) hL d_law_1332 d_law_1333 d_law_1334 d_law_1335 d_law_1336 ?_
  refine LT_arg 2 hi (by omega) hL d_law_1337 d_law_1338 d_law_1339 d_law_1340 d_law_1341 ?_
  refine LT_call (M' := mX12_steady) [.int (xs (j + 1)), .int (xs (j + 2))] [.int r] d_law_1342 ml_law_118 mkX12_steady rfl shp_58 rfl rfl rfl (Nat.le_of_ble_eq_true rfl) (Ev.mono hr ?_)
  rintro v sh I2 M2 ⟨r2, rfl, rfl, rfl, hI⟩
  refine ⟨rfl, trivial, ?_⟩
  exact LT_same (tgt := 2065) d_law_1345 (by decide) (k I2 M2 hI)
theorem law_steadyWays {L j : Nat} {xs : Nat → Int32} {i : Int32} {I : st_I} {M : st_L} {W : Nat → Int64} (hi : i = nI j) (hj : j + 8 ≤ L) (hL : L ≤ 4096) (H : Inv W I M) (k : ∀ I2 M2, Inv W I2 M2 → LT L xs i 2065 [] I2 M2) : LT L xs i 1350 [] I M := by
  refine LT_x d_law_1350 ?_
  refine LT_arg 1 hi (by omega) hL d_law_1351 d_law_1352 d_law_1353 d_law_1354 d_law_1355 ?_
  refine LT_call (M' := mX11_steadyWays) [.int (xs (j + 1))] [] d_law_1356 ml_law_119 mkX11_steadyWays rfl shp_0 rfl rfl rfl (Nat.zero_le _) (Ev.mono (h_steadyWays H (xs (j + 1))) ?_)
  rintro v sh I1 M1 ⟨r, rfl, rfl, hr⟩
  refine ⟨rfl, trivial, ?_⟩
  refine LT_m d_law_1359 ?_
  refine LT_arg 1 hi (by omega) hL d_law_1360 d_law_1361 d_law_1362 d_law_1363 d_law_1364 ?_
  refine LT_call (M' := mX12_steadyWays) [.int (xs (j + 1))] [.int r] d_law_1365 ml_law_122 mkX12_steadyWays rfl shp_58 rfl rfl rfl (Nat.le_of_ble_eq_true rfl) (Ev.mono hr ?_)
  rintro v sh I2 M2 ⟨r2, rfl, rfl, rfl, hI⟩
  refine ⟨rfl, trivial, ?_⟩
  exact LT_same (tgt := 2065) d_law_1368 (by decide) (k I2 M2 hI)
theorem law_kinds {L j : Nat} {xs : Nat → Int32} {i : Int32} {I : st_I} {M : st_L} {W : Nat → Int64} (hi : i = nI j) (hj : j + 8 ≤ L) (hL : L ≤ 4096) (H : Inv W I M) (k : ∀ I2 M2, Inv W I2 M2 → LT L xs i 2065 [] I2 M2) : LT L xs i 1373 [] I M := by
  refine LT_x d_law_1373 ?_
  refine LT_arg 1 hi (by omega) hL d_law_1374 d_law_1375 d_law_1376 d_law_1377 d_law_1378 ?_
  refine LT_arg 2 hi (by omega) hL d_law_1379 d_law_1380 d_law_1381 d_law_1382 d_law_1383 ?_
  refine LT_call (M' := mX11_kinds) [.int (xs (j + 1)), .int (xs (j + 2))] [] d_law_1384 ml_law_123 mkX11_kinds rfl shp_0 rfl rfl rfl (Nat.zero_le _) (Ev.mono (h_kinds H (xs (j + 1)) (xs (j + 2))) ?_)
  rintro v sh I1 M1 ⟨r, rfl, rfl, hr⟩
  refine ⟨rfl, trivial, ?_⟩
  refine LT_m d_law_1387 ?_
  refine LT_arg 1 hi (by omega) hL d_law_1388 d_law_1389 d_law_1390 d_law_1391 d_law_1392 ?_
  refine LT_arg 2 hi (by omega) hL d_law_1393 d_law_1394 d_law_1395 d_law_1396 d_law_1397 ?_
  refine LT_call (M' := mX12_kinds) [.int (xs (j + 1)), .int (xs (j + 2))] [.int r] d_law_1398 ml_law_126 mkX12_kinds rfl shp_58 rfl rfl rfl (Nat.le_of_ble_eq_true rfl) (Ev.mono hr ?_)
  rintro v sh I2 M2 ⟨r2, rfl, rfl, rfl, hI⟩
  refine ⟨rfl, trivial, ?_⟩
  exact LT_same (tgt := 2065) d_law_1401 (by decide) (k I2 M2 hI)
theorem law_kindWays {L j : Nat} {xs : Nat → Int32} {i : Int32} {I : st_I} {M : st_L} {W : Nat → Int64} (hi : i = nI j) (hj : j + 8 ≤ L) (hL : L ≤ 4096) (H : Inv W I M) (k : ∀ I2 M2, Inv W I2 M2 → LT L xs i 2065 [] I2 M2) : LT L xs i 1406 [] I M := by
  refine LT_x d_law_1406 ?_
  refine LT_arg 1 hi (by omega) hL d_law_1407 d_law_1408 d_law_1409 d_law_1410 d_law_1411 ?_
  refine LT_arg 2 hi (by omega) hL d_law_1412 d_law_1413 d_law_1414 d_law_1415 d_law_1416 ?_
  refine LT_bool d_law_1417 d_law_1420 d_law_1421 d_law_1424 ?_
  refine LT_call (M' := mX11_kindWays) [.int (xs (j + 1)), .int ((if xs (j + 2) = 0 then (0 : Int32) else 1))] [] d_law_1425 ml_law_127 mkX11_kindWays rfl shp_0 rfl rfl rfl (Nat.zero_le _) (Ev.mono (h_kindWays H (xs (j + 1)) ((if xs (j + 2) = 0 then (0 : Int32) else 1))) ?_)
  rintro v sh I1 M1 ⟨r, rfl, rfl, hr⟩
  refine ⟨rfl, trivial, ?_⟩
  refine LT_m d_law_1428 ?_
  refine LT_arg 1 hi (by omega) hL d_law_1429 d_law_1430 d_law_1431 d_law_1432 d_law_1433 ?_
  refine LT_arg 2 hi (by omega) hL d_law_1434 d_law_1435 d_law_1436 d_law_1437 d_law_1438 ?_
  refine LT_bool d_law_1439 d_law_1442 d_law_1443 d_law_1446 ?_
  refine LT_call (M' := mX12_kindWays) [.int (xs (j + 1)), .int ((if xs (j + 2) = 0 then (0 : Int32) else 1))] [.int r] d_law_1447 ml_law_131 mkX12_kindWays rfl shp_58 rfl rfl rfl (Nat.le_of_ble_eq_true rfl) (Ev.mono hr ?_)
  rintro v sh I2 M2 ⟨r2, rfl, rfl, rfl, hI⟩
  refine ⟨rfl, trivial, ?_⟩
  exact LT_same (tgt := 2065) d_law_1450 (by decide) (k I2 M2 hI)
theorem law_flips {L j : Nat} {xs : Nat → Int32} {i : Int32} {I : st_I} {M : st_L} {W : Nat → Int64} (hi : i = nI j) (hj : j + 8 ≤ L) (hL : L ≤ 4096) (H : Inv W I M) (k : ∀ I2 M2, Inv W I2 M2 → LT L xs i 2065 [] I2 M2) : LT L xs i 1455 [] I M := by
  refine LT_x d_law_1455 ?_
  refine LT_arg 1 hi (by omega) hL d_law_1456 d_law_1457 d_law_1458 d_law_1459 d_law_1460 ?_
  refine LT_arg 2 hi (by omega) hL d_law_1461 d_law_1462 d_law_1463 d_law_1464 d_law_1465 ?_
  refine LT_call (M' := mX11_flips) [.int (xs (j + 1)), .int (xs (j + 2))] [] d_law_1466 ml_law_132 mkX11_flips rfl shp_0 rfl rfl rfl (Nat.zero_le _) (Ev.mono (h_flips H (xs (j + 1)) (xs (j + 2))) ?_)
  rintro v sh I1 M1 ⟨r, rfl, rfl, hr⟩
  refine ⟨rfl, trivial, ?_⟩
  refine LT_m d_law_1469 ?_
  refine LT_arg 1 hi (by omega) hL d_law_1470 d_law_1471 d_law_1472 d_law_1473 d_law_1474 ?_
  refine LT_arg 2 hi (by omega) hL d_law_1475 d_law_1476 d_law_1477 d_law_1478 d_law_1479 ?_
  refine LT_call (M' := mX12_flips) [.int (xs (j + 1)), .int (xs (j + 2))] [.int r] d_law_1480 ml_law_135 mkX12_flips rfl shp_58 rfl rfl rfl (Nat.le_of_ble_eq_true rfl) (Ev.mono hr ?_)
  rintro v sh I2 M2 ⟨r2, rfl, rfl, rfl, hI⟩
  refine ⟨rfl, trivial, ?_⟩
  exact LT_same (tgt := 2065) d_law_1483 (by decide) (k I2 M2 hI)
theorem law_flipWays {L j : Nat} {xs : Nat → Int32} {i : Int32} {I : st_I} {M : st_L} {W : Nat → Int64} (hi : i = nI j) (hj : j + 8 ≤ L) (hL : L ≤ 4096) (H : Inv W I M) (k : ∀ I2 M2, Inv W I2 M2 → LT L xs i 2065 [] I2 M2) : LT L xs i 1488 [] I M := by
  refine LT_x d_law_1488 ?_
  refine LT_arg 1 hi (by omega) hL d_law_1489 d_law_1490 d_law_1491 d_law_1492 d_law_1493 ?_
  refine LT_call (M' := mX11_flipWays) [.int (xs (j + 1))] [] d_law_1494 ml_law_136 mkX11_flipWays rfl shp_0 rfl rfl rfl (Nat.zero_le _) (Ev.mono (h_flipWays H (xs (j + 1))) ?_)
  rintro v sh I1 M1 ⟨r, rfl, rfl, hr⟩
  refine ⟨rfl, trivial, ?_⟩
  refine LT_m d_law_1497 ?_
  refine LT_arg 1 hi (by omega) hL d_law_1498 d_law_1499 d_law_1500 d_law_1501 d_law_1502 ?_
  refine LT_call (M' := mX12_flipWays) [.int (xs (j + 1))] [.int r] d_law_1503 ml_law_139 mkX12_flipWays rfl shp_58 rfl rfl rfl (Nat.le_of_ble_eq_true rfl) (Ev.mono hr ?_)
  rintro v sh I2 M2 ⟨r2, rfl, rfl, rfl, hI⟩
  refine ⟨rfl, trivial, ?_⟩
  exact LT_same (tgt := 2065) d_law_1506 (by decide) (k I2 M2 hI)
theorem law_small {L j : Nat} {xs : Nat → Int32} {i : Int32} {I : st_I} {M : st_L} {W : Nat → Int64} (hi : i = nI j) (hj : j + 8 ≤ L) (hL : L ≤ 4096) (H : Inv W I M) (k : ∀ I2 M2, Inv W I2 M2 → LT L xs i 2065 [] I2 M2) : LT L xs i 1511 [] I M := by
  refine LT_x d_law_1511 ?_
  refine LT_arg 1 hi (by omega) hL d_law_1512 d_law_1513 d_law_1514 d_law_1515 d_law_1516 ?_
  refine LT_call (M' := mX11_small) [.int (xs (j + 1))] [] d_law_1517 ml_law_140 mkX11_small rfl shp_0 rfl rfl rfl (Nat.zero_le _) (Ev.mono (h_small H (xs (j + 1))) ?_)
  rintro v sh I1 M1 ⟨r, rfl, rfl, hr⟩
  refine ⟨rfl, trivial, ?_⟩
  refine LT_m d_law_1520 ?_
  refine LT_arg 1 hi (by omega) hL d_law_1521 d_law_1522 d_law_1523 d_law_1524 d_law_1525 ?_
  refine LT_call (M' := mX12_small) [.int (xs (j + 1))] [.int r] d_law_1526 ml_law_143 mkX12_small rfl shp_58 rfl rfl rfl (Nat.le_of_ble_eq_true rfl) (Ev.mono hr ?_)
  rintro v sh I2 M2 ⟨r2, rfl, rfl, rfl, hI⟩
  refine ⟨rfl, trivial, ?_⟩
  exact LT_same (tgt := 2065) d_law_1529 (by decide) (k I2 M2 hI)
theorem law_knowing {L j : Nat} {xs : Nat → Int32} {i : Int32} {I : st_I} {M : st_L} {W : Nat → Int64} (hi : i = nI j) (hj : j + 8 ≤ L) (hL : L ≤ 4096) (H : Inv W I M) (k : ∀ I2 M2, Inv W I2 M2 → LT L xs i 2065 [] I2 M2) : LT L xs i 1534 [] I M := by
  refine LT_x d_law_1534 ?_
  refine LT_arg 1 hi (by omega) hL d_law_1535 d_law_1536 d_law_1537 d_law_1538 d_law_1539 ?_
  refine LT_arg 2 hi (by omega) hL d_law_1540 d_law_1541 d_law_1542 d_law_1543 d_law_1544 ?_
  refine LT_call (M' := mX11_knowing) [.int (xs (j + 1)), .int (xs (j + 2))] [] d_law_1545 ml_law_144 mkX11_knowing rfl shp_0 rfl rfl rfl (Nat.zero_le _) (Ev.mono (h_knowing H (xs (j + 1)) (xs (j + 2))) ?_)
  rintro v sh I1 M1 ⟨r, rfl, rfl, hr⟩
  refine ⟨rfl, trivial, ?_⟩
  refine LT_m d_law_1548 ?_
  refine LT_arg 1 hi (by omega) hL d_law_1549 d_law_1550 d_law_1551 d_law_1552 d_law_1553 ?_
  refine LT_arg 2 hi (by omega) hL d_law_1554 d_law_1555 d_law_1556 d_law_1557 d_law_1558 ?_
  refine LT_call (M' := mX12_knowing) [.int (xs (j + 1)), .int (xs (j + 2))] [.int r] d_law_1559 ml_law_147 mkX12_knowing rfl shp_58 rfl rfl rfl (Nat.le_of_ble_eq_true rfl) (Ev.mono hr ?_)
  rintro v sh I2 M2 ⟨r2, rfl, rfl, rfl, hI⟩
  refine ⟨rfl, trivial, ?_⟩
  exact LT_same (tgt := 2065) d_law_1562 (by decide) (k I2 M2 hI)
theorem law_knowingWays {L j : Nat} {xs : Nat → Int32} {i : Int32} {I : st_I} {M : st_L} {W : Nat → Int64} (hi : i = nI j) (hj : j + 8 ≤ L) (hL : L ≤ 4096) (H : Inv W I M) (k : ∀ I2 M2, Inv W I2 M2 → LT L xs i 2065 [] I2 M2) : LT L xs i 1567 [] I M := by
  refine LT_x d_law_1567 ?_
  refine LT_arg 1 hi (by omega) hL d_law_1568 d_law_1569 d_law_1570 d_law_1571 d_law_1572 ?_
  refine LT_call (M' := mX11_knowingWays) [.int (xs (j + 1))] [] d_law_1573 ml_law_148 mkX11_knowingWays rfl shp_0 rfl rfl rfl (Nat.zero_le _) (Ev.mono (h_knowingWays H (xs (j + 1))) ?_)
  rintro v sh I1 M1 ⟨r, rfl, rfl, hr⟩
  refine ⟨rfl, trivial, ?_⟩
  refine LT_m d_law_1576 ?_
  refine LT_arg 1 hi (by omega) hL d_law_1577 d_law_1578 d_law_1579 d_law_1580 d_law_1581 ?_
  refine LT_call (M' := mX12_knowingWays) [.int (xs (j + 1))] [.int r] d_law_1582 ml_law_151 mkX12_knowingWays rfl shp_58 rfl rfl rfl (Nat.le_of_ble_eq_true rfl) (Ev.mono hr ?_)
  rintro v sh I2 M2 ⟨r2, rfl, rfl, rfl, hI⟩
  refine ⟨rfl, trivial, ?_⟩
  exact LT_same (tgt := 2065) d_law_1585 (by decide) (k I2 M2 hI)
theorem law_spot {L j : Nat} {xs : Nat → Int32} {i : Int32} {I : st_I} {M : st_L} {W : Nat → Int64} (hi : i = nI j) (hj : j + 8 ≤ L) (hL : L ≤ 4096) (H : Inv W I M) (k : ∀ I2 M2, Inv W I2 M2 → LT L xs i 2065 [] I2 M2) : LT L xs i 1590 [] I M := by
  refine LT_x d_law_1590 ?_
  refine LT_arg 1 hi (by omega) hL d_law_1591 d_law_1592 d_law_1593 d_law_1594 d_law_1595 ?_
  refine LT_arg 2 hi (by omega) hL d_law_1596 d_law_1597 d_law_1598 d_law_1599 d_law_1600 ?_
  refine LT_arg 3 hi (by omega) hL d_law_1601 d_law_1602 d_law_1603 d_law_1604 d_law_1605 ?_
  refine LT_call (M' := mX11_spot) [.int (xs (j + 1)), .int (xs (j + 2)), .int (xs (j + 3))] [] d_law_1606 ml_law_152 mkX11_spot rfl shp_0 rfl rfl rfl (Nat.zero_le _) (Ev.mono (h_spot H (xs (j + 1)) (xs (j + 2)) (xs (j + 3))) ?_)
  rintro v sh I1 M1 ⟨r, rfl, rfl, hr⟩
  refine ⟨rfl, trivial, ?_⟩
  refine LT_m d_law_1609 ?_
  refine LT_arg 1 hi (by omega) hL d_law_1610 d_law_1611 d_law_1612 d_law_1613 d_law_1614 ?_
  refine LT_arg 2 hi (by omega) hL d_law_1615 d_law_1616 d_law_1617 d_law_1618 d_law_1619 ?_
  refine LT_arg 3 hi (by omega) hL d_law_1620 d_law_1621 d_law_1622 d_law_1623 d_law_1624 ?_
  refine LT_call (M' := mX12_spot) [.int (xs (j + 1)), .int (xs (j + 2)), .int (xs (j + 3))] [.int r] d_law_1625 ml_law_155 mkX12_spot rfl shp_58 rfl rfl rfl (Nat.le_of_ble_eq_true rfl) (Ev.mono hr ?_)
  rintro v sh I2 M2 ⟨r2, rfl, rfl, rfl, hI⟩
  refine ⟨rfl, trivial, ?_⟩
  exact LT_same (tgt := 2065) d_law_1628 (by decide) (k I2 M2 hI)
theorem law_right {L j : Nat} {xs : Nat → Int32} {i : Int32} {I : st_I} {M : st_L} {W : Nat → Int64} (hi : i = nI j) (hj : j + 8 ≤ L) (hL : L ≤ 4096) (H : Inv W I M) (k : ∀ I2 M2, Inv W I2 M2 → LT L xs i 2065 [] I2 M2) : LT L xs i 1633 [] I M := by
  refine LT_x d_law_1633 ?_
  refine LT_arg 1 hi (by omega) hL d_law_1634 d_law_1635 d_law_1636 d_law_1637 d_law_1638 ?_
  refine LT_arg 2 hi (by omega) hL d_law_1639 d_law_1640 d_law_1641 d_law_1642 d_law_1643 ?_
  refine LT_call (M' := mX11_right) [.int (xs (j + 1)), .int (xs (j + 2))] [] d_law_1644 ml_law_156 mkX11_right rfl shp_0 rfl rfl rfl (Nat.zero_le _) (Ev.mono (h_right H (xs (j + 1)) (xs (j + 2))) ?_)
  rintro v sh I1 M1 ⟨r, rfl, rfl, hr⟩
  refine ⟨rfl, trivial, ?_⟩
  refine LT_m d_law_1647 ?_
  refine LT_arg 1 hi (by omega) hL d_law_1648 d_law_1649 d_law_1650 d_law_1651 d_law_1652 ?_
  refine LT_arg 2 hi (by omega) hL d_law_1653 d_law_1654 d_law_1655 d_law_1656 d_law_1657 ?_
  refine LT_call (M' := mX12_right) [.int (xs (j + 1)), .int (xs (j + 2))] [.int r] d_law_1658 ml_law_159 mkX12_right rfl shp_58 rfl rfl rfl (Nat.le_of_ble_eq_true rfl) (Ev.mono hr ?_)
  rintro v sh I2 M2 ⟨r2, rfl, rfl, rfl, hI⟩
  refine ⟨rfl, trivial, ?_⟩
  exact LT_same (tgt := 2065) d_law_1661 (by decide) (k I2 M2 hI)
theorem law_near {L j : Nat} {xs : Nat → Int32} {i : Int32} {I : st_I} {M : st_L} {W : Nat → Int64} (hi : i = nI j) (hj : j + 8 ≤ L) (hL : L ≤ 4096) (H : Inv W I M) (k : ∀ I2 M2, Inv W I2 M2 → LT L xs i 2065 [] I2 M2) : LT L xs i 1666 [] I M := by
  refine LT_x d_law_1666 ?_
  refine LT_arg 1 hi (by omega) hL d_law_1667 d_law_1668 d_law_1669 d_law_1670 d_law_1671 ?_
  refine LT_arg 2 hi (by omega) hL d_law_1672 d_law_1673 d_law_1674 d_law_1675 d_law_1676 ?_
  refine LT_call (M' := mX11_near) [.int (xs (j + 1)), .int (xs (j + 2))] [] d_law_1677 ml_law_160 mkX11_near rfl shp_0 rfl rfl rfl (Nat.zero_le _) (Ev.mono (h_near H (xs (j + 1)) (xs (j + 2))) ?_)
  rintro v sh I1 M1 ⟨r, rfl, rfl, hr⟩
  refine ⟨rfl, trivial, ?_⟩
  refine LT_m d_law_1680 ?_
  refine LT_arg 1 hi (by omega) hL d_law_1681 d_law_1682 d_law_1683 d_law_1684 d_law_1685 ?_
  refine LT_arg 2 hi (by omega) hL d_law_1686 d_law_1687 d_law_1688 d_law_1689 d_law_1690 ?_
  refine LT_call (M' := mX12_near) [.int (xs (j + 1)), .int (xs (j + 2))] [.int r] d_law_1691 ml_law_163 mkX12_near rfl shp_58 rfl rfl rfl (Nat.le_of_ble_eq_true rfl) (Ev.mono hr ?_)
  rintro v sh I2 M2 ⟨r2, rfl, rfl, rfl, hI⟩
  refine ⟨rfl, trivial, ?_⟩
  exact LT_same (tgt := 2065) d_law_1694 (by decide) (k I2 M2 hI)
theorem law_nearWays {L j : Nat} {xs : Nat → Int32} {i : Int32} {I : st_I} {M : st_L} {W : Nat → Int64} (hi : i = nI j) (hj : j + 8 ≤ L) (hL : L ≤ 4096) (H : Inv W I M) (k : ∀ I2 M2, Inv W I2 M2 → LT L xs i 2065 [] I2 M2) : LT L xs i 1699 [] I M := by
  refine LT_x d_law_1699 ?_
  refine LT_arg 1 hi (by omega) hL d_law_1700 d_law_1701 d_law_1702 d_law_1703 d_law_1704 ?_
  refine LT_call (M' := mX11_nearWays) [.int (xs (j + 1))] [] d_law_1705 ml_law_164 mkX11_nearWays rfl shp_0 rfl rfl rfl (Nat.zero_le _) (Ev.mono (h_nearWays H (xs (j + 1))) ?_)
  rintro v sh I1 M1 ⟨r, rfl, rfl, hr⟩
  refine ⟨rfl, trivial, ?_⟩
  refine LT_m d_law_1708 ?_
  refine LT_arg 1 hi (by omega) hL d_law_1709 d_law_1710 d_law_1711 d_law_1712 d_law_1713 ?_
  refine LT_call (M' := mX12_nearWays) [.int (xs (j + 1))] [.int r] d_law_1714 ml_law_167 mkX12_nearWays rfl shp_58 rfl rfl rfl (Nat.le_of_ble_eq_true rfl) (Ev.mono hr ?_)
  rintro v sh I2 M2 ⟨r2, rfl, rfl, rfl, hI⟩
  refine ⟨rfl, trivial, ?_⟩
  exact LT_same (tgt := 2065) d_law_1717 (by decide) (k I2 M2 hI)
theorem law_beats {L j : Nat} {xs : Nat → Int32} {i : Int32} {I : st_I} {M : st_L} {W : Nat → Int64} (hi : i = nI j) (hj : j + 8 ≤ L) (hL : L ≤ 4096) (H : Inv W I M) (k : ∀ I2 M2, Inv W I2 M2 → LT L xs i 2065 [] I2 M2) : LT L xs i 1722 [] I M := by
  refine LT_x d_law_1722 ?_
  refine LT_arg 1 hi (by omega) hL d_law_1723 d_law_1724 d_law_1725 d_law_1726 d_law_1727 ?_
  refine LT_arg 2 hi (by omega) hL d_law_1728 d_law_1729 d_law_1730 d_law_1731 d_law_1732 ?_
  refine LT_arg 3 hi (by omega) hL d_law_1733 d_law_1734 d_law_1735 d_law_1736 d_law_1737 ?_
  refine LT_call (M' := mX11_beats) [.int (xs (j + 1)), .int (xs (j + 2)), .int (xs (j + 3))] [] d_law_1738 ml_law_168 mkX11_beats rfl shp_0 rfl rfl rfl (Nat.zero_le _) (Ev.mono (h_beats H (xs (j + 1)) (xs (j + 2)) (xs (j + 3))) ?_)
  rintro v sh I1 M1 ⟨r, rfl, rfl, hr⟩
  refine ⟨rfl, trivial, ?_⟩
  refine LT_m d_law_1741 ?_
  refine LT_arg 1 hi (by omega) hL d_law_1742 d_law_1743 d_law_1744 d_law_1745 d_law_1746 ?_
  refine LT_arg 2 hi (by omega) hL d_law_1747 d_law_1748 d_law_1749 d_law_1750 d_law_1751 ?_
  refine LT_arg 3 hi (by omega) hL d_law_1752 d_law_1753 d_law_1754 d_law_1755 d_law_1756 ?_
  refine LT_call (M' := mX12_beats) [.int (xs (j + 1)), .int (xs (j + 2)), .int (xs (j + 3))] [.int r] d_law_1757 ml_law_171 mkX12_beats rfl shp_58 rfl rfl rfl (Nat.le_of_ble_eq_true rfl) (Ev.mono hr ?_)
  rintro v sh I2 M2 ⟨r2, rfl, rfl, rfl, hI⟩
  refine ⟨rfl, trivial, ?_⟩
  exact LT_same (tgt := 2065) d_law_1760 (by decide) (k I2 M2 hI)
theorem law_winner {L j : Nat} {xs : Nat → Int32} {i : Int32} {I : st_I} {M : st_L} {W : Nat → Int64} (hi : i = nI j) (hj : j + 8 ≤ L) (hL : L ≤ 4096) (H : Inv W I M) (k : ∀ I2 M2, Inv W I2 M2 → LT L xs i 2065 [] I2 M2) : LT L xs i 1765 [] I M := by
  refine LT_x d_law_1765 ?_
  refine LT_arg 1 hi (by omega) hL d_law_1766 d_law_1767 d_law_1768 d_law_1769 d_law_1770 ?_
  refine LT_call (M' := mX11_winner) [.int (xs (j + 1))] [] d_law_1771 ml_law_172 mkX11_winner rfl shp_0 rfl rfl rfl (Nat.zero_le _) (Ev.mono (h_winner H (xs (j + 1))) ?_)
  rintro v sh I1 M1 ⟨r, rfl, rfl, hr⟩
  refine ⟨rfl, trivial, ?_⟩
  refine LT_m d_law_1774 ?_
  refine LT_arg 1 hi (by omega) hL d_law_1775 d_law_1776 d_law_1777 d_law_1778 d_law_1779 ?_
  refine LT_call (M' := mX12_winner) [.int (xs (j + 1))] [.int r] d_law_1780 ml_law_175 mkX12_winner rfl shp_58 rfl rfl rfl (Nat.le_of_ble_eq_true rfl) (Ev.mono hr ?_)
  rintro v sh I2 M2 ⟨r2, rfl, rfl, rfl, hI⟩
  refine ⟨rfl, trivial, ?_⟩
  exact LT_same (tgt := 2065) d_law_1783 (by decide) (k I2 M2 hI)
theorem law_best {L j : Nat} {xs : Nat → Int32} {i : Int32} {I : st_I} {M : st_L} {W : Nat → Int64} (hi : i = nI j) (hj : j + 8 ≤ L) (hL : L ≤ 4096) (H : Inv W I M) (k : ∀ I2 M2, Inv W I2 M2 → LT L xs i 2065 [] I2 M2) : LT L xs i 1788 [] I M := by
  refine LT_x d_law_1788 ?_
  refine LT_arg 1 hi (by omega) hL d_law_1789 d_law_1790 d_law_1791 d_law_1792 d_law_1793 ?_
  refine LT_arg 2 hi (by omega) hL d_law_1794 d_law_1795 d_law_1796 d_law_1797 d_law_1798 ?_
  refine LT_bool d_law_1799 d_law_1802 d_law_1803 d_law_1806 ?_
  refine LT_call (M' := mX11_best) [.int (xs (j + 1)), .int ((if xs (j + 2) = 0 then (0 : Int32) else 1))] [] d_law_1807 ml_law_176 mkX11_best rfl shp_0 rfl rfl rfl (Nat.zero_le _) (Ev.mono (h_best H (xs (j + 1)) ((if xs (j + 2) = 0 then (0 : Int32) else 1))) ?_)
  rintro v sh I1 M1 ⟨r, rfl, rfl, hr⟩
  refine ⟨rfl, trivial, ?_⟩
  refine LT_m d_law_1810 ?_
  refine LT_arg 1 hi (by omega) hL d_law_1811 d_law_1812 d_law_1813 d_law_1814 d_law_1815 ?_
  refine LT_arg 2 hi (by omega) hL d_law_1816 d_law_1817 d_law_1818 d_law_1819 d_law_1820 ?_
  refine LT_bool d_law_1821 d_law_1824 d_law_1825 d_law_1828 ?_
  refine LT_call (M' := mX12_best) [.int (xs (j + 1)), .int ((if xs (j + 2) = 0 then (0 : Int32) else 1))] [.int r] d_law_1829 ml_law_179 mkX12_best rfl shp_58 rfl rfl rfl (Nat.le_of_ble_eq_true rfl) (Ev.mono hr ?_)
  rintro v sh I2 M2 ⟨r2, rfl, rfl, rfl, hI⟩
  refine ⟨rfl, trivial, ?_⟩
  exact LT_same (tgt := 2065) d_law_1832 (by decide) (k I2 M2 hI)
theorem law_need {L j : Nat} {xs : Nat → Int32} {i : Int32} {I : st_I} {M : st_L} {W : Nat → Int64} (hi : i = nI j) (hj : j + 8 ≤ L) (hL : L ≤ 4096) (H : Inv W I M) (k : ∀ I2 M2, Inv W I2 M2 → LT L xs i 2065 [] I2 M2) : LT L xs i 1837 [] I M := by
  refine LT_x d_law_1837 ?_
  refine LT_arg 1 hi (by omega) hL d_law_1838 d_law_1839 d_law_1840 d_law_1841 d_law_1842 ?_
  refine LT_arg 2 hi (by omega) hL d_law_1843 d_law_1844 d_law_1845 d_law_1846 d_law_1847 ?_
  refine LT_arg 3 hi (by omega) hL d_law_1848 d_law_1849 d_law_1850 d_law_1851 d_law_1852 ?_
  refine LT_arg 4 hi (by omega) hL d_law_1853 d_law_1854 d_law_1855 d_law_1856 d_law_1857 ?_
  refine LT_arg 5 hi (by omega) hL d_law_1858 d_law_1859 d_law_1860 d_law_1861 d_law_1862 ?_
  refine LT_call (M' := mX11_need) [.int (xs (j + 1)), .int (xs (j + 2)), .int (xs (j + 3)), .int (xs (j + 4)), .int (xs (j + 5))] [] d_law_1863 ml_law_180 mkX11_need rfl shp_0 rfl rfl rfl (Nat.zero_le _) (Ev.mono (h_need H (xs (j + 1)) (xs (j + 2)) (xs (j + 3)) (xs (j + 4)) (xs (j + 5))) ?_)
  rintro v sh I1 M1 ⟨r, rfl, rfl, hr⟩
  refine ⟨rfl, trivial, ?_⟩
  refine LT_m d_law_1866 ?_
  refine LT_arg 1 hi (by omega) hL d_law_1867 d_law_1868 d_law_1869 d_law_1870 d_law_1871 ?_
  refine LT_arg 2 hi (by omega) hL d_law_1872 d_law_1873 d_law_1874 d_law_1875 d_law_1876 ?_
  refine LT_arg 3 hi (by omega) hL d_law_1877 d_law_1878 d_law_1879 d_law_1880 d_law_1881 ?_
  refine LT_arg 4 hi (by omega) hL d_law_1882 d_law_1883 d_law_1884 d_law_1885 d_law_1886 ?_
  refine LT_arg 5 hi (by omega) hL d_law_1887 d_law_1888 d_law_1889 d_law_1890 d_law_1891 ?_
  refine LT_call (M' := mX12_need) [.int (xs (j + 1)), .int (xs (j + 2)), .int (xs (j + 3)), .int (xs (j + 4)), .int (xs (j + 5))] [.int r] d_law_1892 ml_law_183 mkX12_need rfl shp_58 rfl rfl rfl (Nat.le_of_ble_eq_true rfl) (Ev.mono hr ?_)
  rintro v sh I2 M2 ⟨r2, rfl, rfl, rfl, hI⟩
  refine ⟨rfl, trivial, ?_⟩
  exact LT_same (tgt := 2065) d_law_1895 (by decide) (k I2 M2 hI)
theorem law_parts {L j : Nat} {xs : Nat → Int32} {i : Int32} {I : st_I} {M : st_L} {W : Nat → Int64} (hi : i = nI j) (hj : j + 8 ≤ L) (hL : L ≤ 4096) (H : Inv W I M) (k : ∀ I2 M2, Inv W I2 M2 → LT L xs i 2065 [] I2 M2) : LT L xs i 1900 [] I M := by
  refine LT_x d_law_1900 ?_
  refine LT_arg 1 hi (by omega) hL d_law_1901 d_law_1902 d_law_1903 d_law_1904 d_law_1905 ?_
  refine LT_arg 2 hi (by omega) hL d_law_1906 d_law_1907 d_law_1908 d_law_1909 d_law_1910 ?_
  refine LT_arg 3 hi (by omega) hL d_law_1911 d_law_1912 d_law_1913 d_law_1914 d_law_1915 ?_
  refine LT_arg 4 hi (by omega) hL d_law_1916 d_law_1917 d_law_1918 d_law_1919 d_law_1920 ?_
  refine LT_call (M' := mX11_parts) [.int (xs (j + 1)), .int (xs (j + 2)), .int (xs (j + 3)), .int (xs (j + 4))] [] d_law_1921 ml_law_184 mkX11_parts rfl shp_0 rfl rfl rfl (Nat.zero_le _) (Ev.mono (h_parts H (xs (j + 1)) (xs (j + 2)) (xs (j + 3)) (xs (j + 4))) ?_)
  rintro v sh I1 M1 ⟨r, rfl, rfl, hr⟩
  refine ⟨rfl, trivial, ?_⟩
  refine LT_m d_law_1924 ?_
  refine LT_arg 1 hi (by omega) hL d_law_1925 d_law_1926 d_law_1927 d_law_1928 d_law_1929 ?_
  refine LT_arg 2 hi (by omega) hL d_law_1930 d_law_1931 d_law_1932 d_law_1933 d_law_1934 ?_
  refine LT_arg 3 hi (by omega) hL d_law_1935 d_law_1936 d_law_1937 d_law_1938 d_law_1939 ?_
  refine LT_arg 4 hi (by omega) hL d_law_1940 d_law_1941 d_law_1942 d_law_1943 d_law_1944 ?_
  refine LT_call (M' := mX12_parts) [.int (xs (j + 1)), .int (xs (j + 2)), .int (xs (j + 3)), .int (xs (j + 4))] [.int r] d_law_1945 ml_law_187 mkX12_parts rfl shp_58 rfl rfl rfl (Nat.le_of_ble_eq_true rfl) (Ev.mono hr ?_)
  rintro v sh I2 M2 ⟨r2, rfl, rfl, rfl, hI⟩
  refine ⟨rfl, trivial, ?_⟩
  exact LT_same (tgt := 2065) d_law_1948 (by decide) (k I2 M2 hI)
theorem law_next {L j : Nat} {xs : Nat → Int32} {i : Int32} {I : st_I} {M : st_L} {W : Nat → Int64} (hi : i = nI j) (hj : j + 8 ≤ L) (hL : L ≤ 4096) (H : Inv W I M) (k : ∀ I2 M2, Inv W I2 M2 → LT L xs i 2065 [] I2 M2) : LT L xs i 1953 [] I M := by
  refine LT_x d_law_1953 ?_
  refine LT_arg 1 hi (by omega) hL d_law_1954 d_law_1955 d_law_1956 d_law_1957 d_law_1958 ?_
  refine LT_arg 2 hi (by omega) hL d_law_1959 d_law_1960 d_law_1961 d_law_1962 d_law_1963 ?_
  refine LT_arg 3 hi (by omega) hL d_law_1964 d_law_1965 d_law_1966 d_law_1967 d_law_1968 ?_
  refine LT_call (M' := mX11_next) [.int (xs (j + 1)), .int (xs (j + 2)), .int (xs (j + 3))] [] d_law_1969 ml_law_188 mkX11_next rfl shp_0 rfl rfl rfl (Nat.zero_le _) (Ev.mono (h_next H (xs (j + 1)) (xs (j + 2)) (xs (j + 3))) ?_)
  rintro v sh I1 M1 ⟨r, rfl, rfl, hr⟩
  refine ⟨rfl, trivial, ?_⟩
  refine LT_m d_law_1972 ?_
  refine LT_arg 1 hi (by omega) hL d_law_1973 d_law_1974 d_law_1975 d_law_1976 d_law_1977 ?_
  refine LT_arg 2 hi (by omega) hL d_law_1978 d_law_1979 d_law_1980 d_law_1981 d_law_1982 ?_
  refine LT_arg 3 hi (by omega) hL d_law_1983 d_law_1984 d_law_1985 d_law_1986 d_law_1987 ?_
  refine LT_call (M' := mX12_next) [.int (xs (j + 1)), .int (xs (j + 2)), .int (xs (j + 3))] [.int r] d_law_1988 ml_law_191 mkX12_next rfl shp_58 rfl rfl rfl (Nat.le_of_ble_eq_true rfl) (Ev.mono hr ?_)
  rintro v sh I2 M2 ⟨r2, rfl, rfl, rfl, hI⟩
  refine ⟨rfl, trivial, ?_⟩
  exact LT_same (tgt := 2065) d_law_1991 (by decide) (k I2 M2 hI)
theorem law_say {L j : Nat} {xs : Nat → Int32} {i : Int32} {I : st_I} {M : st_L} {W : Nat → Int64} (hi : i = nI j) (hj : j + 8 ≤ L) (hL : L ≤ 4096) (H : Inv W I M) (k : ∀ I2 M2, Inv W I2 M2 → LT L xs i 2065 [] I2 M2) : LT L xs i 1996 [] I M := by
  refine LT_x d_law_1996 ?_
  refine LT_arg 1 hi (by omega) hL d_law_1997 d_law_1998 d_law_1999 d_law_2000 d_law_2001 ?_
  refine LT_call (M' := mX11_say) [.int (xs (j + 1))] [] d_law_2002 ml_law_192 mkX11_say rfl shp_0 rfl rfl rfl (Nat.zero_le _) (Ev.mono (h_say H (xs (j + 1))) ?_)
  rintro v sh I1 M1 ⟨r, rfl, rfl, hr⟩
  refine ⟨rfl, trivial, ?_⟩
  refine LT_m d_law_2005 ?_
  refine LT_arg 1 hi (by omega) hL d_law_2006 d_law_2007 d_law_2008 d_law_2009 d_law_2010 ?_
  refine LT_call (M' := mX12_say) [.int (xs (j + 1))] [.int r] d_law_2011 ml_law_195 mkX12_say rfl shp_58 rfl rfl rfl (Nat.le_of_ble_eq_true rfl) (Ev.mono hr ?_)
  rintro v sh I2 M2 ⟨r2, rfl, rfl, rfl, hI⟩
  refine ⟨rfl, trivial, ?_⟩
  exact LT_same (tgt := 2065) d_law_2014 (by decide) (k I2 M2 hI)
theorem law_turned {L j : Nat} {xs : Nat → Int32} {i : Int32} {I : st_I} {M : st_L} {W : Nat → Int64} (hi : i = nI j) (hj : j + 8 ≤ L) (hL : L ≤ 4096) (H : Inv W I M) (k : ∀ I2 M2, Inv W I2 M2 → LT L xs i 2065 [] I2 M2) : LT L xs i 2019 [] I M := by
  refine LT_x d_law_2019 ?_
  refine LT_arg 1 hi (by omega) hL d_law_2020 d_law_2021 d_law_2022 d_law_2023 d_law_2024 ?_
  refine LT_call (M' := mX11_turned) [.int (xs (j + 1))] [] d_law_2025 ml_law_196 mkX11_turned rfl shp_0 rfl rfl rfl (Nat.zero_le _) (Ev.mono (h_turned H (xs (j + 1))) ?_)
  rintro v sh I1 M1 ⟨r, rfl, rfl, hr⟩
  refine ⟨rfl, trivial, ?_⟩
  refine LT_m d_law_2028 ?_
  refine LT_arg 1 hi (by omega) hL d_law_2029 d_law_2030 d_law_2031 d_law_2032 d_law_2033 ?_
  refine LT_call (M' := mX12_turned) [.int (xs (j + 1))] [.int r] d_law_2034 ml_law_199 mkX12_turned rfl shp_58 rfl rfl rfl (Nat.le_of_ble_eq_true rfl) (Ev.mono hr ?_)
  rintro v sh I2 M2 ⟨r2, rfl, rfl, rfl, hI⟩
  refine ⟨rfl, trivial, ?_⟩
  exact LT_same (tgt := 2065) d_law_2037 (by decide) (k I2 M2 hI)
theorem law_count {L j : Nat} {xs : Nat → Int32} {i : Int32} {I : st_I} {M : st_L} {W : Nat → Int64} (hi : i = nI j) (hj : j + 8 ≤ L) (hL : L ≤ 4096) (H : Inv W I M) (k : ∀ I2 M2, Inv W I2 M2 → LT L xs i 2065 [] I2 M2) : LT L xs i 2042 [] I M := by
  refine LT_x d_law_2042 ?_
  refine LT_arg 1 hi (by omega) hL d_law_2043 d_law_2044 d_law_2045 d_law_2046 d_law_2047 ?_
  refine LT_call (M' := mX11_count) [.int (xs (j + 1))] [] d_law_2048 ml_law_200 mkX11_count rfl shp_0 rfl rfl rfl (Nat.zero_le _) (Ev.mono (h_count H (xs (j + 1))) ?_)
  rintro v sh I1 M1 ⟨r, rfl, rfl, hr⟩
  refine ⟨rfl, trivial, ?_⟩
  refine LT_m d_law_2051 ?_
  refine LT_arg 1 hi (by omega) hL d_law_2052 d_law_2053 d_law_2054 d_law_2055 d_law_2056 ?_
  refine LT_call (M' := mX12_count) [.int (xs (j + 1))] [.int r] d_law_2057 ml_law_203 mkX12_count rfl shp_58 rfl rfl rfl (Nat.le_of_ble_eq_true rfl) (Ev.mono hr ?_)
  rintro v sh I2 M2 ⟨r2, rfl, rfl, rfl, hI⟩
  refine ⟨rfl, trivial, ?_⟩
  exact LT_same (tgt := 2065) d_law_2060 (by decide) (k I2 M2 hI)
