/-! The law: its cases. By program (g97zx.py). -/
section LW
variable {e : List Int32 × Value} {d : Nat} {m : zMm}
theorem lw_28 {i : Int} (hI : Inv m) (hv : e.2 = .null ∨ e.2 = .ref 10301) (hx : ∀ k : Int, 0 ≤ k → k ≤ 6 → 0 ≤ wr (i + k) ∧ wr (i + k) < e.1.length) : ∃ m2, Inv m2 ∧ Z e 200 0 1284 [.ref 10303, .ref 0, .ref 246, .int (iI i)] [] m = Z e 200 0 2145 [.ref 10303, .ref 0, .ref 246, .int (iI i)] [] m2 := by
  obtain ⟨v, m1, m2, h1, h2, h3⟩ := call_post (e := e) (d := 0) hI wr_toInt wr_toInt wr_toInt wr_toInt
  have u1 : Z e 199 167 0 [.ref 0, .int (iI (zscr e (wr (i + 1)))), .int (iI (zscr e (wr (i + 2)))), .int (iI (zscr e (wr (i + 3)))), .int (iI (zscr e (wr (i + 4))))] [] m = ri v m1 := Z_up (by decide) h1
  have u2 : Z e 199 276 0 [.ref 246, .int (iI (zscr e (wr (i + 1)))), .int (iI (zscr e (wr (i + 2)))), .int (iI (zscr e (wr (i + 3)))), .int (iI (zscr e (wr (i + 4)))), .retAddr 0] [] m1 = ri v m2 := Z_up (by decide) h2
  refine ⟨m2, h3, ?_⟩
  refine (s_al_1 p_0_1284).trans <| (s_al_0 p_0_1285).trans <| (s_il_3 p_0_1286).trans <| (s_const p_0_1287).trans <| (s_iadd p_0_1288).trans <| ((s_scr p_0_1289).trans (ck_t (hx 1 (by decide) (by decide)))).trans <| (s_al_0 p_0_1290).trans <| (s_il_3 p_0_1291).trans <| (s_const p_0_1292).trans <| (s_iadd p_0_1293).trans <| ((s_scr p_0_1294).trans (ck_t (hx 2 (by decide) (by decide)))).trans <| (s_al_0 p_0_1295).trans <| (s_il_3 p_0_1296).trans <| (s_const p_0_1297).trans <| (s_iadd p_0_1298).trans <| ((s_scr p_0_1299).trans (ck_t (hx 3 (by decide) (by decide)))).trans <| (s_al_0 p_0_1300).trans <| (s_il_3 p_0_1301).trans <| (s_const p_0_1302).trans <| (s_iadd p_0_1303).trans <| ((s_scr p_0_1304).trans (ck_t (hx 4 (by decide) (by decide)))).trans <| (s_cv4 (Lc := [.ref 0, .int (iI (zscr e (wr (i + 1)))), .int (iI (zscr e (wr (i + 2)))), .int (iI (zscr e (wr (i + 3)))), .int (iI (zscr e (wr (i + 4))))]) p_0_1305 (by decide) (by decide) (zM_of zq_167) ⟨Nat.le_of_ble_eq_true rfl, Nat.le_of_ble_eq_true rfl⟩ rfl (m_rc hs_0 ⟨rfl, by decide⟩)).trans ?_
  rw [u1, ri_k]
  refine (s_al_2 p_0_1308).trans <| (s_al_0 p_0_1309).trans <| (s_il_3 p_0_1310).trans <| (s_const p_0_1311).trans <| (s_iadd p_0_1312).trans <| ((s_scr p_0_1313).trans (ck_t (hx 1 (by decide) (by decide)))).trans <| (s_al_0 p_0_1314).trans <| (s_il_3 p_0_1315).trans <| (s_const p_0_1316).trans <| (s_iadd p_0_1317).trans <| ((s_scr p_0_1318).trans (ck_t (hx 2 (by decide) (by decide)))).trans <| (s_al_0 p_0_1319).trans <| (s_il_3 p_0_1320).trans <| (s_const p_0_1321).trans <| (s_iadd p_0_1322).trans <| ((s_scr p_0_1323).trans (ck_t (hx 3 (by decide) (by decide)))).trans <| (s_al_0 p_0_1324).trans <| (s_il_3 p_0_1325).trans <| (s_const p_0_1326).trans <| (s_iadd p_0_1327).trans <| ((s_scr p_0_1328).trans (ck_t (hx 4 (by decide) (by decide)))).trans <| (s_cv4 (Lc := [.ref 246, .int (iI (zscr e (wr (i + 1)))), .int (iI (zscr e (wr (i + 2)))), .int (iI (zscr e (wr (i + 3)))), .int (iI (zscr e (wr (i + 4)))), .retAddr 0]) p_0_1329 (by decide) (by decide) (zM_of zq_276) ⟨Nat.le_of_ble_eq_true rfl, Nat.le_of_ble_eq_true rfl⟩ rfl (m_rc hs_246 ⟨rfl, by decide⟩)).trans ?_
  rw [u2, ri_k]
  exact (s_c_eq_t p_0_1332 rfl rfl rfl).trans (if_pos rfl)
theorem lw_29 {i : Int} (hI : Inv m) (hv : e.2 = .null ∨ e.2 = .ref 10301) (hx : ∀ k : Int, 0 ≤ k → k ≤ 6 → 0 ≤ wr (i + k) ∧ wr (i + k) < e.1.length) : ∃ m2, Inv m2 ∧ Z e 200 0 1337 [.ref 10303, .ref 0, .ref 246, .int (iI i)] [] m = Z e 200 0 2145 [.ref 10303, .ref 0, .ref 246, .int (iI i)] [] m2 := by
  obtain ⟨v, m1, m2, h1, h2, h3⟩ := call_sees (e := e) (d := 0) hI wr_toInt wr_toInt
  have u1 : Z e 199 168 0 [.ref 0, .int (iI (zscr e (wr (i + 1)))), .int (iI (zscr e (wr (i + 2))))] [] m = ri v m1 := Z_up (by decide) h1
  have u2 : Z e 199 278 0 [.ref 246, .int (iI (zscr e (wr (i + 1)))), .int (iI (zscr e (wr (i + 2))))] [] m1 = ri v m2 := Z_up (by decide) h2
  refine ⟨m2, h3, ?_⟩
  refine (s_al_1 p_0_1337).trans <| (s_al_0 p_0_1338).trans <| (s_il_3 p_0_1339).trans <| (s_const p_0_1340).trans <| (s_iadd p_0_1341).trans <| ((s_scr p_0_1342).trans (ck_t (hx 1 (by decide) (by decide)))).trans <| (s_al_0 p_0_1343).trans <| (s_il_3 p_0_1344).trans <| (s_const p_0_1345).trans <| (s_iadd p_0_1346).trans <| ((s_scr p_0_1347).trans (ck_t (hx 2 (by decide) (by decide)))).trans <| (s_cv2 (Lc := [.ref 0, .int (iI (zscr e (wr (i + 1)))), .int (iI (zscr e (wr (i + 2))))]) p_0_1348 (by decide) (by decide) (zM_of zq_168) ⟨Nat.le_of_ble_eq_true rfl, Nat.le_of_ble_eq_true rfl⟩ rfl (m_rc hs_0 ⟨rfl, by decide⟩)).trans ?_
  rw [u1, ri_k]
  refine (s_al_2 p_0_1351).trans <| (s_al_0 p_0_1352).trans <| (s_il_3 p_0_1353).trans <| (s_const p_0_1354).trans <| (s_iadd p_0_1355).trans <| ((s_scr p_0_1356).trans (ck_t (hx 1 (by decide) (by decide)))).trans <| (s_al_0 p_0_1357).trans <| (s_il_3 p_0_1358).trans <| (s_const p_0_1359).trans <| (s_iadd p_0_1360).trans <| ((s_scr p_0_1361).trans (ck_t (hx 2 (by decide) (by decide)))).trans <| (s_cv2 (Lc := [.ref 246, .int (iI (zscr e (wr (i + 1)))), .int (iI (zscr e (wr (i + 2))))]) p_0_1362 (by decide) (by decide) (zM_of zq_278) ⟨Nat.le_of_ble_eq_true rfl, Nat.le_of_ble_eq_true rfl⟩ rfl (m_rc hs_246 ⟨rfl, by decide⟩)).trans ?_
  rw [u2, ri_k]
  exact (s_c_eq_t p_0_1365 rfl rfl rfl).trans (if_pos rfl)
theorem lw_30 {i : Int} (hI : Inv m) (hv : e.2 = .null ∨ e.2 = .ref 10301) (hx : ∀ k : Int, 0 ≤ k → k ≤ 6 → 0 ≤ wr (i + k) ∧ wr (i + k) < e.1.length) : ∃ m2, Inv m2 ∧ Z e 200 0 1370 [.ref 10303, .ref 0, .ref 246, .int (iI i)] [] m = Z e 200 0 2145 [.ref 10303, .ref 0, .ref 246, .int (iI i)] [] m2 := by
  obtain ⟨v, m1, m2, h1, h2, h3⟩ := call_aim (e := e) (d := 0) hI wr_toInt wr_toInt
  have u1 : Z e 199 169 0 [.ref 0, .int (iI (zscr e (wr (i + 1)))), .int (iI (zscr e (wr (i + 2)))), .retAddr 0] [] m = ri v m1 := Z_up (by decide) h1
  have u2 : Z e 199 279 0 [.ref 246, .int (iI (zscr e (wr (i + 1)))), .int (iI (zscr e (wr (i + 2)))), .retAddr 0] [] m1 = ri v m2 := Z_up (by decide) h2
  refine ⟨m2, h3, ?_⟩
  refine (s_al_1 p_0_1370).trans <| (s_al_0 p_0_1371).trans <| (s_il_3 p_0_1372).trans <| (s_const p_0_1373).trans <| (s_iadd p_0_1374).trans <| ((s_scr p_0_1375).trans (ck_t (hx 1 (by decide) (by decide)))).trans <| (s_al_0 p_0_1376).trans <| (s_il_3 p_0_1377).trans <| (s_const p_0_1378).trans <| (s_iadd p_0_1379).trans <| ((s_scr p_0_1380).trans (ck_t (hx 2 (by decide) (by decide)))).trans <| (s_cv2 (Lc := [.ref 0, .int (iI (zscr e (wr (i + 1)))), .int (iI (zscr e (wr (i + 2)))), .retAddr 0]) p_0_1381 (by decide) (by decide) (zM_of zq_169) ⟨Nat.le_of_ble_eq_true rfl, Nat.le_of_ble_eq_true rfl⟩ rfl (m_rc hs_0 ⟨rfl, by decide⟩)).trans ?_
  rw [u1, ri_k]
  refine (s_al_2 p_0_1384).trans <| (s_al_0 p_0_1385).trans <| (s_il_3 p_0_1386).trans <| (s_const p_0_1387).trans <| (s_iadd p_0_1388).trans <| ((s_scr p_0_1389).trans (ck_t (hx 1 (by decide) (by decide)))).trans <| (s_al_0 p_0_1390).trans <| (s_il_3 p_0_1391).trans <| (s_const p_0_1392).trans <| (s_iadd p_0_1393).trans <| ((s_scr p_0_1394).trans (ck_t (hx 2 (by decide) (by decide)))).trans <| (s_cv2 (Lc := [.ref 246, .int (iI (zscr e (wr (i + 1)))), .int (iI (zscr e (wr (i + 2)))), .retAddr 0]) p_0_1395 (by decide) (by decide) (zM_of zq_279) ⟨Nat.le_of_ble_eq_true rfl, Nat.le_of_ble_eq_true rfl⟩ rfl (m_rc hs_246 ⟨rfl, by decide⟩)).trans ?_
  rw [u2, ri_k]
  exact (s_c_eq_t p_0_1398 rfl rfl rfl).trans (if_pos rfl)
theorem lw_31 {i : Int} (hI : Inv m) (hv : e.2 = .null ∨ e.2 = .ref 10301) (hx : ∀ k : Int, 0 ≤ k → k ≤ 6 → 0 ≤ wr (i + k) ∧ wr (i + k) < e.1.length) : ∃ m2, Inv m2 ∧ Z e 200 0 1403 [.ref 10303, .ref 0, .ref 246, .int (iI i)] [] m = Z e 200 0 2145 [.ref 10303, .ref 0, .ref 246, .int (iI i)] [] m2 := by
  obtain ⟨v, m1, m2, h1, h2, h3⟩ := call_run (e := e) (d := 0) hI wr_toInt wr_toInt wr_toInt wr_toInt
  have u1 : Z e 199 170 0 [.ref 0, .int (iI (zscr e (wr (i + 1)))), .int (iI (zscr e (wr (i + 2)))), .int (iI (zscr e (wr (i + 3)))), .int (iI (zscr e (wr (i + 4))))] [] m = ri v m1 := Z_up (by decide) h1
  have u2 : Z e 199 285 0 [.ref 246, .int (iI (zscr e (wr (i + 1)))), .int (iI (zscr e (wr (i + 2)))), .int (iI (zscr e (wr (i + 3)))), .int (iI (zscr e (wr (i + 4)))), .retAddr 0, .retAddr 0, .retAddr 0, .retAddr 0, .retAddr 0, .retAddr 0, .retAddr 0] [] m1 = ri v m2 := Z_up (by decide) h2
  refine ⟨m2, h3, ?_⟩
  refine (s_al_1 p_0_1403).trans <| (s_al_0 p_0_1404).trans <| (s_il_3 p_0_1405).trans <| (s_const p_0_1406).trans <| (s_iadd p_0_1407).trans <| ((s_scr p_0_1408).trans (ck_t (hx 1 (by decide) (by decide)))).trans <| (s_al_0 p_0_1409).trans <| (s_il_3 p_0_1410).trans <| (s_const p_0_1411).trans <| (s_iadd p_0_1412).trans <| ((s_scr p_0_1413).trans (ck_t (hx 2 (by decide) (by decide)))).trans <| (s_al_0 p_0_1414).trans <| (s_il_3 p_0_1415).trans <| (s_const p_0_1416).trans <| (s_iadd p_0_1417).trans <| ((s_scr p_0_1418).trans (ck_t (hx 3 (by decide) (by decide)))).trans <| (s_al_0 p_0_1419).trans <| (s_il_3 p_0_1420).trans <| (s_const p_0_1421).trans <| (s_iadd p_0_1422).trans <| ((s_scr p_0_1423).trans (ck_t (hx 4 (by decide) (by decide)))).trans <| (s_cv4 (Lc := [.ref 0, .int (iI (zscr e (wr (i + 1)))), .int (iI (zscr e (wr (i + 2)))), .int (iI (zscr e (wr (i + 3)))), .int (iI (zscr e (wr (i + 4))))]) p_0_1424 (by decide) (by decide) (zM_of zq_170) ⟨Nat.le_of_ble_eq_true rfl, Nat.le_of_ble_eq_true rfl⟩ rfl (m_rc hs_0 ⟨rfl, by decide⟩)).trans ?_
  rw [u1, ri_k]
  refine (s_al_2 p_0_1427).trans <| (s_al_0 p_0_1428).trans <| (s_il_3 p_0_1429).trans <| (s_const p_0_1430).trans <| (s_iadd p_0_1431).trans <| ((s_scr p_0_1432).trans (ck_t (hx 1 (by decide) (by decide)))).trans <| (s_al_0 p_0_1433).trans <| (s_il_3 p_0_1434).trans <| (s_const p_0_1435).trans <| (s_iadd p_0_1436).trans <| ((s_scr p_0_1437).trans (ck_t (hx 2 (by decide) (by decide)))).trans <| (s_al_0 p_0_1438).trans <| (s_il_3 p_0_1439).trans <| (s_const p_0_1440).trans <| (s_iadd p_0_1441).trans <| ((s_scr p_0_1442).trans (ck_t (hx 3 (by decide) (by decide)))).trans <| (s_al_0 p_0_1443).trans <| (s_il_3 p_0_1444).trans <| (s_const p_0_1445).trans <| (s_iadd p_0_1446).trans <| ((s_scr p_0_1447).trans (ck_t (hx 4 (by decide) (by decide)))).trans <| (s_cv4 (Lc := [.ref 246, .int (iI (zscr e (wr (i + 1)))), .int (iI (zscr e (wr (i + 2)))), .int (iI (zscr e (wr (i + 3)))), .int (iI (zscr e (wr (i + 4)))), .retAddr 0, .retAddr 0, .retAddr 0, .retAddr 0, .retAddr 0, .retAddr 0, .retAddr 0]) p_0_1448 (by decide) (by decide) (zM_of zq_285) ⟨Nat.le_of_ble_eq_true rfl, Nat.le_of_ble_eq_true rfl⟩ rfl (m_rc hs_246 ⟨rfl, by decide⟩)).trans ?_
  rw [u2, ri_k]
  exact (s_c_eq_t p_0_1451 rfl rfl rfl).trans (if_pos rfl)
theorem lw_32 {i : Int} (hI : Inv m) (hv : e.2 = .null ∨ e.2 = .ref 10301) (hx : ∀ k : Int, 0 ≤ k → k ≤ 6 → 0 ≤ wr (i + k) ∧ wr (i + k) < e.1.length) : ∃ m2, Inv m2 ∧ Z e 200 0 1456 [.ref 10303, .ref 0, .ref 246, .int (iI i)] [] m = Z e 200 0 2145 [.ref 10303, .ref 0, .ref 246, .int (iI i)] [] m2 := by
  obtain ⟨v, m1, m2, h1, h2, h3⟩ := call_row (e := e) (d := 0) hI wr_toInt wr_toInt
  have u1 : Z e 199 171 0 [.ref 0, .int (iI (zscr e (wr (i + 1)))), .int (iI (zscr e (wr (i + 2))))] [] m = ri v m1 := Z_up (by decide) h1
  have u2 : Z e 199 287 0 [.ref 246, .int (iI (zscr e (wr (i + 1)))), .int (iI (zscr e (wr (i + 2))))] [] m1 = ri v m2 := Z_up (by decide) h2
  refine ⟨m2, h3, ?_⟩
  refine (s_al_1 p_0_1456).trans <| (s_al_0 p_0_1457).trans <| (s_il_3 p_0_1458).trans <| (s_const p_0_1459).trans <| (s_iadd p_0_1460).trans <| ((s_scr p_0_1461).trans (ck_t (hx 1 (by decide) (by decide)))).trans <| (s_al_0 p_0_1462).trans <| (s_il_3 p_0_1463).trans <| (s_const p_0_1464).trans <| (s_iadd p_0_1465).trans <| ((s_scr p_0_1466).trans (ck_t (hx 2 (by decide) (by decide)))).trans <| (s_cv2 (Lc := [.ref 0, .int (iI (zscr e (wr (i + 1)))), .int (iI (zscr e (wr (i + 2))))]) p_0_1467 (by decide) (by decide) (zM_of zq_171) ⟨Nat.le_of_ble_eq_true rfl, Nat.le_of_ble_eq_true rfl⟩ rfl (m_rc hs_0 ⟨rfl, by decide⟩)).trans ?_
  rw [u1, ri_k]
  refine (s_al_2 p_0_1470).trans <| (s_al_0 p_0_1471).trans <| (s_il_3 p_0_1472).trans <| (s_const p_0_1473).trans <| (s_iadd p_0_1474).trans <| ((s_scr p_0_1475).trans (ck_t (hx 1 (by decide) (by decide)))).trans <| (s_al_0 p_0_1476).trans <| (s_il_3 p_0_1477).trans <| (s_const p_0_1478).trans <| (s_iadd p_0_1479).trans <| ((s_scr p_0_1480).trans (ck_t (hx 2 (by decide) (by decide)))).trans <| (s_cv2 (Lc := [.ref 246, .int (iI (zscr e (wr (i + 1)))), .int (iI (zscr e (wr (i + 2))))]) p_0_1481 (by decide) (by decide) (zM_of zq_287) ⟨Nat.le_of_ble_eq_true rfl, Nat.le_of_ble_eq_true rfl⟩ rfl (m_rc hs_246 ⟨rfl, by decide⟩)).trans ?_
  rw [u2, ri_k]
  exact (s_c_eq_t p_0_1484 rfl rfl rfl).trans (if_pos rfl)
theorem lw_33 {i : Int} (hI : Inv m) (hv : e.2 = .null ∨ e.2 = .ref 10301) (hx : ∀ k : Int, 0 ≤ k → k ≤ 6 → 0 ≤ wr (i + k) ∧ wr (i + k) < e.1.length) : ∃ m2, Inv m2 ∧ Z e 200 0 1489 [.ref 10303, .ref 0, .ref 246, .int (iI i)] [] m = Z e 200 0 2145 [.ref 10303, .ref 0, .ref 246, .int (iI i)] [] m2 := by
  obtain ⟨v, m1, m2, h1, h2, h3⟩ := call_alterRow (e := e) (d := 0) hI wr_toInt wr_toInt wr_toInt
  have u1 : Z e 199 172 0 [.ref 0, .int (iI (zscr e (wr (i + 1)))), .int (iI (zscr e (wr (i + 2)))), .int (iI (zscr e (wr (i + 3)))), .retAddr 0] [] m = ri v m1 := Z_up (by decide) h1
  have u2 : Z e 199 288 0 [.ref 246, .int (iI (zscr e (wr (i + 1)))), .int (iI (zscr e (wr (i + 2)))), .int (iI (zscr e (wr (i + 3)))), .retAddr 0] [] m1 = ri v m2 := Z_up (by decide) h2
  refine ⟨m2, h3, ?_⟩
  refine (s_al_1 p_0_1489).trans <| (s_al_0 p_0_1490).trans <| (s_il_3 p_0_1491).trans <| (s_const p_0_1492).trans <| (s_iadd p_0_1493).trans <| ((s_scr p_0_1494).trans (ck_t (hx 1 (by decide) (by decide)))).trans <| (s_al_0 p_0_1495).trans <| (s_il_3 p_0_1496).trans <| (s_const p_0_1497).trans <| (s_iadd p_0_1498).trans <| ((s_scr p_0_1499).trans (ck_t (hx 2 (by decide) (by decide)))).trans <| (s_al_0 p_0_1500).trans <| (s_il_3 p_0_1501).trans <| (s_const p_0_1502).trans <| (s_iadd p_0_1503).trans <| ((s_scr p_0_1504).trans (ck_t (hx 3 (by decide) (by decide)))).trans <| (s_cv3 (Lc := [.ref 0, .int (iI (zscr e (wr (i + 1)))), .int (iI (zscr e (wr (i + 2)))), .int (iI (zscr e (wr (i + 3)))), .retAddr 0]) p_0_1505 (by decide) (by decide) (zM_of zq_172) ⟨Nat.le_of_ble_eq_true rfl, Nat.le_of_ble_eq_true rfl⟩ rfl (m_rc hs_0 ⟨rfl, by decide⟩)).trans ?_
  rw [u1, ri_k]
  refine (s_al_2 p_0_1508).trans <| (s_al_0 p_0_1509).trans <| (s_il_3 p_0_1510).trans <| (s_const p_0_1511).trans <| (s_iadd p_0_1512).trans <| ((s_scr p_0_1513).trans (ck_t (hx 1 (by decide) (by decide)))).trans <| (s_al_0 p_0_1514).trans <| (s_il_3 p_0_1515).trans <| (s_const p_0_1516).trans <| (s_iadd p_0_1517).trans <| ((s_scr p_0_1518).trans (ck_t (hx 2 (by decide) (by decide)))).trans <| (s_al_0 p_0_1519).trans <| (s_il_3 p_0_1520).trans <| (s_const p_0_1521).trans <| (s_iadd p_0_1522).trans <| ((s_scr p_0_1523).trans (ck_t (hx 3 (by decide) (by decide)))).trans <| (s_cv3 (Lc := [.ref 246, .int (iI (zscr e (wr (i + 1)))), .int (iI (zscr e (wr (i + 2)))), .int (iI (zscr e (wr (i + 3)))), .retAddr 0]) p_0_1524 (by decide) (by decide) (zM_of zq_288) ⟨Nat.le_of_ble_eq_true rfl, Nat.le_of_ble_eq_true rfl⟩ rfl (m_rc hs_246 ⟨rfl, by decide⟩)).trans ?_
  rw [u2, ri_k]
  exact (s_c_eq_t p_0_1527 rfl rfl rfl).trans (if_pos rfl)
theorem lw_34 {i : Int} (hI : Inv m) (hv : e.2 = .null ∨ e.2 = .ref 10301) (hx : ∀ k : Int, 0 ≤ k → k ≤ 6 → 0 ≤ wr (i + k) ∧ wr (i + k) < e.1.length) : ∃ m2, Inv m2 ∧ Z e 200 0 1532 [.ref 10303, .ref 0, .ref 246, .int (iI i)] [] m = Z e 200 0 2145 [.ref 10303, .ref 0, .ref 246, .int (iI i)] [] m2 := by
  obtain ⟨v, m1, m2, h1, h2, h3⟩ := call_dropRow (e := e) (d := 0) hI 
  have u1 : Z e 199 173 0 [.ref 0] [] m = ri v m1 := Z_up (by decide) h1
  have u2 : Z e 199 289 0 [.ref 246] [] m1 = ri v m2 := Z_up (by decide) h2
  refine ⟨m2, h3, ?_⟩
  refine (s_al_1 p_0_1532).trans <| (s_cv0 (Lc := [.ref 0]) p_0_1533 (by decide) (by decide) (zM_of zq_173) ⟨Nat.le_of_ble_eq_true rfl, Nat.le_of_ble_eq_true rfl⟩ rfl (m_rc hs_0 ⟨rfl, by decide⟩)).trans ?_
  rw [u1, ri_k]
  refine (s_al_2 p_0_1536).trans <| (s_cv0 (Lc := [.ref 246]) p_0_1537 (by decide) (by decide) (zM_of zq_289) ⟨Nat.le_of_ble_eq_true rfl, Nat.le_of_ble_eq_true rfl⟩ rfl (m_rc hs_246 ⟨rfl, by decide⟩)).trans ?_
  rw [u2, ri_k]
  exact (s_c_eq_t p_0_1540 rfl rfl rfl).trans (if_pos rfl)
theorem lw_35 {i : Int} (hI : Inv m) (hv : e.2 = .null ∨ e.2 = .ref 10301) (hx : ∀ k : Int, 0 ≤ k → k ≤ 6 → 0 ≤ wr (i + k) ∧ wr (i + k) < e.1.length) : ∃ m2, Inv m2 ∧ Z e 200 0 1545 [.ref 10303, .ref 0, .ref 246, .int (iI i)] [] m = Z e 200 0 2145 [.ref 10303, .ref 0, .ref 246, .int (iI i)] [] m2 := by
  obtain ⟨v, m1, m2, h1, h2, h3⟩ := call_judge (e := e) (d := 0) hI 
  have u1 : Z e 199 174 0 [.ref 0] [] m = ri v m1 := Z_up (by decide) h1
  have u2 : Z e 199 290 0 [.ref 246, .retAddr 0] [] m1 = ri v m2 := Z_up (by decide) h2
  refine ⟨m2, h3, ?_⟩
  refine (s_al_1 p_0_1545).trans <| (s_cv0 (Lc := [.ref 0]) p_0_1546 (by decide) (by decide) (zM_of zq_174) ⟨Nat.le_of_ble_eq_true rfl, Nat.le_of_ble_eq_true rfl⟩ rfl (m_rc hs_0 ⟨rfl, by decide⟩)).trans ?_
  rw [u1, ri_k]
  refine (s_al_2 p_0_1549).trans <| (s_cv0 (Lc := [.ref 246, .retAddr 0]) p_0_1550 (by decide) (by decide) (zM_of zq_290) ⟨Nat.le_of_ble_eq_true rfl, Nat.le_of_ble_eq_true rfl⟩ rfl (m_rc hs_246 ⟨rfl, by decide⟩)).trans ?_
  rw [u2, ri_k]
  exact (s_c_eq_t p_0_1553 rfl rfl rfl).trans (if_pos rfl)
theorem lw_36 {i : Int} (hI : Inv m) (hv : e.2 = .null ∨ e.2 = .ref 10301) (hx : ∀ k : Int, 0 ≤ k → k ≤ 6 → 0 ≤ wr (i + k) ∧ wr (i + k) < e.1.length) : ∃ m2, Inv m2 ∧ Z e 200 0 1558 [.ref 10303, .ref 0, .ref 246, .int (iI i)] [] m = Z e 200 0 2145 [.ref 10303, .ref 0, .ref 246, .int (iI i)] [] m2 := by
  obtain ⟨v, m1, m2, h1, h2, h3⟩ := call_gap (e := e) (d := 0) hI wr_toInt
  have u1 : Z e 199 175 0 [.ref 0, .int (iI (zscr e (wr (i + 1))))] [] m = ri v m1 := Z_up (by decide) h1
  have u2 : Z e 199 291 0 [.ref 246, .int (iI (zscr e (wr (i + 1)))), .retAddr 0, .retAddr 0, .retAddr 0] [] m1 = ri v m2 := Z_up (by decide) h2
  refine ⟨m2, h3, ?_⟩
  refine (s_al_1 p_0_1558).trans <| (s_al_0 p_0_1559).trans <| (s_il_3 p_0_1560).trans <| (s_const p_0_1561).trans <| (s_iadd p_0_1562).trans <| ((s_scr p_0_1563).trans (ck_t (hx 1 (by decide) (by decide)))).trans <| (s_cv1 (Lc := [.ref 0, .int (iI (zscr e (wr (i + 1))))]) p_0_1564 (by decide) (by decide) (zM_of zq_175) ⟨Nat.le_of_ble_eq_true rfl, Nat.le_of_ble_eq_true rfl⟩ rfl (m_rc hs_0 ⟨rfl, by decide⟩)).trans ?_
  rw [u1, ri_k]
  refine (s_al_2 p_0_1567).trans <| (s_al_0 p_0_1568).trans <| (s_il_3 p_0_1569).trans <| (s_const p_0_1570).trans <| (s_iadd p_0_1571).trans <| ((s_scr p_0_1572).trans (ck_t (hx 1 (by decide) (by decide)))).trans <| (s_cv1 (Lc := [.ref 246, .int (iI (zscr e (wr (i + 1)))), .retAddr 0, .retAddr 0, .retAddr 0]) p_0_1573 (by decide) (by decide) (zM_of zq_291) ⟨Nat.le_of_ble_eq_true rfl, Nat.le_of_ble_eq_true rfl⟩ rfl (m_rc hs_246 ⟨rfl, by decide⟩)).trans ?_
  rw [u2, ri_k]
  exact (s_c_eq_t p_0_1576 rfl rfl rfl).trans (if_pos rfl)
theorem lw_37 {i : Int} (hI : Inv m) (hv : e.2 = .null ∨ e.2 = .ref 10301) (hx : ∀ k : Int, 0 ≤ k → k ≤ 6 → 0 ≤ wr (i + k) ∧ wr (i + k) < e.1.length) : ∃ m2, Inv m2 ∧ Z e 200 0 1581 [.ref 10303, .ref 0, .ref 246, .int (iI i)] [] m = Z e 200 0 2145 [.ref 10303, .ref 0, .ref 246, .int (iI i)] [] m2 := by
  obtain ⟨v, m1, m2, h1, h2, h3⟩ := call_watch (e := e) (d := 0) hI 
  have u1 : Z e 199 176 0 [.ref 0] [] m = ri v m1 := Z_up (by decide) h1
  have u2 : Z e 199 292 0 [.ref 246, .retAddr 0, .retAddr 0, .retAddr 0, .retAddr 0, .retAddr 0] [] m1 = ri v m2 := Z_up (by decide) h2
  refine ⟨m2, h3, ?_⟩
  refine (s_al_1 p_0_1581).trans <| (s_cv0 (Lc := [.ref 0]) p_0_1582 (by decide) (by decide) (zM_of zq_176) ⟨Nat.le_of_ble_eq_true rfl, Nat.le_of_ble_eq_true rfl⟩ rfl (m_rc hs_0 ⟨rfl, by decide⟩)).trans ?_
  rw [u1, ri_k]
  refine (s_al_2 p_0_1585).trans <| (s_cv0 (Lc := [.ref 246, .retAddr 0, .retAddr 0, .retAddr 0, .retAddr 0, .retAddr 0]) p_0_1586 (by decide) (by decide) (zM_of zq_292) ⟨Nat.le_of_ble_eq_true rfl, Nat.le_of_ble_eq_true rfl⟩ rfl (m_rc hs_246 ⟨rfl, by decide⟩)).trans ?_
  rw [u2, ri_k]
  exact (s_c_eq_t p_0_1589 rfl rfl rfl).trans (if_pos rfl)
theorem lw_38 {i : Int} (hI : Inv m) (hv : e.2 = .null ∨ e.2 = .ref 10301) (hx : ∀ k : Int, 0 ≤ k → k ≤ 6 → 0 ≤ wr (i + k) ∧ wr (i + k) < e.1.length) : ∃ m2, Inv m2 ∧ Z e 200 0 1594 [.ref 10303, .ref 0, .ref 246, .int (iI i)] [] m = Z e 200 0 2145 [.ref 10303, .ref 0, .ref 246, .int (iI i)] [] m2 := by
  obtain ⟨v, m1, m2, h1, h2, h3⟩ := call_bell (e := e) (d := 0) hI wr_toInt wr_toInt
  have u1 : Z e 199 177 0 [.ref 0, .int (iI (zscr e (wr (i + 1)))), .int (iI (zscr e (wr (i + 2))))] [] m = ri v m1 := Z_up (by decide) h1
  have u2 : Z e 199 293 0 [.ref 246, .int (iI (zscr e (wr (i + 1)))), .int (iI (zscr e (wr (i + 2)))), .retAddr 0, .retAddr 0] [] m1 = ri v m2 := Z_up (by decide) h2
  refine ⟨m2, h3, ?_⟩
  refine (s_al_1 p_0_1594).trans <| (s_al_0 p_0_1595).trans <| (s_il_3 p_0_1596).trans <| (s_const p_0_1597).trans <| (s_iadd p_0_1598).trans <| ((s_scr p_0_1599).trans (ck_t (hx 1 (by decide) (by decide)))).trans <| (s_al_0 p_0_1600).trans <| (s_il_3 p_0_1601).trans <| (s_const p_0_1602).trans <| (s_iadd p_0_1603).trans <| ((s_scr p_0_1604).trans (ck_t (hx 2 (by decide) (by decide)))).trans <| (s_cv2 (Lc := [.ref 0, .int (iI (zscr e (wr (i + 1)))), .int (iI (zscr e (wr (i + 2))))]) p_0_1605 (by decide) (by decide) (zM_of zq_177) ⟨Nat.le_of_ble_eq_true rfl, Nat.le_of_ble_eq_true rfl⟩ rfl (m_rc hs_0 ⟨rfl, by decide⟩)).trans ?_
  rw [u1, ri_k]
  refine (s_al_2 p_0_1608).trans <| (s_al_0 p_0_1609).trans <| (s_il_3 p_0_1610).trans <| (s_const p_0_1611).trans <| (s_iadd p_0_1612).trans <| ((s_scr p_0_1613).trans (ck_t (hx 1 (by decide) (by decide)))).trans <| (s_al_0 p_0_1614).trans <| (s_il_3 p_0_1615).trans <| (s_const p_0_1616).trans <| (s_iadd p_0_1617).trans <| ((s_scr p_0_1618).trans (ck_t (hx 2 (by decide) (by decide)))).trans <| (s_cv2 (Lc := [.ref 246, .int (iI (zscr e (wr (i + 1)))), .int (iI (zscr e (wr (i + 2)))), .retAddr 0, .retAddr 0]) p_0_1619 (by decide) (by decide) (zM_of zq_293) ⟨Nat.le_of_ble_eq_true rfl, Nat.le_of_ble_eq_true rfl⟩ rfl (m_rc hs_246 ⟨rfl, by decide⟩)).trans ?_
  rw [u2, ri_k]
  exact (s_c_eq_t p_0_1622 rfl rfl rfl).trans (if_pos rfl)
theorem lw_39 {i : Int} (hI : Inv m) (hv : e.2 = .null ∨ e.2 = .ref 10301) (hx : ∀ k : Int, 0 ≤ k → k ≤ 6 → 0 ≤ wr (i + k) ∧ wr (i + k) < e.1.length) : ∃ m2, Inv m2 ∧ Z e 200 0 1627 [.ref 10303, .ref 0, .ref 246, .int (iI i)] [] m = Z e 200 0 2145 [.ref 10303, .ref 0, .ref 246, .int (iI i)] [] m2 := by
  obtain ⟨v, m1, m2, h1, h2, h3⟩ := call_heard (e := e) (d := 0) hI wr_toInt wr_toInt
  have u1 : Z e 199 178 0 [.ref 0, .int (iI (zscr e (wr (i + 1)))), .int (iI (zscr e (wr (i + 2))))] [] m = ri v m1 := Z_up (by decide) h1
  have u2 : Z e 199 294 0 [.ref 246, .int (iI (zscr e (wr (i + 1)))), .int (iI (zscr e (wr (i + 2))))] [] m1 = ri v m2 := Z_up (by decide) h2
  refine ⟨m2, h3, ?_⟩
  refine (s_al_1 p_0_1627).trans <| (s_al_0 p_0_1628).trans <| (s_il_3 p_0_1629).trans <| (s_const p_0_1630).trans <| (s_iadd p_0_1631).trans <| ((s_scr p_0_1632).trans (ck_t (hx 1 (by decide) (by decide)))).trans <| (s_al_0 p_0_1633).trans <| (s_il_3 p_0_1634).trans <| (s_const p_0_1635).trans <| (s_iadd p_0_1636).trans <| ((s_scr p_0_1637).trans (ck_t (hx 2 (by decide) (by decide)))).trans <| (s_cv2 (Lc := [.ref 0, .int (iI (zscr e (wr (i + 1)))), .int (iI (zscr e (wr (i + 2))))]) p_0_1638 (by decide) (by decide) (zM_of zq_178) ⟨Nat.le_of_ble_eq_true rfl, Nat.le_of_ble_eq_true rfl⟩ rfl (m_rc hs_0 ⟨rfl, by decide⟩)).trans ?_
  rw [u1, ri_k]
  refine (s_al_2 p_0_1641).trans <| (s_al_0 p_0_1642).trans <| (s_il_3 p_0_1643).trans <| (s_const p_0_1644).trans <| (s_iadd p_0_1645).trans <| ((s_scr p_0_1646).trans (ck_t (hx 1 (by decide) (by decide)))).trans <| (s_al_0 p_0_1647).trans <| (s_il_3 p_0_1648).trans <| (s_const p_0_1649).trans <| (s_iadd p_0_1650).trans <| ((s_scr p_0_1651).trans (ck_t (hx 2 (by decide) (by decide)))).trans <| (s_cv2 (Lc := [.ref 246, .int (iI (zscr e (wr (i + 1)))), .int (iI (zscr e (wr (i + 2))))]) p_0_1652 (by decide) (by decide) (zM_of zq_294) ⟨Nat.le_of_ble_eq_true rfl, Nat.le_of_ble_eq_true rfl⟩ rfl (m_rc hs_246 ⟨rfl, by decide⟩)).trans ?_
  rw [u2, ri_k]
  exact (s_c_eq_t p_0_1655 rfl rfl rfl).trans (if_pos rfl)
theorem lw_40 {i : Int} (hI : Inv m) (hv : e.2 = .null ∨ e.2 = .ref 10301) (hx : ∀ k : Int, 0 ≤ k → k ≤ 6 → 0 ≤ wr (i + k) ∧ wr (i + k) < e.1.length) : ∃ m2, Inv m2 ∧ Z e 200 0 1660 [.ref 10303, .ref 0, .ref 246, .int (iI i)] [] m = Z e 200 0 2145 [.ref 10303, .ref 0, .ref 246, .int (iI i)] [] m2 := by
  obtain ⟨v, m1, m2, h1, h2, h3⟩ := call_sight (e := e) (d := 0) hI wr_toInt wr_toInt wr_toInt
  have u1 : Z e 199 179 0 [.ref 0, .int (iI (zscr e (wr (i + 1)))), .int (iI (zscr e (wr (i + 2)))), .int (iI (zscr e (wr (i + 3)))), .retAddr 0] [] m = ri v m1 := Z_up (by decide) h1
  have u2 : Z e 199 295 0 [.ref 246, .int (iI (zscr e (wr (i + 1)))), .int (iI (zscr e (wr (i + 2)))), .int (iI (zscr e (wr (i + 3)))), .retAddr 0] [] m1 = ri v m2 := Z_up (by decide) h2
  refine ⟨m2, h3, ?_⟩
  refine (s_al_1 p_0_1660).trans <| (s_al_0 p_0_1661).trans <| (s_il_3 p_0_1662).trans <| (s_const p_0_1663).trans <| (s_iadd p_0_1664).trans <| ((s_scr p_0_1665).trans (ck_t (hx 1 (by decide) (by decide)))).trans <| (s_al_0 p_0_1666).trans <| (s_il_3 p_0_1667).trans <| (s_const p_0_1668).trans <| (s_iadd p_0_1669).trans <| ((s_scr p_0_1670).trans (ck_t (hx 2 (by decide) (by decide)))).trans <| (s_al_0 p_0_1671).trans <| (s_il_3 p_0_1672).trans <| (s_const p_0_1673).trans <| (s_iadd p_0_1674).trans <| ((s_scr p_0_1675).trans (ck_t (hx 3 (by decide) (by decide)))).trans <| (s_cv3 (Lc := [.ref 0, .int (iI (zscr e (wr (i + 1)))), .int (iI (zscr e (wr (i + 2)))), .int (iI (zscr e (wr (i + 3)))), .retAddr 0]) p_0_1676 (by decide) (by decide) (zM_of zq_179) ⟨Nat.le_of_ble_eq_true rfl, Nat.le_of_ble_eq_true rfl⟩ rfl (m_rc hs_0 ⟨rfl, by decide⟩)).trans ?_
  rw [u1, ri_k]
  refine (s_al_2 p_0_1679).trans <| (s_al_0 p_0_1680).trans <| (s_il_3 p_0_1681).trans <| (s_const p_0_1682).trans <| (s_iadd p_0_1683).trans <| ((s_scr p_0_1684).trans (ck_t (hx 1 (by decide) (by decide)))).trans <| (s_al_0 p_0_1685).trans <| (s_il_3 p_0_1686).trans <| (s_const p_0_1687).trans <| (s_iadd p_0_1688).trans <| ((s_scr p_0_1689).trans (ck_t (hx 2 (by decide) (by decide)))).trans <| (s_al_0 p_0_1690).trans <| (s_il_3 p_0_1691).trans <| (s_const p_0_1692).trans <| (s_iadd p_0_1693).trans <| ((s_scr p_0_1694).trans (ck_t (hx 3 (by decide) (by decide)))).trans <| (s_cv3 (Lc := [.ref 246, .int (iI (zscr e (wr (i + 1)))), .int (iI (zscr e (wr (i + 2)))), .int (iI (zscr e (wr (i + 3)))), .retAddr 0]) p_0_1695 (by decide) (by decide) (zM_of zq_295) ⟨Nat.le_of_ble_eq_true rfl, Nat.le_of_ble_eq_true rfl⟩ rfl (m_rc hs_246 ⟨rfl, by decide⟩)).trans ?_
  rw [u2, ri_k]
  exact (s_c_eq_t p_0_1698 rfl rfl rfl).trans (if_pos rfl)
theorem lw_41 {i : Int} (hI : Inv m) (hv : e.2 = .null ∨ e.2 = .ref 10301) (hx : ∀ k : Int, 0 ≤ k → k ≤ 6 → 0 ≤ wr (i + k) ∧ wr (i + k) < e.1.length) : ∃ m2, Inv m2 ∧ Z e 200 0 1703 [.ref 10303, .ref 0, .ref 246, .int (iI i)] [] m = Z e 200 0 2145 [.ref 10303, .ref 0, .ref 246, .int (iI i)] [] m2 := by
  obtain ⟨v, m1, m2, h1, h2, h3⟩ := call_who (e := e) (d := 0) hI wr_toInt
  have u1 : Z e 199 180 0 [.ref 0, .int (iI (zscr e (wr (i + 1))))] [] m = ri v m1 := Z_up (by decide) h1
  have u2 : Z e 199 296 0 [.ref 246, .int (iI (zscr e (wr (i + 1)))), .retAddr 0, .retAddr 0, .retAddr 0, .retAddr 0, .retAddr 0, .retAddr 0, .retAddr 0] [] m1 = ri v m2 := Z_up (by decide) h2
  refine ⟨m2, h3, ?_⟩
  refine (s_al_1 p_0_1703).trans <| (s_al_0 p_0_1704).trans <| (s_il_3 p_0_1705).trans <| (s_const p_0_1706).trans <| (s_iadd p_0_1707).trans <| ((s_scr p_0_1708).trans (ck_t (hx 1 (by decide) (by decide)))).trans <| (s_cv1 (Lc := [.ref 0, .int (iI (zscr e (wr (i + 1))))]) p_0_1709 (by decide) (by decide) (zM_of zq_180) ⟨Nat.le_of_ble_eq_true rfl, Nat.le_of_ble_eq_true rfl⟩ rfl (m_rc hs_0 ⟨rfl, by decide⟩)).trans ?_
  rw [u1, ri_k]
  refine (s_al_2 p_0_1712).trans <| (s_al_0 p_0_1713).trans <| (s_il_3 p_0_1714).trans <| (s_const p_0_1715).trans <| (s_iadd p_0_1716).trans <| ((s_scr p_0_1717).trans (ck_t (hx 1 (by decide) (by decide)))).trans <| (s_cv1 (Lc := [.ref 246, .int (iI (zscr e (wr (i + 1)))), .retAddr 0, .retAddr 0, .retAddr 0, .retAddr 0, .retAddr 0, .retAddr 0, .retAddr 0]) p_0_1718 (by decide) (by decide) (zM_of zq_296) ⟨Nat.le_of_ble_eq_true rfl, Nat.le_of_ble_eq_true rfl⟩ rfl (m_rc hs_246 ⟨rfl, by decide⟩)).trans ?_
  rw [u2, ri_k]
  exact (s_c_eq_t p_0_1721 rfl rfl rfl).trans (if_pos rfl)
end LW
