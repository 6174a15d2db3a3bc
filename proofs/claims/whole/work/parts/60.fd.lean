def bv_15 : List Nat := [6008, 7001, 7002, 7003, 7004, 8001, 8002, 8003, 8004, 8005, 8006, 8007, 9001, 9002, 9003]
set_option maxRecDepth 100000 in
theorem bvw_15 : bi_2 bv_15 [[1336, 120], [1281, 118], [628, 118], [1300, 118], [1306, 118], [1204, 119], [1200, 119], [1209, 119], [1214, 119], [1218, 119], [1222, 119], [1226, 119], [957, 116], [620, 116], [520, 116]] bb_mv = true := by decide +kernel
def bv_16 : List Nat := [9004, 9005, 9006, 9007, 9008, 9009, 9010, 9011, 9012, 9013, 9014, 9015, 9016, 9017, 9018, 9019, 9020, 9021]
set_option maxRecDepth 100000 in
theorem bvw_16 : bi_2 bv_16 [[608, 116], [1029, 116], [581, 116], [541, 116], [984, 116], [980, 116], [976, 116], [972, 116], [1041, 116], [1059, 116], [989, 116], [1168, 116], [1188, 116], [1237, 116], [573, 116], [1355, 116], [525, 116], [529, 116]] bb_mv = true := by decide +kernel
def bv_17 : List Nat := [9022, 9023, 9024, 9025, 9026, 9027, 9028, 10001, 10002, 10003, 10004]
set_option maxRecDepth 100000 in
theorem bvw_17 : bi_2 bv_17 [[533, 116], [537, 116], [551, 116], [559, 116], [577, 116], [588, 116], [596, 116], [493, 112], [641, 112], [501, 112], [968, 112]] bb_mv = true := by decide +kernel
def bv_18 : List Nat := [10005, 10006, 10007, 10008, 10009, 10010, 10011, 10012, 10013, 10014, 10015, 10016, 10017, 10018, 10019]
set_option maxRecDepth 100000 in
theorem bvw_18 : bi_2 bv_18 [[1016, 112], [1049, 112], [505, 112], [1074, 112], [1081, 112], [1088, 112], [1095, 112], [1103, 112], [600, 112], [1110, 112], [1130, 112], [1137, 112], [1146, 112], [1157, 112], [1164, 112]] bb_mv = true := by decide +kernel
def bv_19 : List Nat := [10020, 10021, 10022, 10023, 10024, 10025, 10026, 10027, 10028, 10029, 10030, 10031, 10032, 10033, 10034]
set_option maxRecDepth 100000 in
theorem bvw_19 : bi_2 bv_19 [[1175, 112], [1196, 112], [1233, 112], [1245, 112], [1253, 112], [1260, 112], [1277, 112], [612, 112], [1288, 112], [1323, 112], [1347, 112], [1362, 112], [1379, 112], [1396, 112], [1403, 112]] bb_mv = true := by decide +kernel
def bv_20 : List Nat := [10035, 10036, 10037, 10038, 10039, 10040, 10041, 10042, 10043, 10044, 10045, 10046, 10047, 10048, 10049, 10050, 10051, 10052, 10053, 10054, 10055]
set_option maxRecDepth 100000 in
theorem bvw_20 : bi_2 bv_20 [[1410, 112], [1419, 112], [1426, 112], [1433, 112], [1440, 112], [1447, 112], [616, 112], [633, 112], [497, 112], [509, 112], [1020, 112], [1053, 112], [1179, 112], [1113, 112], [1117, 112], [584, 112], [569, 112], [1122, 112], [1150, 112], [1351, 112], [1367, 112]] bb_mv = true := by decide +kernel
def bv_21 : List Nat := [10056, 10057, 12000, 12001, 12002, 12003, 12004, 12005, 12006, 12007, 12008, 12009, 12010, 12011, 12012, 12013, 12014, 12015, 12016, 12017, 12018, 12019, 12020, 12021, 12022, 12023, 12024, 12025]
set_option maxRecDepth 100000 in
theorem bvw_21 : bi_2 bv_21 [[1371, 112], [1383, 112], [636, 111], [963, 111], [1012, 111], [1045, 111], [1070, 111], [1077, 111], [1084, 111], [1091, 111], [1099, 111], [1106, 111], [1126, 111], [1133, 111], [1142, 111], [1153, 111], [1160, 111], [1171, 111], [1192, 111], [1229, 111], [1241, 111], [1249, 111], [1256, 111], [1273, 111], [1284, 111], [1319, 111], [1343, 111], [1358, 111]] bb_mv = true := by decide +kernel
def bv_22 : List Nat := [12026, 12027, 12028, 12029, 12030, 12031, 12032, 12033, 12034, 13000, 14000, 21017, 21018, 21019, 21020, 21021, 21022, 22017]
set_option maxRecDepth 100000 in
theorem bvw_22 : bi_2 bv_22 [[1375, 111], [1392, 111], [1399, 111], [1406, 111], [1415, 111], [1422, 111], [1429, 111], [1436, 111], [1443, 111], [1063, 136], [960, 134], [896, 115], [904, 115], [908, 115], [913, 115], [917, 115], [921, 115], [896, 115]] bb_mv = true := by decide +kernel
def bv_23 : List Nat := [22018, 22019, 22020, 22021, 22022, 23017, 23018, 23019, 23020, 23021, 23022]
set_option maxRecDepth 100000 in
theorem bvw_23 : bi_2 bv_23 [[904, 115], [908, 115], [913, 115], [917, 115], [921, 115], [896, 115], [904, 115], [908, 115], [913, 115], [917, 115], [921, 115]] bb_mv = true := by decide +kernel
def bv_24 : List Nat := [24017, 24018, 24019, 24020, 24021, 24022, 25017, 25018, 25019, 25020, 25021]
set_option maxRecDepth 100000 in
theorem bvw_24 : bi_2 bv_24 [[896, 115], [904, 115], [908, 115], [913, 115], [917, 115], [921, 115], [896, 115], [904, 115], [908, 115], [913, 115], [917, 115]] bb_mv = true := by decide +kernel
def bv_25 : List Nat := [25022, 26017, 26018, 26019, 26020, 26021, 26022]
set_option maxRecDepth 100000 in
theorem bvw_25 : bi_2 bv_25 [[921, 115], [896, 115], [904, 115], [908, 115], [913, 115], [917, 115], [921, 115]] bb_mv = true := by decide +kernel
def bb_vl : List Nat := bv_0 ++ (bv_1 ++ (bv_2 ++ (bv_3 ++ (bv_4 ++ (bv_5 ++ (bv_6 ++ (bv_7 ++ (bv_8 ++ (bv_9 ++ (bv_10 ++ (bv_11 ++ (bv_12 ++ (bv_13 ++ (bv_14 ++ (bv_15 ++ (bv_16 ++ (bv_17 ++ (bv_18 ++ (bv_19 ++ (bv_20 ++ (bv_21 ++ (bv_22 ++ (bv_23 ++ (bv_24 ++ (bv_25)))))))))))))))))))))))))
theorem bb_MV : ∀ y ∈ bb_vl, en_MV bb_G bb_P bb_ML bb_T bb_own bb_yN bb_CD bb_hh bb_fr bb_lo y := by
  intro y hy
  unfold bb_vl at hy
  simp only [List.mem_append] at hy
  rcases hy with hy | hy | hy | hy | hy | hy | hy | hy | hy | hy | hy | hy | hy | hy | hy | hy | hy | hy | hy | hy | hy | hy | hy | hy | hy | hy
  · obtain ⟨i, hi⟩ := bi_2s bvw_0 y hy; exact bb_mv_ok hi
  · obtain ⟨i, hi⟩ := bi_2s bvw_1 y hy; exact bb_mv_ok hi
  · obtain ⟨i, hi⟩ := bi_2s bvw_2 y hy; exact bb_mv_ok hi
  · obtain ⟨i, hi⟩ := bi_2s bvw_3 y hy; exact bb_mv_ok hi
  · obtain ⟨i, hi⟩ := bi_2s bvw_4 y hy; exact bb_mv_ok hi
  · obtain ⟨i, hi⟩ := bi_2s bvw_5 y hy; exact bb_mv_ok hi
  · obtain ⟨i, hi⟩ := bi_2s bvw_6 y hy; exact bb_mv_ok hi
  · obtain ⟨i, hi⟩ := bi_2s bvw_7 y hy; exact bb_mv_ok hi
  · obtain ⟨i, hi⟩ := bi_2s bvw_8 y hy; exact bb_mv_ok hi
  · obtain ⟨i, hi⟩ := bi_2s bvw_9 y hy; exact bb_mv_ok hi
  · obtain ⟨i, hi⟩ := bi_2s bvw_10 y hy; exact bb_mv_ok hi
  · obtain ⟨i, hi⟩ := bi_2s bvw_11 y hy; exact bb_mv_ok hi
  · obtain ⟨i, hi⟩ := bi_2s bvw_12 y hy; exact bb_mv_ok hi
  · obtain ⟨i, hi⟩ := bi_2s bvw_13 y hy; exact bb_mv_ok hi
  · obtain ⟨i, hi⟩ := bi_2s bvw_14 y hy; exact bb_mv_ok hi
  · obtain ⟨i, hi⟩ := bi_2s bvw_15 y hy; exact bb_mv_ok hi
  · obtain ⟨i, hi⟩ := bi_2s bvw_16 y hy; exact bb_mv_ok hi
  · obtain ⟨i, hi⟩ := bi_2s bvw_17 y hy; exact bb_mv_ok hi
  · obtain ⟨i, hi⟩ := bi_2s bvw_18 y hy; exact bb_mv_ok hi
  · obtain ⟨i, hi⟩ := bi_2s bvw_19 y hy; exact bb_mv_ok hi
  · obtain ⟨i, hi⟩ := bi_2s bvw_20 y hy; exact bb_mv_ok hi
  · obtain ⟨i, hi⟩ := bi_2s bvw_21 y hy; exact bb_mv_ok hi
  · obtain ⟨i, hi⟩ := bi_2s bvw_22 y hy; exact bb_mv_ok hi
  · obtain ⟨i, hi⟩ := bi_2s bvw_23 y hy; exact bb_mv_ok hi
  · obtain ⟨i, hi⟩ := bi_2s bvw_24 y hy; exact bb_mv_ok hi
  · obtain ⟨i, hi⟩ := bi_2s bvw_25 y hy; exact bb_mv_ok hi
