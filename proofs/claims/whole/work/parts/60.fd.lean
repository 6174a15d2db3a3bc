def bv_15 : List Nat := [6007, 7001, 7002, 7003, 7004, 8001, 8002, 8003, 8004, 8005, 8006, 8007, 9001, 9002, 9003]
set_option maxRecDepth 100000 in
theorem bvw_15 : bi_2 bv_15 [[1325, 119], [1270, 117], [627, 117], [1289, 117], [1295, 117], [1194, 118], [1190, 118], [1199, 118], [1204, 118], [1208, 118], [1212, 118], [1216, 118], [956, 115], [619, 115], [519, 115]] bb_mv = true := by decide +kernel
def bv_16 : List Nat := [9004, 9005, 9006, 9007, 9008, 9009, 9010, 9011, 9012, 9013, 9014, 9015, 9016, 9017, 9018, 9019, 9020, 9021]
set_option maxRecDepth 100000 in
theorem bvw_16 : bi_2 bv_16 [[607, 115], [1024, 115], [580, 115], [540, 115], [983, 115], [979, 115], [975, 115], [971, 115], [1036, 115], [1054, 115], [988, 115], [1162, 115], [1178, 115], [1227, 115], [572, 115], [1340, 115], [524, 115], [528, 115]] bb_mv = true := by decide +kernel
def bv_17 : List Nat := [9022, 9023, 9024, 9025, 9026, 9027, 9028, 10001, 10002, 10003, 10004]
set_option maxRecDepth 100000 in
theorem bvw_17 : bi_2 bv_17 [[532, 115], [536, 115], [550, 115], [558, 115], [576, 115], [587, 115], [595, 115], [492, 111], [640, 111], [500, 111], [967, 111]] bb_mv = true := by decide +kernel
def bv_18 : List Nat := [10005, 10006, 10007, 10008, 10009, 10010, 10011, 10012, 10013, 10014, 10015, 10016, 10017, 10018, 10019]
set_option maxRecDepth 100000 in
theorem bvw_18 : bi_2 bv_18 [[1015, 111], [1044, 111], [504, 111], [1068, 111], [1075, 111], [1082, 111], [1089, 111], [1097, 111], [599, 111], [1104, 111], [1124, 111], [1131, 111], [1140, 111], [1151, 111], [1158, 111]] bb_mv = true := by decide +kernel
def bv_19 : List Nat := [10020, 10021, 10022, 10023, 10024, 10025, 10026, 10027, 10028, 10029, 10030, 10031, 10032, 10033, 10034]
set_option maxRecDepth 100000 in
theorem bvw_19 : bi_2 bv_19 [[1169, 111], [1186, 111], [1223, 111], [1235, 111], [1243, 111], [1250, 111], [1266, 111], [611, 111], [1277, 111], [1312, 111], [1332, 111], [1347, 111], [1364, 111], [1381, 111], [1388, 111]] bb_mv = true := by decide +kernel
def bv_20 : List Nat := [10035, 10036, 10037, 10038, 10039, 10040, 10041, 10042, 10043, 10044, 10045, 10046, 10047, 10048, 10049, 10050, 10051, 10052, 10053, 10054, 10055]
set_option maxRecDepth 100000 in
theorem bvw_20 : bi_2 bv_20 [[1395, 111], [1404, 111], [1411, 111], [1418, 111], [1425, 111], [1432, 111], [615, 111], [632, 111], [496, 111], [508, 111], [1019, 111], [1048, 111], [1173, 111], [1107, 111], [1111, 111], [583, 111], [568, 111], [1116, 111], [1144, 111], [1336, 111], [1352, 111]] bb_mv = true := by decide +kernel
def bv_21 : List Nat := [10056, 10057, 12000, 12001, 12002, 12003, 12004, 12005, 12006, 12007, 12008, 12009, 12010, 12011, 12012, 12013, 12014, 12015, 12016, 12017, 12018, 12019, 12020, 12021, 12022, 12023, 12024, 12025]
set_option maxRecDepth 100000 in
theorem bvw_21 : bi_2 bv_21 [[1356, 111], [1368, 111], [635, 110], [962, 110], [1011, 110], [1040, 110], [1064, 110], [1071, 110], [1078, 110], [1085, 110], [1093, 110], [1100, 110], [1120, 110], [1127, 110], [1136, 110], [1147, 110], [1154, 110], [1165, 110], [1182, 110], [1219, 110], [1231, 110], [1239, 110], [1246, 110], [1262, 110], [1273, 110], [1308, 110], [1328, 110], [1343, 110]] bb_mv = true := by decide +kernel
def bv_22 : List Nat := [12026, 12027, 12028, 12029, 12030, 12031, 12032, 12033, 12034, 13000, 14000, 21017, 21018, 21019, 21020, 21021, 21022, 22017]
set_option maxRecDepth 100000 in
theorem bvw_22 : bi_2 bv_22 [[1360, 110], [1377, 110], [1384, 110], [1391, 110], [1400, 110], [1407, 110], [1414, 110], [1421, 110], [1428, 110], [1057, 135], [959, 133], [895, 114], [903, 114], [907, 114], [912, 114], [916, 114], [920, 114], [895, 114]] bb_mv = true := by decide +kernel
def bv_23 : List Nat := [22018, 22019, 22020, 22021, 22022, 23017, 23018, 23019, 23020, 23021, 23022]
set_option maxRecDepth 100000 in
theorem bvw_23 : bi_2 bv_23 [[903, 114], [907, 114], [912, 114], [916, 114], [920, 114], [895, 114], [903, 114], [907, 114], [912, 114], [916, 114], [920, 114]] bb_mv = true := by decide +kernel
def bv_24 : List Nat := [24017, 24018, 24019, 24020, 24021, 24022, 25017, 25018, 25019, 25020, 25021]
set_option maxRecDepth 100000 in
theorem bvw_24 : bi_2 bv_24 [[895, 114], [903, 114], [907, 114], [912, 114], [916, 114], [920, 114], [895, 114], [903, 114], [907, 114], [912, 114], [916, 114]] bb_mv = true := by decide +kernel
def bv_25 : List Nat := [25022, 26017, 26018, 26019, 26020, 26021, 26022]
set_option maxRecDepth 100000 in
theorem bvw_25 : bi_2 bv_25 [[920, 114], [895, 114], [903, 114], [907, 114], [912, 114], [916, 114], [920, 114]] bb_mv = true := by decide +kernel
def bb_vl : List Nat := bv_0 ++ (bv_1 ++ (bv_2 ++ (bv_3 ++ (bv_4 ++ (bv_5 ++ (bv_6 ++ (bv_7 ++ (bv_8 ++ (bv_9 ++ (bv_10 ++ (bv_11 ++ (bv_12 ++ (bv_13 ++ (bv_14 ++ (bv_15 ++ (bv_16 ++ (bv_17 ++ (bv_18 ++ (bv_19 ++ (bv_20 ++ (bv_21 ++ (bv_22 ++ (bv_23 ++ (bv_24 ++ (bv_25)))))))))))))))))))))))))
theorem bb_MV : ∀ y ∈ bb_vl, en_MV bb_G bb_P bb_ML bb_T bb_own bb_yN bb_CD bb_hh bb_fr bb_lo y := by
  intro y hy
  unfold bb_vl at hy
  simp only [List.mem_append] at hy
  rcases hy with hy | hy | hy | hy | hy | hy | hy | hy | hy | hy | hy | hy | hy | hy | hy | hy | hy | hy | hy | hy | hy | hy | hy | hy | hy | hy
  · obtain ⟨i, hi⟩ := bi_2s bvw_0 y hy; exact bb_mv_ok hi
  · obtain ⟨i, hi⟩ := bi_2s bvw_1 y hy; exact bb_mv_ok hi
  · obtain ⟨i, hi⟩ := bi_2s bvw_2 y hy; exact bb_mv_ok hi
  · obtain ⟨i, hi⟩ := bi_2s bvw_3 y hy; exact bb_mv_ok hi
  · obtain ⟨i, hi⟩ := bi_2s bvw_4 y hy; exact bb_mv_ok hi
  · obtain ⟨i, hi⟩ := bi_2s bvw_5 y hy; exact bb_mv_ok hi
  · obtain ⟨i, hi⟩ := bi_2s bvw_6 y hy; exact bb_mv_ok hi
  · obtain ⟨i, hi⟩ := bi_2s bvw_7 y hy; exact bb_mv_ok hi
  · obtain ⟨i, hi⟩ := bi_2s bvw_8 y hy; exact bb_mv_ok hi
  · obtain ⟨i, hi⟩ := bi_2s bvw_9 y hy; exact bb_mv_ok hi
  · obtain ⟨i, hi⟩ := bi_2s bvw_10 y hy; exact bb_mv_ok hi
  · obtain ⟨i, hi⟩ := bi_2s bvw_11 y hy; exact bb_mv_ok hi
  · obtain ⟨i, hi⟩ := bi_2s bvw_12 y hy; exact bb_mv_ok hi
  · obtain ⟨i, hi⟩ := bi_2s bvw_13 y hy; exact bb_mv_ok hi
  · obtain ⟨i, hi⟩ := bi_2s bvw_14 y hy; exact bb_mv_ok hi
  · obtain ⟨i, hi⟩ := bi_2s bvw_15 y hy; exact bb_mv_ok hi
  · obtain ⟨i, hi⟩ := bi_2s bvw_16 y hy; exact bb_mv_ok hi
  · obtain ⟨i, hi⟩ := bi_2s bvw_17 y hy; exact bb_mv_ok hi
  · obtain ⟨i, hi⟩ := bi_2s bvw_18 y hy; exact bb_mv_ok hi
  · obtain ⟨i, hi⟩ := bi_2s bvw_19 y hy; exact bb_mv_ok hi
  · obtain ⟨i, hi⟩ := bi_2s bvw_20 y hy; exact bb_mv_ok hi
  · obtain ⟨i, hi⟩ := bi_2s bvw_21 y hy; exact bb_mv_ok hi
  · obtain ⟨i, hi⟩ := bi_2s bvw_22 y hy; exact bb_mv_ok hi
  · obtain ⟨i, hi⟩ := bi_2s bvw_23 y hy; exact bb_mv_ok hi
  · obtain ⟨i, hi⟩ := bi_2s bvw_24 y hy; exact bb_mv_ok hi
  · obtain ⟨i, hi⟩ := bi_2s bvw_25 y hy; exact bb_mv_ok hi
