theorem gdU {ws : List Cond} (is : List Nat) (h : ws = is.filterMap (fun i => tables_1[i]?)) (hg : ws.all goodWord = true) : ∀ w ∈ ws, w ∈ lw_gd := by
  intro w hw
  have h1 := List.all_eq_true.mp hg w hw
  rw [h] at hw
  obtain ⟨i, -, hi⟩ := List.mem_filterMap.mp hw
  exact gdT i hi h1
theorem xu0 : ∀ w ∈ u_ws RX0 TX0 4, w ∈ lw_gd := gdU [410, 412, 414, 416] (by decide +kernel) (by decide +kernel)
theorem xc0 : xCls 0 RX0 TX0 4 tyX0 := ⟨rfl, rfl, xu0, tyX0_ok, nmX0, by decide, by decide +kernel⟩
theorem xd0 : ∀ j, j < 4 → defaultValue (tyX0 j) = xdef 0 j := by decide +kernel
theorem xu1 : ∀ w ∈ u_ws RX1 TX1 11, w ∈ lw_gd := gdU [104, 106, 108, 110, 112, 114, 116, 118, 120, 122, 124] (by decide +kernel) (by decide +kernel)
theorem xc1 : xCls 1 RX1 TX1 11 tyX1 := ⟨rfl, rfl, xu1, tyX1_ok, nmX1, by decide, by decide +kernel⟩
theorem xd1 : ∀ j, j < 11 → defaultValue (tyX1 j) = xdef 1 j := by decide +kernel
theorem xu2 : ∀ w ∈ u_ws RX2 TX2 9, w ∈ lw_gd := gdU [55, 57, 59, 61, 63, 65, 67, 69, 71] (by decide +kernel) (by decide +kernel)
theorem xc2 : xCls 2 RX2 TX2 9 tyX2 := ⟨rfl, rfl, xu2, tyX2_ok, nmX2, by decide, by decide +kernel⟩
theorem xd2 : ∀ j, j < 9 → defaultValue (tyX2 j) = xdef 2 j := by decide +kernel
theorem xu3 : ∀ w ∈ u_ws RX3 TX3 9, w ∈ lw_gd := gdU [378, 380, 382, 384, 386, 388, 390, 392, 394] (by decide +kernel) (by decide +kernel)
theorem xc3 : xCls 3 RX3 TX3 9 tyX3 := ⟨rfl, rfl, xu3, tyX3_ok, nmX3, by decide, by decide +kernel⟩
theorem xd3 : ∀ j, j < 9 → defaultValue (tyX3 j) = xdef 3 j := by decide +kernel
theorem xu4 : ∀ w ∈ u_ws RX4 TX4 3, w ∈ lw_gd := gdU [238, 240, 242] (by decide +kernel) (by decide +kernel)
theorem xc4 : xCls 4 RX4 TX4 3 tyX4 := ⟨rfl, rfl, xu4, tyX4_ok, nmX4, by decide, by decide +kernel⟩
theorem xd4 : ∀ j, j < 3 → defaultValue (tyX4 j) = xdef 4 j := by decide +kernel
theorem xu5 : ∀ w ∈ u_ws RX5 TX5 8, w ∈ lw_gd := gdU [209, 211, 213, 215, 217, 219, 221, 223] (by decide +kernel) (by decide +kernel)
theorem xc5 : xCls 5 RX5 TX5 8 tyX5 := ⟨rfl, rfl, xu5, tyX5_ok, nmX5, by decide, by decide +kernel⟩
theorem xd5 : ∀ j, j < 8 → defaultValue (tyX5 j) = xdef 5 j := by decide +kernel
theorem xu6 : ∀ w ∈ u_ws RX6 TX6 14, w ∈ lw_gd := gdU [164, 166, 168, 170, 172, 174, 176, 178, 180, 182, 184, 186, 188, 190] (by decide +kernel) (by decide +kernel)
theorem xc6 : xCls 6 RX6 TX6 14 tyX6 := ⟨rfl, rfl, xu6, tyX6_ok, nmX6, by decide, by decide +kernel⟩
theorem xd6 : ∀ j, j < 14 → defaultValue (tyX6 j) = xdef 6 j := by decide +kernel
theorem xu7 : ∀ w ∈ u_ws RX7 TX7 11, w ∈ lw_gd := gdU [272, 274, 276, 278, 280, 282, 284, 286, 288, 290, 292] (by decide +kernel) (by decide +kernel)
theorem xc7 : xCls 7 RX7 TX7 11 tyX7 := ⟨rfl, rfl, xu7, tyX7_ok, nmX7, by decide, by decide +kernel⟩
theorem xd7 : ∀ j, j < 11 → defaultValue (tyX7 j) = xdef 7 j := by decide +kernel
theorem xu8 : ∀ w ∈ u_ws RX8 TX8 7, w ∈ lw_gd := gdU [343, 345, 347, 349, 351, 353, 355] (by decide +kernel) (by decide +kernel)
theorem xc8 : xCls 8 RX8 TX8 7 tyX8 := ⟨rfl, rfl, xu8, tyX8_ok, nmX8, by decide, by decide +kernel⟩
theorem xd8 : ∀ j, j < 7 → defaultValue (tyX8 j) = xdef 8 j := by decide +kernel
theorem xu9 : ∀ w ∈ u_ws RX9 TX9 7, w ∈ lw_gd := gdU [312, 314, 316, 318, 320, 322, 324] (by decide +kernel) (by decide +kernel)
theorem xc9 : xCls 9 RX9 TX9 7 tyX9 := ⟨rfl, rfl, xu9, tyX9_ok, nmX9, by decide, by decide +kernel⟩
theorem xd9 : ∀ j, j < 7 → defaultValue (tyX9 j) = xdef 9 j := by decide +kernel
theorem xu10 : ∀ w ∈ u_ws RX10 TX10 9, w ∈ lw_gd := gdU [428, 430, 432, 434, 436, 438, 440, 442, 444] (by decide +kernel) (by decide +kernel)
theorem xc10 : xCls 10 RX10 TX10 9 tyX10 := ⟨rfl, rfl, xu10, tyX10_ok, nmX10, by decide, by decide +kernel⟩
theorem xd10 : ∀ j, j < 9 → defaultValue (tyX10 j) = xdef 10 j := by decide +kernel
theorem xu11 : ∀ w ∈ u_ws RX11 TX11 84, w ∈ lw_gd := gdU [1214, 1216, 1218, 1220, 1222, 1224, 1226, 1228, 1230, 1232, 1234, 1236, 1238, 1240, 1242, 1244, 1246, 1248, 1250, 1252, 1254, 1256, 1258, 1260, 1262, 1264, 1266, 1268, 1270, 1272, 1274, 1276, 1278, 1280, 1282, 1284, 1286, 1288, 1290, 1292, 1294, 1296, 1298, 1300, 1302, 1304, 1306, 1308, 1310, 1312, 1314, 1316, 1318, 1320, 1322, 1324, 1326, 1328, 1330, 1332, 1334, 1336, 1338, 1340, 1342, 1344, 1346, 1348, 1350, 1352, 1354, 1356, 1358, 1360, 1362, 1364, 1366, 1368, 1370, 1372, 1374, 1376, 1378, 1380] (by decide +kernel) (by decide +kernel)
theorem xc11 : xCls 11 RX11 TX11 84 tyX11 := ⟨rfl, rfl, xu11, tyX11_ok, nmX11, by decide, by decide +kernel⟩
theorem xd11 : ∀ j, j < 84 → defaultValue (tyX11 j) = xdef 11 j := by decide +kernel
