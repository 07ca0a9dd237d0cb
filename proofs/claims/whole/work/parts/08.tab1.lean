theorem fc0 : fcl 0 RX0 TX0 2 := ⟨rfl, gw_ws [150, 152] (by decide +kernel) (by decide +kernel), nmX0, rfl⟩
theorem fc1 : fcl 1 RX1 TX1 3 := ⟨rfl, gw_ws [275, 277, 279] (by decide +kernel) (by decide +kernel), nmX1, rfl⟩
theorem fc2 : fcl 2 RX2 TX2 10 := ⟨rfl, gw_ws [242, 244, 246, 248, 250, 252, 254, 256, 258, 260] (by decide +kernel) (by decide +kernel), nmX2, rfl⟩
theorem fc3 : fcl 3 RX3 TX3 3 := ⟨rfl, gw_ws [195, 197, 199] (by decide +kernel) (by decide +kernel), nmX3, rfl⟩
theorem fc4 : fcl 4 RX4 TX4 4 := ⟨rfl, gw_ws [342, 344, 346, 348] (by decide +kernel) (by decide +kernel), nmX4, rfl⟩
theorem fc5 : fcl 5 RX5 TX5 2 := ⟨rfl, gw_ws [323, 325] (by decide +kernel) (by decide +kernel), nmX5, rfl⟩
theorem fc6 : fcl 6 RX7 TX7 3 := ⟨rfl, gw_ws [171, 173, 175] (by decide +kernel) (by decide +kernel), nmX7, rfl⟩
theorem fc7 : fcl 7 RX9 TX9 7 := ⟨rfl, gw_ws [300, 302, 304, 306, 308, 310, 312] (by decide +kernel) (by decide +kernel), nmX9, rfl⟩
theorem fc8 : fcl 8 RX10 TX10 10 := ⟨rfl, gw_ws [598, 600, 602, 604, 606, 608, 610, 612, 614, 616] (by decide +kernel) (by decide +kernel), nmX10, rfl⟩
theorem fc9 : fcl 9 RX11 TX11 28 := ⟨rfl, gw_ws [1360, 1362, 1364, 1366, 1368, 1370, 1372, 1374, 1376, 1378, 1380, 1382, 1384, 1386, 1388, 1390, 1392, 1394, 1396, 1398, 1400, 1402, 1404, 1406, 1408, 1410, 1412, 1414] (by decide +kernel) (by decide +kernel), nmX11, rfl⟩
theorem kt_0_0 {a : Nat} (h : shK a = 10 + 0) : shK (shR a 0) = 0 := kt_of 0 0 (0) (by decide +kernel) h
theorem kt_1_0 {a : Nat} (h : shK a = 10 + 1) : shK (shR a 0) = 3 := kt_of 1 0 (3) (by decide +kernel) h
theorem kt_2_4 {a : Nat} (h : shK a = 10 + 2) : shK (shR a 4) = 10 + 6 := kt_of 2 4 (10 + 6) (by decide +kernel) h
theorem kt_2_5 {a : Nat} (h : shK a = 10 + 2) : shK (shR a 5) = 10 + 6 := kt_of 2 5 (10 + 6) (by decide +kernel) h
theorem kt_2_6 {a : Nat} (h : shK a = 10 + 2) : shK (shR a 6) = 10 + 6 := kt_of 2 6 (10 + 6) (by decide +kernel) h
theorem kt_2_7 {a : Nat} (h : shK a = 10 + 2) : shK (shR a 7) = 10 + 6 := kt_of 2 7 (10 + 6) (by decide +kernel) h
theorem kt_2_8 {a : Nat} (h : shK a = 10 + 2) : shK (shR a 8) = 10 + 6 := kt_of 2 8 (10 + 6) (by decide +kernel) h
theorem kt_2_9 {a : Nat} (h : shK a = 10 + 2) : shK (shR a 9) = 10 + 3 := kt_of 2 9 (10 + 3) (by decide +kernel) h
theorem kt_3_0 {a : Nat} (h : shK a = 10 + 3) : shK (shR a 0) = 10 + 6 := kt_of 3 0 (10 + 6) (by decide +kernel) h
theorem kt_3_1 {a : Nat} (h : shK a = 10 + 3) : shK (shR a 1) = 10 + 6 := kt_of 3 1 (10 + 6) (by decide +kernel) h
theorem kt_3_2 {a : Nat} (h : shK a = 10 + 3) : shK (shR a 2) = 10 + 6 := kt_of 3 2 (10 + 6) (by decide +kernel) h
theorem kt_4_0 {a : Nat} (h : shK a = 10 + 4) : shK (shR a 0) = 10 + 7 := kt_of 4 0 (10 + 7) (by decide +kernel) h
theorem kt_4_1 {a : Nat} (h : shK a = 10 + 4) : shK (shR a 1) = 10 + 2 := kt_of 4 1 (10 + 2) (by decide +kernel) h
theorem kt_4_2 {a : Nat} (h : shK a = 10 + 4) : shK (shR a 2) = 10 + 6 := kt_of 4 2 (10 + 6) (by decide +kernel) h
theorem kt_5_0 {a : Nat} (h : shK a = 10 + 5) : shK (shR a 0) = 10 + 7 := kt_of 5 0 (10 + 7) (by decide +kernel) h
theorem kt_5_1 {a : Nat} (h : shK a = 10 + 5) : shK (shR a 1) = 10 + 2 := kt_of 5 1 (10 + 2) (by decide +kernel) h
theorem kt_6_2 {a : Nat} (h : shK a = 10 + 6) : shK (shR a 2) = 0 := kt_of 6 2 (0) (by decide +kernel) h
theorem kt_7_0 {a : Nat} (h : shK a = 10 + 7) : shK (shR a 0) = 10 + 0 := kt_of 7 0 (10 + 0) (by decide +kernel) h
theorem kt_8_0 {a : Nat} (h : shK a = 10 + 8) : shK (shR a 0) = 10 + 0 := kt_of 8 0 (10 + 0) (by decide +kernel) h
theorem kt_8_1 {a : Nat} (h : shK a = 10 + 8) : shK (shR a 1) = 10 + 0 := kt_of 8 1 (10 + 0) (by decide +kernel) h
theorem kt_8_2 {a : Nat} (h : shK a = 10 + 8) : shK (shR a 2) = 10 + 7 := kt_of 8 2 (10 + 7) (by decide +kernel) h
theorem kt_8_3 {a : Nat} (h : shK a = 10 + 8) : shK (shR a 3) = 10 + 5 := kt_of 8 3 (10 + 5) (by decide +kernel) h
theorem kt_8_4 {a : Nat} (h : shK a = 10 + 8) : shK (shR a 4) = 10 + 4 := kt_of 8 4 (10 + 4) (by decide +kernel) h
theorem kt_8_5 {a : Nat} (h : shK a = 10 + 8) : shK (shR a 5) = 10 + 2 := kt_of 8 5 (10 + 2) (by decide +kernel) h
theorem kt_8_6 {a : Nat} (h : shK a = 10 + 8) : shK (shR a 6) = 10 + 2 := kt_of 8 6 (10 + 2) (by decide +kernel) h
theorem kt_8_7 {a : Nat} (h : shK a = 10 + 8) : shK (shR a 7) = 10 + 2 := kt_of 8 7 (10 + 2) (by decide +kernel) h
theorem kt_8_8 {a : Nat} (h : shK a = 10 + 8) : shK (shR a 8) = 10 + 1 := kt_of 8 8 (10 + 1) (by decide +kernel) h
theorem kt_9_0 {a : Nat} (h : shK a = 10 + 9) : shK (shR a 0) = 0 := kt_of 9 0 (0) (by decide +kernel) h
theorem kt_9_1 {a : Nat} (h : shK a = 10 + 9) : shK (shR a 1) = 0 := kt_of 9 1 (0) (by decide +kernel) h
theorem kt_9_2 {a : Nat} (h : shK a = 10 + 9) : shK (shR a 2) = 0 := kt_of 9 2 (0) (by decide +kernel) h
theorem kt_9_3 {a : Nat} (h : shK a = 10 + 9) : shK (shR a 3) = 0 := kt_of 9 3 (0) (by decide +kernel) h
theorem kt_9_7 {a : Nat} (h : shK a = 10 + 9) : shK (shR a 7) = 0 := kt_of 9 7 (0) (by decide +kernel) h
theorem kt_9_9 {a : Nat} (h : shK a = 10 + 9) : shK (shR a 9) = 0 := kt_of 9 9 (0) (by decide +kernel) h
theorem kt_9_10 {a : Nat} (h : shK a = 10 + 9) : shK (shR a 10) = 0 := kt_of 9 10 (0) (by decide +kernel) h
theorem kt_9_12 {a : Nat} (h : shK a = 10 + 9) : shK (shR a 12) = 1 := kt_of 9 12 (1) (by decide +kernel) h
theorem kt_9_22 {a : Nat} (h : shK a = 10 + 9) : shK (shR a 22) = 0 := kt_of 9 22 (0) (by decide +kernel) h
theorem kt_9_24 {a : Nat} (h : shK a = 10 + 9) : shK (shR a 24) = 0 := kt_of 9 24 (0) (by decide +kernel) h
theorem kt_9_25 {a : Nat} (h : shK a = 10 + 9) : shK (shR a 25) = 2 := kt_of 9 25 (2) (by decide +kernel) h
theorem kt_9_26 {a : Nat} (h : shK a = 10 + 9) : shK (shR a 26) = 1 := kt_of 9 26 (1) (by decide +kernel) h
theorem vm_X0_size : VMet yX0_size RX0 cX0_size 1 (some .int) 0 := ⟨g437, g438, g109, g439, ⟨by decide +kernel, by decide +kernel⟩, by decide +kernel, Nat.le_of_ble_eq_true rfl⟩
theorem vm_X0_get : VMet yX0_get RX0 cX0_get 2 (some .int) 1 := ⟨g441, g442, g109, g443, ⟨by decide +kernel, by decide +kernel⟩, by decide +kernel, Nat.le_of_ble_eq_true rfl⟩
theorem vm_X0_add : VMet yX0_add RX0 cX0_add 2 none 1 := ⟨g405, g406, g109, g407, ⟨by decide +kernel, by decide +kernel⟩, by decide +kernel, Nat.le_of_ble_eq_true rfl⟩
theorem vm_X0_addText : VMet yX0_addText RX0 cX0_addText 3 none 1 := ⟨g353, g354, g109, g355, ⟨by decide +kernel, by decide +kernel⟩, by decide +kernel, Nat.le_of_ble_eq_true rfl⟩
theorem vm_X0_addNumber : VMet yX0_addNumber RX0 cX0_addNumber 3 none 1 := ⟨g906, g907, g109, g908, ⟨by decide +kernel, by decide +kernel⟩, by decide +kernel, Nat.le_of_ble_eq_true rfl⟩
theorem vm_X0_cutTo : VMet yX0_cutTo RX0 cX0_cutTo 2 (some .boolean) 1 := ⟨g635, g636, g109, g637, ⟨by decide +kernel, by decide +kernel⟩, by decide +kernel, Nat.le_of_ble_eq_true rfl⟩
theorem vm_X0_clear : VMet yX0_clear RX0 cX0_clear 1 none 0 := ⟨g585, g586, g109, g587, ⟨by decide +kernel, by decide +kernel⟩, by decide +kernel, Nat.le_of_ble_eq_true rfl⟩
theorem vm_X1_size : VMet yX1_size RX1 cX1_size 1 (some .int) 0 := ⟨g1005, g1006, g113, g1007, ⟨by decide +kernel, by decide +kernel⟩, by decide +kernel, Nat.le_of_ble_eq_true rfl⟩
theorem vm_X1_forget : VMet yX1_forget RX1 cX1_forget 1 none 0 := ⟨g643, g644, g113, g645, ⟨by decide +kernel, by decide +kernel⟩, by decide +kernel, Nat.le_of_ble_eq_true rfl⟩
theorem vm_X1_postAt : VMet yX1_postAt RX1 cX1_postAt 3 (some (.object "WhistlePosts$Post")) 1 := ⟨g698, g15, g113, g699, ⟨by decide +kernel, by decide +kernel⟩, by decide +kernel, Nat.le_of_ble_eq_true rfl⟩
theorem vm_X7_copyFrom : VMet yX7_copyFrom RX7 cX7_copyFrom 2 none 1 := ⟨g570, g571, g111, g572, ⟨by decide +kernel, by decide +kernel⟩, by decide +kernel, Nat.le_of_ble_eq_true rfl⟩
theorem vm_X3_copyFrom : VMet yX3_copyFrom RX3 cX3_copyFrom 2 none 1 := ⟨g580, g581, g112, g582, ⟨by decide +kernel, by decide +kernel⟩, by decide +kernel, Nat.le_of_ble_eq_true rfl⟩
theorem vm_X2_copyFrom : VMet yX2_copyFrom RX2 cX2_copyFrom 2 none 1 := ⟨g566, g567, g110, g568, ⟨by decide +kernel, by decide +kernel⟩, by decide +kernel, Nat.le_of_ble_eq_true rfl⟩
theorem vm_X1_keep : VMet yX1_keep RX1 cX1_keep 3 none 1 := ⟨g693, g694, g113, g695, ⟨by decide +kernel, by decide +kernel⟩, by decide +kernel, Nat.le_of_ble_eq_true rfl⟩
theorem vm_X1_giveBack : VMet yX1_giveBack RX1 cX1_giveBack 3 none 1 := ⟨g1287, g1288, g113, g1289, ⟨by decide +kernel, by decide +kernel⟩, by decide +kernel, Nat.le_of_ble_eq_true rfl⟩
theorem vm_X7_put : VMet yX7_put RX7 cX7_put 5 none 3 := ⟨g421, g422, g111, g423, ⟨by decide +kernel, by decide +kernel⟩, by decide +kernel, Nat.le_of_ble_eq_true rfl⟩
theorem vm_X2_settle : VMet yX2_settle RX2 cX2_settle 3 none 2 := ⟨g417, g418, g110, g419, ⟨by decide +kernel, by decide +kernel⟩, by decide +kernel, Nat.le_of_ble_eq_true rfl⟩
theorem vm_X7_clearTo : VMet yX7_clearTo RX7 cX7_clearTo 3 none 1 := ⟨g425, g426, g111, g427, ⟨by decide +kernel, by decide +kernel⟩, by decide +kernel, Nat.le_of_ble_eq_true rfl⟩
theorem vm_X2_clear : VMet yX2_clear RX2 cX2_clear 1 none 0 := ⟨g413, g414, g110, g415, ⟨by decide +kernel, by decide +kernel⟩, by decide +kernel, Nat.le_of_ble_eq_true rfl⟩
theorem sm_X2_leastOf : SMet yX2_leastOf cX2_leastOf 1 (some .int) 1 := ⟨g532, g110, g533, ⟨by decide +kernel, by decide +kernel⟩, by decide +kernel, Nat.le_of_ble_eq_true rfl⟩
theorem sm_X2_mostOf : SMet yX2_mostOf cX2_mostOf 1 (some .int) 1 := ⟨g535, g110, g536, ⟨by decide +kernel, by decide +kernel⟩, by decide +kernel, Nat.le_of_ble_eq_true rfl⟩
theorem vm_X7_get : VMet yX7_get RX7 cX7_get 4 (some .int) 2 := ⟨g477, g478, g111, g479, ⟨by decide +kernel, by decide +kernel⟩, by decide +kernel, Nat.le_of_ble_eq_true rfl⟩
theorem vm_X2_setting : VMet yX2_setting RX2 cX2_setting 2 (some .int) 1 := ⟨g738, g739, g110, g740, ⟨by decide +kernel, by decide +kernel⟩, by decide +kernel, Nat.le_of_ble_eq_true rfl⟩
theorem vm_X7_grow : VMet yX7_grow RX7 cX7_grow 5 none 3 := ⟨g719, g720, g111, g721, ⟨by decide +kernel, by decide +kernel⟩, by decide +kernel, Nat.le_of_ble_eq_true rfl⟩
theorem vm_X2_enter : VMet yX2_enter RX2 cX2_enter 3 none 2 := ⟨g715, g716, g110, g717, ⟨by decide +kernel, by decide +kernel⟩, by decide +kernel, Nat.le_of_ble_eq_true rfl⟩
theorem vm_X2_addRoof : VMet yX2_addRoof RX2 cX2_addRoof 7 none 5 := ⟨g493, g494, g110, g495, ⟨by decide +kernel, by decide +kernel⟩, by decide +kernel, Nat.le_of_ble_eq_true rfl⟩
theorem vm_X2_addWay : VMet yX2_addWay RX2 cX2_addWay 4 none 3 := ⟨g516, g517, g110, g518, ⟨by decide +kernel, by decide +kernel⟩, by decide +kernel, Nat.le_of_ble_eq_true rfl⟩
theorem vm_X2_addTune : VMet yX2_addTune RX2 cX2_addTune 8 (some .int) 6 := ⟨g711, g712, g110, g713, ⟨by decide +kernel, by decide +kernel⟩, by decide +kernel, Nat.le_of_ble_eq_true rfl⟩
theorem vm_X2_hasTimeFor : VMet yX2_hasTimeFor RX2 cX2_hasTimeFor 2 (some .boolean) 1 := ⟨g723, g724, g110, g725, ⟨by decide +kernel, by decide +kernel⟩, by decide +kernel, Nat.le_of_ble_eq_true rfl⟩
theorem vm_X2_hasRoomFor : VMet yX2_hasRoomFor RX2 cX2_hasRoomFor 3 (some .boolean) 2 := ⟨g810, g811, g110, g812, ⟨by decide +kernel, by decide +kernel⟩, by decide +kernel, Nat.le_of_ble_eq_true rfl⟩
theorem vm_X2_takeCoins : VMet yX2_takeCoins RX2 cX2_takeCoins 3 none 2 := ⟨g814, g815, g110, g816, ⟨by decide +kernel, by decide +kernel⟩, by decide +kernel, Nat.le_of_ble_eq_true rfl⟩
theorem vm_X2_acrossFrom : VMet yX2_acrossFrom RX2 cX2_acrossFrom 5 (some .int) 2 := ⟨g512, g513, g110, g514, ⟨by decide +kernel, by decide +kernel⟩, by decide +kernel, Nat.le_of_ble_eq_true rfl⟩
theorem vm_X2_wayBetween : VMet yX2_wayBetween RX2 cX2_wayBetween 4 (some .int) 2 := ⟨g508, g509, g110, g510, ⟨by decide +kernel, by decide +kernel⟩, by decide +kernel, Nat.le_of_ble_eq_true rfl⟩
theorem vm_X7_removeRow : VMet yX7_removeRow RX7 cX7_removeRow 4 none 1 := ⟨g823, g824, g111, g825, ⟨by decide +kernel, by decide +kernel⟩, by decide +kernel, Nat.le_of_ble_eq_true rfl⟩
theorem vm_X3_layNone : VMet yX3_layNone RX3 cX3_layNone 3 none 1 := ⟨g544, g4, g112, g545, ⟨by decide +kernel, by decide +kernel⟩, by decide +kernel, Nat.le_of_ble_eq_true rfl⟩
theorem vm_X3_layWay : VMet yX3_layWay RX3 cX3_layWay 4 none 3 := ⟨g551, g5, g112, g552, ⟨by decide +kernel, by decide +kernel⟩, by decide +kernel, Nat.le_of_ble_eq_true rfl⟩
theorem vm_X3_shorten : VMet yX3_shorten RX3 cX3_shorten 4 none 3 := ⟨g555, g6, g112, g556, ⟨by decide +kernel, by decide +kernel⟩, by decide +kernel, Nat.le_of_ble_eq_true rfl⟩
theorem vm_X3_beginOf : VMet yX3_beginOf RX3 cX3_beginOf 5 (some .int) 2 := ⟨g563, g8, g112, g564, ⟨by decide +kernel, by decide +kernel⟩, by decide +kernel, Nat.le_of_ble_eq_true rfl⟩
theorem vm_X3_pointAll : VMet yX3_pointAll RX3 cX3_pointAll 4 none 1 := ⟨g559, g7, g112, g560, ⟨by decide +kernel, by decide +kernel⟩, by decide +kernel, Nat.le_of_ble_eq_true rfl⟩
theorem vm_X3_lay : VMet yX3_lay RX3 cX3_lay 5 none 1 := ⟨g539, g540, g112, g541, ⟨by decide +kernel, by decide +kernel⟩, by decide +kernel, Nat.le_of_ble_eq_true rfl⟩
theorem vm_X2_cutWay : VMet yX2_cutWay RX2 cX2_cutWay 4 (some .boolean) 2 := ⟨g818, g819, g110, g820, ⟨by decide +kernel, by decide +kernel⟩, by decide +kernel, Nat.le_of_ble_eq_true rfl⟩
theorem vm_X2_roofNamed : VMet yX2_roofNamed RX2 cX2_roofNamed 3 (some .int) 1 := ⟨g473, g474, g110, g475, ⟨by decide +kernel, by decide +kernel⟩, by decide +kernel, Nat.le_of_ble_eq_true rfl⟩
theorem vm_X2_letterOf : VMet yX2_letterOf RX2 cX2_letterOf 4 (some .int) 2 := ⟨g902, g903, g110, g904, ⟨by decide +kernel, by decide +kernel⟩, by decide +kernel, Nat.le_of_ble_eq_true rfl⟩
theorem vm_X2_tunesIn : VMet yX2_tunesIn RX2 cX2_tunesIn 4 (some .int) 1 := ⟨g877, g878, g110, g879, ⟨by decide +kernel, by decide +kernel⟩, by decide +kernel, Nat.le_of_ble_eq_true rfl⟩
theorem vm_X2_isBusy : VMet yX2_isBusy RX2 cX2_isBusy 3 (some .boolean) 2 := ⟨g771, g772, g110, g773, ⟨by decide +kernel, by decide +kernel⟩, by decide +kernel, Nat.le_of_ble_eq_true rfl⟩
theorem vm_X2_busyWhistlers : VMet yX2_busyWhistlers RX2 cX2_busyWhistlers 3 (some .int) 0 := ⟨g1014, g1015, g110, g1016, ⟨by decide +kernel, by decide +kernel⟩, by decide +kernel, Nat.le_of_ble_eq_true rfl⟩
theorem vm_X2_pursesTogether : VMet yX2_pursesTogether RX2 cX2_pursesTogether 3 (some .int) 0 := ⟨g881, g882, g110, g883, ⟨by decide +kernel, by decide +kernel⟩, by decide +kernel, Nat.le_of_ble_eq_true rfl⟩
theorem vm_X2_numberOfAll : VMet yX2_numberOfAll RX2 cX2_numberOfAll 2 (some .int) 1 := ⟨g1009, g1010, g110, g1011, ⟨by decide +kernel, by decide +kernel⟩, by decide +kernel, Nat.le_of_ble_eq_true rfl⟩
theorem vm_X2_isWaitingAt : VMet yX2_isWaitingAt RX2 cX2_isWaitingAt 3 (some .boolean) 2 := ⟨g779, g780, g110, g781, ⟨by decide +kernel, by decide +kernel⟩, by decide +kernel, Nat.le_of_ble_eq_true rfl⟩
theorem vm_X2_tunesAt : VMet yX2_tunesAt RX2 cX2_tunesAt 4 (some .int) 1 := ⟨g912, g913, g110, g914, ⟨by decide +kernel, by decide +kernel⟩, by decide +kernel, Nat.le_of_ble_eq_true rfl⟩
theorem vm_X2_waysAt : VMet yX2_waysAt RX2 cX2_waysAt 4 (some .int) 1 := ⟨g1068, g1069, g110, g1070, ⟨by decide +kernel, by decide +kernel⟩, by decide +kernel, Nat.le_of_ble_eq_true rfl⟩
theorem vm_X2_numberOfRoof : VMet yX2_numberOfRoof RX2 cX2_numberOfRoof 3 (some .int) 2 := ⟨g1063, g1064, g110, g1065, ⟨by decide +kernel, by decide +kernel⟩, by decide +kernel, Nat.le_of_ble_eq_true rfl⟩
theorem sm_X2_barsOf : SMet yX2_barsOf cX2_barsOf 1 (some .int) 1 := ⟨g791, g110, g792, ⟨by decide +kernel, by decide +kernel⟩, by decide +kernel, Nat.le_of_ble_eq_true rfl⟩
theorem vm_X2_barsOfTune : VMet yX2_barsOfTune RX2 cX2_barsOfTune 2 (some .int) 1 := ⟨g794, g795, g110, g796, ⟨by decide +kernel, by decide +kernel⟩, by decide +kernel, Nat.le_of_ble_eq_true rfl⟩
theorem vm_X2_waitingAt : VMet yX2_waitingAt RX2 cX2_waitingAt 6 (some .int) 2 := ⟨g1130, g1131, g110, g1132, ⟨by decide +kernel, by decide +kernel⟩, by decide +kernel, Nat.le_of_ble_eq_true rfl⟩
theorem sm_X10_noteOf : SMet yX10_noteOf cX10_noteOf 2 (some .int) 2 := ⟨g753, g108, g754, ⟨by decide +kernel, by decide +kernel⟩, by decide +kernel, Nat.le_of_ble_eq_true rfl⟩
theorem vm_X2_notesUnlikeSent : VMet yX2_notesUnlikeSent RX2 cX2_notesUnlikeSent 6 (some .int) 1 := ⟨g1110, g1111, g110, g1112, ⟨by decide +kernel, by decide +kernel⟩, by decide +kernel, Nat.le_of_ble_eq_true rfl⟩
theorem vm_X2_numberOfTune : VMet yX2_numberOfTune RX2 cX2_numberOfTune 3 (some .int) 2 := ⟨g1106, g1107, g110, g1108, ⟨by decide +kernel, by decide +kernel⟩, by decide +kernel, Nat.le_of_ble_eq_true rfl⟩
theorem vm_X2_nextOf : VMet yX2_nextOf RX2 cX2_nextOf 2 (some .int) 1 := ⟨g783, g784, g110, g785, ⟨by decide +kernel, by decide +kernel⟩, by decide +kernel, Nat.le_of_ble_eq_true rfl⟩
theorem vm_X2_lackOf : VMet yX2_lackOf RX2 cX2_lackOf 3 (some .int) 1 := ⟨g787, g788, g110, g789, ⟨by decide +kernel, by decide +kernel⟩, by decide +kernel, Nat.le_of_ble_eq_true rfl⟩
theorem vm_X2_firstToGoFrom : VMet yX2_firstToGoFrom RX2 cX2_firstToGoFrom 4 (some .int) 1 := ⟨g775, g776, g110, g777, ⟨by decide +kernel, by decide +kernel⟩, by decide +kernel, Nat.le_of_ble_eq_true rfl⟩
theorem vm_X2_wrongOf : VMet yX2_wrongOf RX2 cX2_wrongOf 6 (some .int) 4 := ⟨g742, g743, g110, g744, ⟨by decide +kernel, by decide +kernel⟩, by decide +kernel, Nat.le_of_ble_eq_true rfl⟩
theorem vm_X3_sumByWays : VMet yX3_sumByWays RX3 cX3_sumByWays 8 none 1 := ⟨g863, g864, g112, g865, ⟨by decide +kernel, by decide +kernel⟩, by decide +kernel, Nat.le_of_ble_eq_true rfl⟩
theorem vm_X3_hasSameSums : VMet yX3_hasSameSums RX3 cX3_hasSameSums 5 (some .boolean) 2 := ⟨g867, g868, g112, g869, ⟨by decide +kernel, by decide +kernel⟩, by decide +kernel, Nat.le_of_ble_eq_true rfl⟩
theorem sm_X9_kindOf : SMet yX9_kindOf cX9_kindOf 1 (some .int) 1 := ⟨g445, g114, g446, ⟨by decide +kernel, by decide +kernel⟩, by decide +kernel, Nat.le_of_ble_eq_true rfl⟩
theorem vm_X9_step : VMet yX9_step RX9 cX9_step 3 none 0 := ⟨g433, g434, g114, g435, ⟨by decide +kernel, by decide +kernel⟩, by decide +kernel, Nat.le_of_ble_eq_true rfl⟩
theorem vm_X9_open : VMet yX9_open RX9 cX9_open 1 none 0 := ⟨g429, g430, g114, g431, ⟨by decide +kernel, by decide +kernel⟩, by decide +kernel, Nat.le_of_ble_eq_true rfl⟩
theorem vm_X9_isWord : VMet yX9_isWord RX9 cX9_isWord 3 (some .boolean) 1 := ⟨g453, g454, g114, g455, ⟨by decide +kernel, by decide +kernel⟩, by decide +kernel, Nat.le_of_ble_eq_true rfl⟩
theorem vm_X9_settingWord : VMet yX9_settingWord RX9 cX9_settingWord 1 (some .int) 0 := ⟨g520, g521, g114, g522, ⟨by decide +kernel, by decide +kernel⟩, by decide +kernel, Nat.le_of_ble_eq_true rfl⟩
theorem vm_X4_wordHere : VMet yX4_wordHere RX4 cX4_wordHere 1 (some .int) 0 := ⟨g657, g10, g116, g658, ⟨by decide +kernel, by decide +kernel⟩, by decide +kernel, Nat.le_of_ble_eq_true rfl⟩
theorem vm_X9_fail : VMet yX9_fail RX9 cX9_fail 2 (some .boolean) 1 := ⟨g463, g464, g114, g465, ⟨by decide +kernel, by decide +kernel⟩, by decide +kernel, Nat.le_of_ble_eq_true rfl⟩
theorem vm_X9_nameHere : VMet yX9_nameHere RX9 cX9_nameHere 3 (some .int) 0 := ⟨g468, g469, g114, g470, ⟨by decide +kernel, by decide +kernel⟩, by decide +kernel, Nat.le_of_ble_eq_true rfl⟩
theorem vm_X9_roofHere : VMet yX9_roofHere RX9 cX9_roofHere 5 (some .int) 2 := ⟨g502, g503, g114, g504, ⟨by decide +kernel, by decide +kernel⟩, by decide +kernel, Nat.le_of_ble_eq_true rfl⟩
theorem vm_X4_isRoofRead : VMet yX4_isRoofRead RX4 cX4_isRoofRead 4 (some .boolean) 2 := ⟨g675, g12, g116, g676, ⟨by decide +kernel, by decide +kernel⟩, by decide +kernel, Nat.le_of_ble_eq_true rfl⟩
theorem vm_X9_isNumberHere : VMet yX9_isNumberHere RX9 cX9_isNumberHere 3 (some .boolean) 2 := ⟨g485, g486, g114, g487, ⟨by decide +kernel, by decide +kernel⟩, by decide +kernel, Nat.le_of_ble_eq_true rfl⟩
theorem vm_X4_areNotesRead : VMet yX4_areNotesRead RX4 cX4_areNotesRead 3 (some .boolean) 0 := ⟨g681, g13, g116, g682, ⟨by decide +kernel, by decide +kernel⟩, by decide +kernel, Nat.le_of_ble_eq_true rfl⟩
theorem vm_X9_takeNumber : VMet yX9_takeNumber RX9 cX9_takeNumber 4 (some .int) 2 := ⟨g481, g482, g114, g483, ⟨by decide +kernel, by decide +kernel⟩, by decide +kernel, Nat.le_of_ble_eq_true rfl⟩
theorem vm_X4_isNumberRead : VMet yX4_isNumberRead RX4 cX4_isNumberRead 4 (some .boolean) 2 := ⟨g686, g14, g116, g687, ⟨by decide +kernel, by decide +kernel⟩, by decide +kernel, Nat.le_of_ble_eq_true rfl⟩
theorem vm_X9_isSemicolonTaken : VMet yX9_isSemicolonTaken RX9 cX9_isSemicolonTaken 1 (some .boolean) 0 := ⟨g489, g490, g114, g491, ⟨by decide +kernel, by decide +kernel⟩, by decide +kernel, Nat.le_of_ble_eq_true rfl⟩
theorem vm_X4_isStatementRead : VMet yX4_isStatementRead RX4 cX4_isStatementRead 3 (some .boolean) 1 := ⟨g668, g11, g116, g669, ⟨by decide +kernel, by decide +kernel⟩, by decide +kernel, Nat.le_of_ble_eq_true rfl⟩
theorem vm_X4_isRead : VMet yX4_isRead RX4 cX4_isRead 2 (some .boolean) 0 := ⟨g651, g652, g116, g653, ⟨by decide +kernel, by decide +kernel⟩, by decide +kernel, Nat.le_of_ble_eq_true rfl⟩
theorem vm_X5_isRoofRead : VMet yX5_isRoofRead RX5 cX5_isRoofRead 6 (some .boolean) 0 := ⟨g460, g1, g115, g461, ⟨by decide +kernel, by decide +kernel⟩, by decide +kernel, Nat.le_of_ble_eq_true rfl⟩
theorem vm_X5_isWayRead : VMet yX5_isWayRead RX5 cX5_isWayRead 4 (some .boolean) 0 := ⟨g499, g2, g115, g500, ⟨by decide +kernel, by decide +kernel⟩, by decide +kernel, Nat.le_of_ble_eq_true rfl⟩
theorem vm_X5_isSettingRead : VMet yX5_isSettingRead RX5 cX5_isSettingRead 3 (some .boolean) 1 := ⟨g529, g3, g115, g530, ⟨by decide +kernel, by decide +kernel⟩, by decide +kernel, Nat.le_of_ble_eq_true rfl⟩
theorem vm_X5_isStatementRead : VMet yX5_isStatementRead RX5 cX5_isStatementRead 2 (some .boolean) 0 := ⟨g449, g0, g115, g450, ⟨by decide +kernel, by decide +kernel⟩, by decide +kernel, Nat.le_of_ble_eq_true rfl⟩
theorem vm_X5_isRead : VMet yX5_isRead RX5 cX5_isRead 2 (some .boolean) 0 := ⟨g409, g410, g115, g411, ⟨by decide +kernel, by decide +kernel⟩, by decide +kernel, Nat.le_of_ble_eq_true rfl⟩
theorem sm_X6_causeOf : SMet yX6_causeOf cX6_causeOf 6 (some .int) 2 := ⟨g1141, g130, g1142, ⟨by decide +kernel, by decide +kernel⟩, by decide +kernel, Nat.le_of_ble_eq_true rfl⟩
theorem sm_X6_feesOn : SMet yX6_feesOn cX6_feesOn 8 (some .int) 4 := ⟨g1156, g130, g1157, ⟨by decide +kernel, by decide +kernel⟩, by decide +kernel, Nat.le_of_ble_eq_true rfl⟩
theorem sm_X6_wrongNotesOn : SMet yX6_wrongNotesOn cX6_wrongNotesOn 9 (some .int) 5 := ⟨g1168, g130, g1169, ⟨by decide +kernel, by decide +kernel⟩, by decide +kernel, Nat.le_of_ble_eq_true rfl⟩
theorem sm_X6_partOf : SMet yX6_partOf cX6_partOf 8 (some .int) 3 := ⟨g849, g130, g850, ⟨by decide +kernel, by decide +kernel⟩, by decide +kernel, Nat.le_of_ble_eq_true rfl⟩
theorem sm_J6_bitCount_0f7a4 : SMet yJ6_bitCount_0f7a4 cJ6_bitCount_0f7a4 1 (some .int) 1 := ⟨g853, g131, g854, ⟨by decide +kernel, by decide +kernel⟩, by decide +kernel, Nat.le_of_ble_eq_true rfl⟩
theorem sm_X6_pairsApartWithout : SMet yX6_pairsApartWithout cX6_pairsApartWithout 6 (some .int) 2 := ⟨g846, g130, g847, ⟨by decide +kernel, by decide +kernel⟩, by decide +kernel, Nat.le_of_ble_eq_true rfl⟩
theorem sm_X6_mostNeededWay : SMet yX6_mostNeededWay cX6_mostNeededWay 5 (some .int) 1 := ⟨g843, g130, g844, ⟨by decide +kernel, by decide +kernel⟩, by decide +kernel, Nat.le_of_ble_eq_true rfl⟩
theorem sm_X6_areTunesRight : SMet yX6_areTunesRight cX6_areTunesRight 4 (some .boolean) 1 := ⟨g871, g130, g872, ⟨by decide +kernel, by decide +kernel⟩, by decide +kernel, Nat.le_of_ble_eq_true rfl⟩
theorem sm_X6_areAccountsRight : SMet yX6_areAccountsRight cX6_areAccountsRight 4 (some .boolean) 1 := ⟨g874, g130, g875, ⟨by decide +kernel, by decide +kernel⟩, by decide +kernel, Nat.le_of_ble_eq_true rfl⟩
theorem sm_X8_raised : SMet yX8_raised cX8_raised 4 (some .int) 2 := ⟨g750, g124, g751, ⟨by decide +kernel, by decide +kernel⟩, by decide +kernel, Nat.le_of_ble_eq_true rfl⟩
theorem sm_X8_land : SMet yX8_land cX8_land 6 none 2 := ⟨g735, g124, g736, ⟨by decide +kernel, by decide +kernel⟩, by decide +kernel, Nat.le_of_ble_eq_true rfl⟩
theorem sm_X8_turned : SMet yX8_turned cX8_turned 4 (some .int) 2 := ⟨g761, g124, g762, ⟨by decide +kernel, by decide +kernel⟩, by decide +kernel, Nat.le_of_ble_eq_true rfl⟩
theorem sm_X8_reachGoal : SMet yX8_reachGoal cX8_reachGoal 5 none 2 := ⟨g757, g124, g758, ⟨by decide +kernel, by decide +kernel⟩, by decide +kernel, Nat.le_of_ble_eq_true rfl⟩
theorem sm_X8_landAll : SMet yX8_landAll cX8_landAll 3 none 1 := ⟨g731, g124, g732, ⟨by decide +kernel, by decide +kernel⟩, by decide +kernel, Nat.le_of_ble_eq_true rfl⟩
theorem sm_X8_roofsWithTunes : SMet yX8_roofsWithTunes cX8_roofsWithTunes 3 (some .int) 1 := ⟨g768, g124, g769, ⟨by decide +kernel, by decide +kernel⟩, by decide +kernel, Nat.le_of_ble_eq_true rfl⟩
theorem sm_X8_breathsFor : SMet yX8_breathsFor cX8_breathsFor 4 (some .int) 3 := ⟨g803, g124, g804, ⟨by decide +kernel, by decide +kernel⟩, by decide +kernel, Nat.le_of_ble_eq_true rfl⟩
theorem sm_X8_whistle : SMet yX8_whistle cX8_whistle 7 none 3 := ⟨g798, g124, g799, ⟨by decide +kernel, by decide +kernel⟩, by decide +kernel, Nat.le_of_ble_eq_true rfl⟩
theorem sm_X8_whistleAll : SMet yX8_whistleAll cX8_whistleAll 4 none 1 := ⟨g765, g124, g766, ⟨by decide +kernel, by decide +kernel⟩, by decide +kernel, Nat.le_of_ble_eq_true rfl⟩
theorem sm_X8_loseAll : SMet yX8_loseAll cX8_loseAll 2 none 1 := ⟨g807, g124, g808, ⟨by decide +kernel, by decide +kernel⟩, by decide +kernel, Nat.le_of_ble_eq_true rfl⟩
theorem sm_X8_run : SMet yX8_run cX8_run 3 none 2 := ⟨g727, g124, g728, ⟨by decide +kernel, by decide +kernel⟩, by decide +kernel, Nat.le_of_ble_eq_true rfl⟩
theorem vm_X10_appendFour : VMet yX10_appendFour RX10 cX10_appendFour 3 none 1 := ⟨g627, g9, g108, g628, ⟨by decide +kernel, by decide +kernel⟩, by decide +kernel, Nat.le_of_ble_eq_true rfl⟩
theorem vm_X10_appendInput : VMet yX10_appendInput RX10 cX10_appendInput 6 (some .int) 5 := ⟨g621, g622, g108, g623, ⟨by decide +kernel, by decide +kernel⟩, by decide +kernel, Nat.le_of_ble_eq_true rfl⟩
theorem vm_X10_truncateInput : VMet yX10_truncateInput RX10 cX10_truncateInput 2 (some .boolean) 1 := ⟨g631, g632, g108, g633, ⟨by decide +kernel, by decide +kernel⟩, by decide +kernel, Nat.le_of_ble_eq_true rfl⟩
theorem vm_X10_loadPost : VMet yX10_loadPost RX10 cX10_loadPost 2 (some .int) 0 := ⟨g639, g640, g108, g641, ⟨by decide +kernel, by decide +kernel⟩, by decide +kernel, Nat.le_of_ble_eq_true rfl⟩
theorem vm_X10_isSent : VMet yX10_isSent RX10 cX10_isSent 7 (some .boolean) 3 := ⟨g708, g17, g108, g709, ⟨by decide +kernel, by decide +kernel⟩, by decide +kernel, Nat.le_of_ble_eq_true rfl⟩
theorem vm_X10_isPlayed : VMet yX10_isPlayed RX10 cX10_isPlayed 6 (some .boolean) 1 := ⟨g703, g16, g108, g704, ⟨by decide +kernel, by decide +kernel⟩, by decide +kernel, Nat.le_of_ble_eq_true rfl⟩
theorem vm_X10_playScript : VMet yX10_playScript RX10 cX10_playScript 3 (some .int) 0 := ⟨g647, g648, g108, g649, ⟨by decide +kernel, by decide +kernel⟩, by decide +kernel, Nat.le_of_ble_eq_true rfl⟩
theorem vm_X10_errorCode : VMet yX10_errorCode RX10 cX10_errorCode 1 (some .int) 0 := ⟨g831, g832, g108, g833, ⟨by decide +kernel, by decide +kernel⟩, by decide +kernel, Nat.le_of_ble_eq_true rfl⟩
theorem vm_X10_errorOffset : VMet yX10_errorOffset RX10 cX10_errorOffset 1 (some .int) 0 := ⟨g835, g836, g108, g837, ⟨by decide +kernel, by decide +kernel⟩, by decide +kernel, Nat.le_of_ble_eq_true rfl⟩
theorem vm_X10_needNumber : VMet yX10_needNumber RX10 cX10_needNumber 4 none 3 := ⟨g934, g19, g108, g935, ⟨by decide +kernel, by decide +kernel⟩, by decide +kernel, Nat.le_of_ble_eq_true rfl⟩
theorem vm_X10_count : VMet yX10_count RX10 cX10_count 2 (some .int) 1 := ⟨g929, g930, g108, g931, ⟨by decide +kernel, by decide +kernel⟩, by decide +kernel, Nat.le_of_ble_eq_true rfl⟩
theorem vm_X10_account : VMet yX10_account RX10 cX10_account 2 (some .int) 1 := ⟨g1024, g1025, g108, g1026, ⟨by decide +kernel, by decide +kernel⟩, by decide +kernel, Nat.le_of_ble_eq_true rfl⟩
theorem vm_X10_needRoof : VMet yX10_needRoof RX10 cX10_needRoof 2 none 1 := ⟨g1037, g21, g108, g1038, ⟨by decide +kernel, by decide +kernel⟩, by decide +kernel, Nat.le_of_ble_eq_true rfl⟩
theorem vm_X10_nameByte : VMet yX10_nameByte RX10 cX10_nameByte 3 (some .int) 2 := ⟨g1032, g1033, g108, g1034, ⟨by decide +kernel, by decide +kernel⟩, by decide +kernel, Nat.le_of_ble_eq_true rfl⟩
theorem vm_X10_roof : VMet yX10_roof RX10 cX10_roof 3 (some .int) 2 := ⟨g1059, g1060, g108, g1061, ⟨by decide +kernel, by decide +kernel⟩, by decide +kernel, Nat.le_of_ble_eq_true rfl⟩
theorem vm_X10_way : VMet yX10_way RX10 cX10_way 3 (some .int) 2 := ⟨g1075, g1076, g108, g1077, ⟨by decide +kernel, by decide +kernel⟩, by decide +kernel, Nat.le_of_ble_eq_true rfl⟩
theorem vm_X10_route : VMet yX10_route RX10 cX10_route 4 (some .int) 2 := ⟨g1083, g1084, g108, g1085, ⟨by decide +kernel, by decide +kernel⟩, by decide +kernel, Nat.le_of_ble_eq_true rfl⟩
theorem vm_X10_next : VMet yX10_next RX10 cX10_next 3 (some .int) 2 := ⟨g1090, g1091, g108, g1092, ⟨by decide +kernel, by decide +kernel⟩, by decide +kernel, Nat.le_of_ble_eq_true rfl⟩
theorem vm_X10_needTune : VMet yX10_needTune RX10 cX10_needTune 2 none 1 := ⟨g1102, g22, g108, g1103, ⟨by decide +kernel, by decide +kernel⟩, by decide +kernel, Nat.le_of_ble_eq_true rfl⟩
theorem vm_X10_tune : VMet yX10_tune RX10 cX10_tune 3 (some .int) 2 := ⟨g1097, g1098, g108, g1099, ⟨by decide +kernel, by decide +kernel⟩, by decide +kernel, Nat.le_of_ble_eq_true rfl⟩
theorem vm_X10_note : VMet yX10_note RX10 cX10_note 4 (some .int) 3 := ⟨g1118, g1119, g108, g1120, ⟨by decide +kernel, by decide +kernel⟩, by decide +kernel, Nat.le_of_ble_eq_true rfl⟩
theorem vm_X10_waiting : VMet yX10_waiting RX10 cX10_waiting 3 (some .int) 2 := ⟨g1126, g1127, g108, g1128, ⟨by decide +kernel, by decide +kernel⟩, by decide +kernel, Nat.le_of_ble_eq_true rfl⟩
theorem vm_X10_why : VMet yX10_why RX10 cX10_why 4 (some .int) 2 := ⟨g1137, g1138, g108, g1139, ⟨by decide +kernel, by decide +kernel⟩, by decide +kernel, Nat.le_of_ble_eq_true rfl⟩
theorem vm_X10_costOf : VMet yX10_costOf RX10 cX10_costOf 4 (some .int) 3 := ⟨g1152, g1153, g108, g1154, ⟨by decide +kernel, by decide +kernel⟩, by decide +kernel, Nat.le_of_ble_eq_true rfl⟩
theorem vm_X10_wrongOn : VMet yX10_wrongOn RX10 cX10_wrongOn 4 (some .int) 3 := ⟨g1163, g1164, g108, g1165, ⟨by decide +kernel, by decide +kernel⟩, by decide +kernel, Nat.le_of_ble_eq_true rfl⟩
theorem vm_X10_calmest : VMet yX10_calmest RX10 cX10_calmest 4 (some .int) 2 := ⟨g1175, g1176, g108, g1177, ⟨by decide +kernel, by decide +kernel⟩, by decide +kernel, Nat.le_of_ble_eq_true rfl⟩
theorem vm_X10_arrivesIn : VMet yX10_arrivesIn RX10 cX10_arrivesIn 4 (some .int) 1 := ⟨g1182, g1183, g108, g1184, ⟨by decide +kernel, by decide +kernel⟩, by decide +kernel, Nat.le_of_ble_eq_true rfl⟩
theorem vm_X10_growsBy : VMet yX10_growsBy RX10 cX10_growsBy 3 (some .int) 2 := ⟨g1189, g1190, g108, g1191, ⟨by decide +kernel, by decide +kernel⟩, by decide +kernel, Nat.le_of_ble_eq_true rfl⟩
theorem vm_X10_dearestWay : VMet yX10_dearestWay RX10 cX10_dearestWay 1 (some .int) 0 := ⟨g839, g840, g108, g841, ⟨by decide +kernel, by decide +kernel⟩, by decide +kernel, Nat.le_of_ble_eq_true rfl⟩
theorem vm_X10_agree : VMet yX10_agree RX10 cX10_agree 1 (some .boolean) 0 := ⟨g859, g860, g108, g861, ⟨by decide +kernel, by decide +kernel⟩, by decide +kernel, Nat.le_of_ble_eq_true rfl⟩
theorem sm_X10_areDigitsNotes : SMet yX10_areDigitsNotes cX10_areDigitsNotes 2 (some .boolean) 1 := ⟨g1203, g108, g1204, ⟨by decide +kernel, by decide +kernel⟩, by decide +kernel, Nat.le_of_ble_eq_true rfl⟩
theorem sm_X10_digitsOf : SMet yX10_digitsOf cX10_digitsOf 3 (some .int) 1 := ⟨g1223, g108, g1224, ⟨by decide +kernel, by decide +kernel⟩, by decide +kernel, Nat.le_of_ble_eq_true rfl⟩
theorem sm_X10_notesOfDigits : SMet yX10_notesOfDigits cX10_notesOfDigits 3 (some .int) 1 := ⟨g1226, g108, g1227, ⟨by decide +kernel, by decide +kernel⟩, by decide +kernel, Nat.le_of_ble_eq_true rfl⟩
theorem vm_X10_send : VMet yX10_send RX10 cX10_send 5 (some .int) 4 := ⟨g1197, g1198, g108, g1199, ⟨by decide +kernel, by decide +kernel⟩, by decide +kernel, Nat.le_of_ble_eq_true rfl⟩
theorem vm_X10_tick : VMet yX10_tick RX10 cX10_tick 3 (some .int) 1 := ⟨g1232, g1233, g108, g1234, ⟨by decide +kernel, by decide +kernel⟩, by decide +kernel, Nat.le_of_ble_eq_true rfl⟩
theorem vm_X10_give : VMet yX10_give RX10 cX10_give 3 (some .int) 2 := ⟨g1240, g1241, g108, g1242, ⟨by decide +kernel, by decide +kernel⟩, by decide +kernel, Nat.le_of_ble_eq_true rfl⟩
theorem vm_X10_cut : VMet yX10_cut RX10 cX10_cut 3 (some .int) 2 := ⟨g1248, g1249, g108, g1250, ⟨by decide +kernel, by decide +kernel⟩, by decide +kernel, Nat.le_of_ble_eq_true rfl⟩
theorem vm_X10_set : VMet yX10_set RX10 cX10_set 4 (some .int) 2 := ⟨g1257, g1258, g108, g1259, ⟨by decide +kernel, by decide +kernel⟩, by decide +kernel, Nat.le_of_ble_eq_true rfl⟩
theorem vm_X10_undo : VMet yX10_undo RX10 cX10_undo 1 (some .int) 0 := ⟨g1267, g1268, g108, g1269, ⟨by decide +kernel, by decide +kernel⟩, by decide +kernel, Nat.le_of_ble_eq_true rfl⟩
theorem vm_X10_writeName : VMet yX10_writeName RX10 cX10_writeName 4 none 1 := ⟨g899, g18, g108, g900, ⟨by decide +kernel, by decide +kernel⟩, by decide +kernel, Nat.le_of_ble_eq_true rfl⟩
theorem vm_X10_printRoofs : VMet yX10_printRoofs RX10 cX10_printRoofs 3 (some .int) 0 := ⟨g894, g895, g108, g896, ⟨by decide +kernel, by decide +kernel⟩, by decide +kernel, Nat.le_of_ble_eq_true rfl⟩
theorem vm_X10_printTune : VMet yX10_printTune RX10 cX10_printTune 6 (some .int) 1 := ⟨g1294, g1295, g108, g1296, ⟨by decide +kernel, by decide +kernel⟩, by decide +kernel, Nat.le_of_ble_eq_true rfl⟩
theorem vm_X10_outputByte : VMet yX10_outputByte RX10 cX10_outputByte 2 (some .int) 1 := ⟨g916, g917, g108, g918, ⟨by decide +kernel, by decide +kernel⟩, by decide +kernel, Nat.le_of_ble_eq_true rfl⟩
theorem vm_X10_saveState : VMet yX10_saveState RX10 cX10_saveState 1 (some .int) 0 := ⟨g921, g922, g108, g923, ⟨by decide +kernel, by decide +kernel⟩, by decide +kernel, Nat.le_of_ble_eq_true rfl⟩
theorem vm_X10_restoreState : VMet yX10_restoreState RX10 cX10_restoreState 1 (some .int) 0 := ⟨g1301, g1302, g108, g1303, ⟨by decide +kernel, by decide +kernel⟩, by decide +kernel, Nat.le_of_ble_eq_true rfl⟩
theorem vm_X11_thrown : VMet yX11_thrown RX11 cX11_thrown 1 (some .int) 0 := ⟨g1419, g1420, g123, g1421, ⟨by decide +kernel, by decide +kernel⟩, by decide +kernel, Nat.le_of_ble_eq_true rfl⟩
theorem sm_X11_in : SMet yX11_in cX11_in 6 (some .boolean) 3 := ⟨g1435, g123, g1436, ⟨by decide +kernel, by decide +kernel⟩, by decide +kernel, Nat.le_of_ble_eq_true rfl⟩
theorem sm_X11_one : SMet yX11_one cX11_one 1 (some .int) 1 := ⟨g1598, g123, g1599, ⟨by decide +kernel, by decide +kernel⟩, by decide +kernel, Nat.le_of_ble_eq_true rfl⟩
theorem vm_X11_may : VMet yX11_may RX11 cX11_may 4 (some .boolean) 3 := ⟨g1716, g84, g123, g1717, ⟨by decide +kernel, by decide +kernel⟩, by decide +kernel, Nat.le_of_ble_eq_true rfl⟩
theorem sm_X11_r : SMet yX11_r cX11_r 1 (some .int) 1 := ⟨g1323, g123, g1324, ⟨by decide +kernel, by decide +kernel⟩, by decide +kernel, Nat.le_of_ble_eq_true rfl⟩
theorem sm_X11_w : SMet yX11_w cX11_w 1 (some .int) 1 := ⟨g1330, g123, g1331, ⟨by decide +kernel, by decide +kernel⟩, by decide +kernel, Nat.le_of_ble_eq_true rfl⟩
theorem sm_X11_t : SMet yX11_t cX11_t 1 (some .int) 1 := ⟨g1595, g123, g1596, ⟨by decide +kernel, by decide +kernel⟩, by decide +kernel, Nat.le_of_ble_eq_true rfl⟩
theorem vm_X11_counts : VMet yX11_counts RX11 cX11_counts 3 none 2 := ⟨g1606, g58, g123, g1607, ⟨by decide +kernel, by decide +kernel⟩, by decide +kernel, Nat.le_of_ble_eq_true rfl⟩
theorem vm_X11_clears : VMet yX11_clears RX11 cX11_clears 2 none 0 := ⟨g1313, g23, g123, g1314, ⟨by decide +kernel, by decide +kernel⟩, by decide +kernel, Nat.le_of_ble_eq_true rfl⟩
theorem vm_X11_copies : VMet yX11_copies RX11 cX11_copies 3 none 1 := ⟨g1451, g27, g123, g1452, ⟨by decide +kernel, by decide +kernel⟩, by decide +kernel, Nat.le_of_ble_eq_true rfl⟩
theorem vm_X11_gives : VMet yX11_gives RX11 cX11_gives 4 (some .int) 2 := ⟨g1555, g49, g123, g1556, ⟨by decide +kernel, by decide +kernel⟩, by decide +kernel, Nat.le_of_ble_eq_true rfl⟩
theorem vm_X11_remembers : VMet yX11_remembers RX11 cX11_remembers 2 none 0 := ⟨g1580, g53, g123, g1581, ⟨by decide +kernel, by decide +kernel⟩, by decide +kernel, Nat.le_of_ble_eq_true rfl⟩
theorem vm_X11_named : VMet yX11_named RX11 cX11_named 4 (some .int) 0 := ⟨g1496, g37, g123, g1497, ⟨by decide +kernel, by decide +kernel⟩, by decide +kernel, Nat.le_of_ble_eq_true rfl⟩
theorem vm_X11_newRoof : VMet yX11_newRoof RX11 cX11_newRoof 7 none 4 := ⟨g1320, g24, g123, g1321, ⟨by decide +kernel, by decide +kernel⟩, by decide +kernel, Nat.le_of_ble_eq_true rfl⟩
theorem vm_X11_newWay : VMet yX11_newWay RX11 cX11_newWay 4 none 3 := ⟨g1327, g25, g123, g1328, ⟨by decide +kernel, by decide +kernel⟩, by decide +kernel, Nat.le_of_ble_eq_true rfl⟩
theorem vm_X11_ends : VMet yX11_ends RX11 cX11_ends 3 (some .boolean) 2 := ⟨g1526, g44, g123, g1527, ⟨by decide +kernel, by decide +kernel⟩, by decide +kernel, Nat.le_of_ble_eq_true rfl⟩
theorem vm_X11_otherEnd : VMet yX11_otherEnd RX11 cX11_otherEnd 3 (some .int) 2 := ⟨g1687, g78, g123, g1688, ⟨by decide +kernel, by decide +kernel⟩, by decide +kernel, Nat.le_of_ble_eq_true rfl⟩
theorem vm_X11_wayBetween : VMet yX11_wayBetween RX11 cX11_wayBetween 4 (some .int) 2 := ⟨g1522, g43, g123, g1523, ⟨by decide +kernel, by decide +kernel⟩, by decide +kernel, Nat.le_of_ble_eq_true rfl⟩
theorem vm_X11_isNearer : VMet yX11_isNearer RX11 cX11_isNearer 5 (some .boolean) 2 := ⟨g1683, g77, g123, g1684, ⟨by decide +kernel, by decide +kernel⟩, by decide +kernel, Nat.le_of_ble_eq_true rfl⟩
theorem vm_X11_reckons : VMet yX11_reckons RX11 cX11_reckons 5 none 2 := ⟨g1679, g76, g123, g1680, ⟨by decide +kernel, by decide +kernel⟩, by decide +kernel, Nat.le_of_ble_eq_true rfl⟩
theorem vm_X11_sumTo : VMet yX11_sumTo RX11 cX11_sumTo 3 (some .int) 2 := ⟨g1675, g75, g123, g1676, ⟨by decide +kernel, by decide +kernel⟩, by decide +kernel, Nat.le_of_ble_eq_true rfl⟩
theorem vm_X11_nextTo : VMet yX11_nextTo RX11 cX11_nextTo 7 (some .int) 2 := ⟨g1671, g74, g123, g1672, ⟨by decide +kernel, by decide +kernel⟩, by decide +kernel, Nat.le_of_ble_eq_true rfl⟩
theorem vm_X11_isBusy : VMet yX11_isBusy RX11 cX11_isBusy 3 (some .boolean) 2 := ⟨g1643, g67, g123, g1644, ⟨by decide +kernel, by decide +kernel⟩, by decide +kernel, Nat.le_of_ble_eq_true rfl⟩
theorem vm_X11_barsOf : VMet yX11_barsOf RX11 cX11_barsOf 2 (some .int) 1 := ⟨g1659, g71, g123, g1660, ⟨by decide +kernel, by decide +kernel⟩, by decide +kernel, Nat.le_of_ble_eq_true rfl⟩
theorem vm_X11_bars : VMet yX11_bars RX11 cX11_bars 2 (some .int) 1 := ⟨g1655, g70, g123, g1656, ⟨by decide +kernel, by decide +kernel⟩, by decide +kernel, Nat.le_of_ble_eq_true rfl⟩
theorem vm_X11_waitsAt : VMet yX11_waitsAt RX11 cX11_waitsAt 3 (some .boolean) 2 := ⟨g1651, g69, g123, g1652, ⟨by decide +kernel, by decide +kernel⟩, by decide +kernel, Nat.le_of_ble_eq_true rfl⟩
theorem vm_X11_unlike : VMet yX11_unlike RX11 cX11_unlike 4 (some .int) 1 := ⟨g1635, g65, g123, g1636, ⟨by decide +kernel, by decide +kernel⟩, by decide +kernel, Nat.le_of_ble_eq_true rfl⟩
theorem vm_X11_hearsAsSent : VMet yX11_hearsAsSent RX11 cX11_hearsAsSent 3 none 1 := ⟨g1602, g57, g123, g1603, ⟨by decide +kernel, by decide +kernel⟩, by decide +kernel, Nat.le_of_ble_eq_true rfl⟩
theorem vm_X11_newTune : VMet yX11_newTune RX11 cX11_newTune 8 (some .int) 4 := ⟨g1592, g56, g123, g1593, ⟨by decide +kernel, by decide +kernel⟩, by decide +kernel, Nat.le_of_ble_eq_true rfl⟩
theorem vm_X11_wrongBy : VMet yX11_wrongBy RX11 cX11_wrongBy 5 (some .int) 4 := ⟨g1630, g64, g123, g1631, ⟨by decide +kernel, by decide +kernel⟩, by decide +kernel, Nat.le_of_ble_eq_true rfl⟩
theorem vm_X11_blurs : VMet yX11_blurs RX11 cX11_blurs 7 none 1 := ⟨g1626, g63, g123, g1627, ⟨by decide +kernel, by decide +kernel⟩, by decide +kernel, Nat.le_of_ble_eq_true rfl⟩
theorem vm_X11_replies : VMet yX11_replies RX11 cX11_replies 4 none 1 := ⟨g1639, g66, g123, g1640, ⟨by decide +kernel, by decide +kernel⟩, by decide +kernel, Nat.le_of_ble_eq_true rfl⟩
theorem vm_X11_comes : VMet yX11_comes RX11 cX11_comes 3 none 1 := ⟨g1622, g62, g123, g1623, ⟨by decide +kernel, by decide +kernel⟩, by decide +kernel, Nat.le_of_ble_eq_true rfl⟩
theorem vm_X11_feeAt : VMet yX11_feeAt RX11 cX11_feeAt 3 (some .int) 2 := ⟨g1667, g73, g123, g1668, ⟨by decide +kernel, by decide +kernel⟩, by decide +kernel, Nat.le_of_ble_eq_true rfl⟩
theorem vm_X11_purseFor : VMet yX11_purseFor RX11 cX11_purseFor 2 (some .int) 1 := ⟨g1663, g72, g123, g1664, ⟨by decide +kernel, by decide +kernel⟩, by decide +kernel, Nat.le_of_ble_eq_true rfl⟩
theorem vm_X11_firstAt : VMet yX11_firstAt RX11 cX11_firstAt 5 (some .int) 1 := ⟨g1647, g68, g123, g1648, ⟨by decide +kernel, by decide +kernel⟩, by decide +kernel, Nat.le_of_ble_eq_true rfl⟩
theorem vm_X11_whistles : VMet yX11_whistles RX11 cX11_whistles 7 none 2 := ⟨g1691, g79, g123, g1692, ⟨by decide +kernel, by decide +kernel⟩, by decide +kernel, Nat.le_of_ble_eq_true rfl⟩
theorem vm_X11_arrives : VMet yX11_arrives RX11 cX11_arrives 3 none 0 := ⟨g1618, g61, g123, g1619, ⟨by decide +kernel, by decide +kernel⟩, by decide +kernel, Nat.le_of_ble_eq_true rfl⟩
theorem vm_X11_loses : VMet yX11_loses RX11 cX11_loses 3 none 0 := ⟨g1695, g80, g123, g1696, ⟨by decide +kernel, by decide +kernel⟩, by decide +kernel, Nat.le_of_ble_eq_true rfl⟩
theorem vm_X11_ticks : VMet yX11_ticks RX11 cX11_ticks 3 none 0 := ⟨g1614, g60, g123, g1615, ⟨by decide +kernel, by decide +kernel⟩, by decide +kernel, Nat.le_of_ble_eq_true rfl⟩
theorem vm_X11_goes : VMet yX11_goes RX11 cX11_goes 4 (some .int) 1 := ⟨g1610, g59, g123, g1611, ⟨by decide +kernel, by decide +kernel⟩, by decide +kernel, Nat.le_of_ble_eq_true rfl⟩
theorem vm_X11_givesCoins : VMet yX11_givesCoins RX11 cX11_givesCoins 3 (some .int) 2 := ⟨g1699, g81, g123, g1700, ⟨by decide +kernel, by decide +kernel⟩, by decide +kernel, Nat.le_of_ble_eq_true rfl⟩
theorem vm_X11_cuts : VMet yX11_cuts RX11 cX11_cuts 3 (some .int) 1 := ⟨g1703, g82, g123, g1704, ⟨by decide +kernel, by decide +kernel⟩, by decide +kernel, Nat.le_of_ble_eq_true rfl⟩
theorem sm_X11_lowOf : SMet yX11_lowOf cX11_lowOf 1 (some .int) 1 := ⟨g1540, g123, g1541, ⟨by decide +kernel, by decide +kernel⟩, by decide +kernel, Nat.le_of_ble_eq_true rfl⟩
theorem sm_X11_highOf : SMet yX11_highOf cX11_highOf 1 (some .int) 1 := ⟨g1543, g123, g1544, ⟨by decide +kernel, by decide +kernel⟩, by decide +kernel, Nat.le_of_ble_eq_true rfl⟩
theorem vm_X11_sets : VMet yX11_sets RX11 cX11_sets 4 (some .int) 2 := ⟨g1707, g83, g123, g1708, ⟨by decide +kernel, by decide +kernel⟩, by decide +kernel, Nat.le_of_ble_eq_true rfl⟩
theorem vm_X11_four : VMet yX11_four RX11 cX11_four 3 none 1 := ⟨g1428, g26, g123, g1429, ⟨by decide +kernel, by decide +kernel⟩, by decide +kernel, Nat.le_of_ble_eq_true rfl⟩
theorem vm_X11_appendInput : VMet yX11_appendInput RX11 cX11_appendInput 6 (some .int) 5 := ⟨g1423, g1424, g123, g1425, ⟨by decide +kernel, by decide +kernel⟩, by decide +kernel, Nat.le_of_ble_eq_true rfl⟩
theorem vm_X11_truncateInput : VMet yX11_truncateInput RX11 cX11_truncateInput 2 (some .boolean) 1 := ⟨g1431, g1432, g123, g1433, ⟨by decide +kernel, by decide +kernel⟩, by decide +kernel, Nat.le_of_ble_eq_true rfl⟩
theorem vm_X11_errorCode : VMet yX11_errorCode RX11 cX11_errorCode 1 (some .int) 0 := ⟨g1438, g1439, g123, g1440, ⟨by decide +kernel, by decide +kernel⟩, by decide +kernel, Nat.le_of_ble_eq_true rfl⟩
theorem vm_X11_errorOffset : VMet yX11_errorOffset RX11 cX11_errorOffset 1 (some .int) 0 := ⟨g1442, g1443, g123, g1444, ⟨by decide +kernel, by decide +kernel⟩, by decide +kernel, Nat.le_of_ble_eq_true rfl⟩
theorem vm_X11_isLetter : VMet yX11_isLetter RX11 cX11_isLetter 2 (some .boolean) 1 := ⟨g1463, g30, g123, g1464, ⟨by decide +kernel, by decide +kernel⟩, by decide +kernel, Nat.le_of_ble_eq_true rfl⟩
theorem vm_X11_isDigit : VMet yX11_isDigit RX11 cX11_isDigit 2 (some .boolean) 1 := ⟨g1469, g31, g123, g1470, ⟨by decide +kernel, by decide +kernel⟩, by decide +kernel, Nat.le_of_ble_eq_true rfl⟩
theorem vm_X11_goesOn : VMet yX11_goesOn RX11 cX11_goesOn 1 none 0 := ⟨g1459, g29, g123, g1460, ⟨by decide +kernel, by decide +kernel⟩, by decide +kernel, Nat.le_of_ble_eq_true rfl⟩
theorem vm_X11_need : VMet yX11_need RX11 cX11_need 3 none 2 := ⟨g1488, g35, g123, g1489, ⟨by decide +kernel, by decide +kernel⟩, by decide +kernel, Nat.le_of_ble_eq_true rfl⟩
theorem vm_X11_starts : VMet yX11_starts RX11 cX11_starts 1 none 0 := ⟨g1455, g28, g123, g1456, ⟨by decide +kernel, by decide +kernel⟩, by decide +kernel, Nat.le_of_ble_eq_true rfl⟩
theorem vm_X11_ending : VMet yX11_ending RX11 cX11_ending 1 none 0 := ⟨g1551, g48, g123, g1552, ⟨by decide +kernel, by decide +kernel⟩, by decide +kernel, Nat.le_of_ble_eq_true rfl⟩
theorem vm_X11_isWord : VMet yX11_isWord RX11 cX11_isWord 3 (some .boolean) 1 := ⟨g1480, g33, g123, g1481, ⟨by decide +kernel, by decide +kernel⟩, by decide +kernel, Nat.le_of_ble_eq_true rfl⟩
theorem vm_X11_numberHere : VMet yX11_numberHere RX11 cX11_numberHere 3 (some .int) 2 := ⟨g1504, g39, g123, g1505, ⟨by decide +kernel, by decide +kernel⟩, by decide +kernel, Nat.le_of_ble_eq_true rfl⟩
theorem vm_X11_number : VMet yX11_number RX11 cX11_number 4 (some .int) 2 := ⟨g1500, g38, g123, g1501, ⟨by decide +kernel, by decide +kernel⟩, by decide +kernel, Nat.le_of_ble_eq_true rfl⟩
theorem vm_X11_semicolon : VMet yX11_semicolon RX11 cX11_semicolon 1 none 0 := ⟨g1547, g47, g123, g1548, ⟨by decide +kernel, by decide +kernel⟩, by decide +kernel, Nat.le_of_ble_eq_true rfl⟩
theorem vm_X11_spells : VMet yX11_spells RX11 cX11_spells 2 none 0 := ⟨g1492, g36, g123, g1493, ⟨by decide +kernel, by decide +kernel⟩, by decide +kernel, Nat.le_of_ble_eq_true rfl⟩
theorem vm_X11_roofHere : VMet yX11_roofHere RX11 cX11_roofHere 3 (some .int) 1 := ⟨g1517, g42, g123, g1518, ⟨by decide +kernel, by decide +kernel⟩, by decide +kernel, Nat.le_of_ble_eq_true rfl⟩
theorem vm_X11_roofOfText : VMet yX11_roofOfText RX11 cX11_roofOfText 3 (some .int) 1 := ⟨g1513, g41, g123, g1514, ⟨by decide +kernel, by decide +kernel⟩, by decide +kernel, Nat.le_of_ble_eq_true rfl⟩
theorem vm_X11_settingHere : VMet yX11_settingHere RX11 cX11_settingHere 1 (some .int) 0 := ⟨g1534, g46, g123, g1535, ⟨by decide +kernel, by decide +kernel⟩, by decide +kernel, Nat.le_of_ble_eq_true rfl⟩
theorem vm_X11_readsRoof : VMet yX11_readsRoof RX11 cX11_readsRoof 5 none 0 := ⟨g1484, g34, g123, g1485, ⟨by decide +kernel, by decide +kernel⟩, by decide +kernel, Nat.le_of_ble_eq_true rfl⟩
theorem vm_X11_readsWay : VMet yX11_readsWay RX11 cX11_readsWay 4 none 0 := ⟨g1509, g40, g123, g1510, ⟨by decide +kernel, by decide +kernel⟩, by decide +kernel, Nat.le_of_ble_eq_true rfl⟩
theorem vm_X11_readsSetting : VMet yX11_readsSetting RX11 cX11_readsSetting 3 none 0 := ⟨g1530, g45, g123, g1531, ⟨by decide +kernel, by decide +kernel⟩, by decide +kernel, Nat.le_of_ble_eq_true rfl⟩
theorem vm_X11_readsStatement : VMet yX11_readsStatement RX11 cX11_readsStatement 1 none 0 := ⟨g1475, g32, g123, g1476, ⟨by decide +kernel, by decide +kernel⟩, by decide +kernel, Nat.le_of_ble_eq_true rfl⟩
theorem vm_X11_loadPost : VMet yX11_loadPost RX11 cX11_loadPost 1 (some .int) 0 := ⟨g1446, g1447, g123, g1448, ⟨by decide +kernel, by decide +kernel⟩, by decide +kernel, Nat.le_of_ble_eq_true rfl⟩
theorem vm_X11_kindHere : VMet yX11_kindHere RX11 cX11_kindHere 1 (some .int) 0 := ⟨g1567, g51, g123, g1568, ⟨by decide +kernel, by decide +kernel⟩, by decide +kernel, Nat.le_of_ble_eq_true rfl⟩
theorem vm_X11_readsNotes : VMet yX11_readsNotes RX11 cX11_readsNotes 4 none 1 := ⟨g1576, g52, g123, g1577, ⟨by decide +kernel, by decide +kernel⟩, by decide +kernel, Nat.le_of_ble_eq_true rfl⟩
theorem vm_X11_readsDeed : VMet yX11_readsDeed RX11 cX11_readsDeed 4 none 0 := ⟨g1563, g50, g123, g1564, ⟨by decide +kernel, by decide +kernel⟩, by decide +kernel, Nat.le_of_ble_eq_true rfl⟩
theorem vm_X11_sendsDeed : VMet yX11_sendsDeed RX11 cX11_sendsDeed 3 (some .int) 1 := ⟨g1588, g55, g123, g1589, ⟨by decide +kernel, by decide +kernel⟩, by decide +kernel, Nat.le_of_ble_eq_true rfl⟩
theorem vm_X11_does : VMet yX11_does RX11 cX11_does 5 (some .boolean) 1 := ⟨g1584, g54, g123, g1585, ⟨by decide +kernel, by decide +kernel⟩, by decide +kernel, Nat.le_of_ble_eq_true rfl⟩
theorem vm_X11_playScript : VMet yX11_playScript RX11 cX11_playScript 2 (some .int) 0 := ⟨g1558, g1559, g123, g1560, ⟨by decide +kernel, by decide +kernel⟩, by decide +kernel, Nat.le_of_ble_eq_true rfl⟩
theorem vm_X11_those : VMet yX11_those RX11 cX11_those 4 (some .int) 1 := ⟨g1720, g85, g123, g1721, ⟨by decide +kernel, by decide +kernel⟩, by decide +kernel, Nat.le_of_ble_eq_true rfl⟩
theorem vm_X11_busyMany : VMet yX11_busyMany RX11 cX11_busyMany 3 (some .int) 0 := ⟨g1724, g86, g123, g1725, ⟨by decide +kernel, by decide +kernel⟩, by decide +kernel, Nat.le_of_ble_eq_true rfl⟩
theorem vm_X11_purses : VMet yX11_purses RX11 cX11_purses 3 (some .int) 0 := ⟨g1728, g87, g123, g1729, ⟨by decide +kernel, by decide +kernel⟩, by decide +kernel, Nat.le_of_ble_eq_true rfl⟩
theorem vm_X11_count : VMet yX11_count RX11 cX11_count 2 (some .int) 1 := ⟨g1710, g1711, g123, g1712, ⟨by decide +kernel, by decide +kernel⟩, by decide +kernel, Nat.le_of_ble_eq_true rfl⟩
theorem vm_X11_account : VMet yX11_account RX11 cX11_account 2 (some .int) 1 := ⟨g1731, g1732, g123, g1733, ⟨by decide +kernel, by decide +kernel⟩, by decide +kernel, Nat.le_of_ble_eq_true rfl⟩
theorem vm_X11_isRoof : VMet yX11_isRoof RX11 cX11_isRoof 2 (some .boolean) 1 := ⟨g1741, g88, g123, g1742, ⟨by decide +kernel, by decide +kernel⟩, by decide +kernel, Nat.le_of_ble_eq_true rfl⟩
theorem vm_X11_areRoofs : VMet yX11_areRoofs RX11 cX11_areRoofs 3 (some .boolean) 2 := ⟨g1767, g91, g123, g1768, ⟨by decide +kernel, by decide +kernel⟩, by decide +kernel, Nat.le_of_ble_eq_true rfl⟩
theorem vm_X11_isTune : VMet yX11_isTune RX11 cX11_isTune 2 (some .boolean) 1 := ⟨g1779, g92, g123, g1780, ⟨by decide +kernel, by decide +kernel⟩, by decide +kernel, Nat.le_of_ble_eq_true rfl⟩
theorem vm_X11_nameByte : VMet yX11_nameByte RX11 cX11_nameByte 3 (some .int) 2 := ⟨g1736, g1737, g123, g1738, ⟨by decide +kernel, by decide +kernel⟩, by decide +kernel, Nat.le_of_ble_eq_true rfl⟩
theorem vm_X11_waitingMany : VMet yX11_waitingMany RX11 cX11_waitingMany 4 (some .int) 1 := ⟨g1750, g89, g123, g1751, ⟨by decide +kernel, by decide +kernel⟩, by decide +kernel, Nat.le_of_ble_eq_true rfl⟩
theorem vm_X11_waysAt : VMet yX11_waysAt RX11 cX11_waysAt 4 (some .int) 1 := ⟨g1754, g90, g123, g1755, ⟨by decide +kernel, by decide +kernel⟩, by decide +kernel, Nat.le_of_ble_eq_true rfl⟩
theorem vm_X11_roof : VMet yX11_roof RX11 cX11_roof 3 (some .int) 2 := ⟨g1744, g1745, g123, g1746, ⟨by decide +kernel, by decide +kernel⟩, by decide +kernel, Nat.le_of_ble_eq_true rfl⟩
theorem vm_X11_way : VMet yX11_way RX11 cX11_way 3 (some .int) 2 := ⟨g1757, g1758, g123, g1759, ⟨by decide +kernel, by decide +kernel⟩, by decide +kernel, Nat.le_of_ble_eq_true rfl⟩
theorem vm_X11_route : VMet yX11_route RX11 cX11_route 3 (some .int) 2 := ⟨g1762, g1763, g123, g1764, ⟨by decide +kernel, by decide +kernel⟩, by decide +kernel, Nat.le_of_ble_eq_true rfl⟩
theorem vm_X11_next : VMet yX11_next RX11 cX11_next 3 (some .int) 2 := ⟨g1770, g1771, g123, g1772, ⟨by decide +kernel, by decide +kernel⟩, by decide +kernel, Nat.le_of_ble_eq_true rfl⟩
theorem vm_X11_tune : VMet yX11_tune RX11 cX11_tune 3 (some .int) 2 := ⟨g1774, g1775, g123, g1776, ⟨by decide +kernel, by decide +kernel⟩, by decide +kernel, Nat.le_of_ble_eq_true rfl⟩
theorem vm_X11_note : VMet yX11_note RX11 cX11_note 5 (some .int) 3 := ⟨g1783, g1784, g123, g1785, ⟨by decide +kernel, by decide +kernel⟩, by decide +kernel, Nat.le_of_ble_eq_true rfl⟩
theorem vm_X11_placeOf : VMet yX11_placeOf RX11 cX11_placeOf 6 (some .int) 2 := ⟨g1792, g93, g123, g1793, ⟨by decide +kernel, by decide +kernel⟩, by decide +kernel, Nat.le_of_ble_eq_true rfl⟩
theorem vm_X11_waiting : VMet yX11_waiting RX11 cX11_waiting 4 (some .int) 2 := ⟨g1787, g1788, g123, g1789, ⟨by decide +kernel, by decide +kernel⟩, by decide +kernel, Nat.le_of_ble_eq_true rfl⟩
theorem vm_X11_reason : VMet yX11_reason RX11 cX11_reason 4 (some .int) 1 := ⟨g1800, g94, g123, g1801, ⟨by decide +kernel, by decide +kernel⟩, by decide +kernel, Nat.le_of_ble_eq_true rfl⟩
theorem vm_X11_cause : VMet yX11_cause RX11 cX11_cause 5 (some .int) 2 := ⟨g1804, g95, g123, g1805, ⟨by decide +kernel, by decide +kernel⟩, by decide +kernel, Nat.le_of_ble_eq_true rfl⟩
theorem vm_X11_why : VMet yX11_why RX11 cX11_why 4 (some .int) 2 := ⟨g1795, g1796, g123, g1797, ⟨by decide +kernel, by decide +kernel⟩, by decide +kernel, Nat.le_of_ble_eq_true rfl⟩
theorem vm_X11_costOf : VMet yX11_costOf RX11 cX11_costOf 6 (some .int) 3 := ⟨g1807, g1808, g123, g1809, ⟨by decide +kernel, by decide +kernel⟩, by decide +kernel, Nat.le_of_ble_eq_true rfl⟩
theorem vm_X11_wrongOf : VMet yX11_wrongOf RX11 cX11_wrongOf 8 (some .int) 4 := ⟨g1817, g96, g123, g1818, ⟨by decide +kernel, by decide +kernel⟩, by decide +kernel, Nat.le_of_ble_eq_true rfl⟩
theorem vm_X11_wrongOn : VMet yX11_wrongOn RX11 cX11_wrongOn 4 (some .int) 3 := ⟨g1812, g1813, g123, g1814, ⟨by decide +kernel, by decide +kernel⟩, by decide +kernel, Nat.le_of_ble_eq_true rfl⟩
theorem vm_X11_calmest : VMet yX11_calmest RX11 cX11_calmest 4 (some .int) 2 := ⟨g1820, g1821, g123, g1822, ⟨by decide +kernel, by decide +kernel⟩, by decide +kernel, Nat.le_of_ble_eq_true rfl⟩
theorem vm_X11_arrivesIn : VMet yX11_arrivesIn RX11 cX11_arrivesIn 3 (some .int) 1 := ⟨g1824, g1825, g123, g1826, ⟨by decide +kernel, by decide +kernel⟩, by decide +kernel, Nat.le_of_ble_eq_true rfl⟩
theorem vm_X11_growsBy : VMet yX11_growsBy RX11 cX11_growsBy 5 (some .int) 2 := ⟨g1828, g1829, g123, g1830, ⟨by decide +kernel, by decide +kernel⟩, by decide +kernel, Nat.le_of_ble_eq_true rfl⟩
theorem vm_X11_partedWithout : VMet yX11_partedWithout RX11 cX11_partedWithout 5 (some .int) 1 := ⟨g1838, g97, g123, g1839, ⟨by decide +kernel, by decide +kernel⟩, by decide +kernel, Nat.le_of_ble_eq_true rfl⟩
theorem vm_X11_dearestWay : VMet yX11_dearestWay RX11 cX11_dearestWay 5 (some .int) 0 := ⟨g1833, g1834, g123, g1835, ⟨by decide +kernel, by decide +kernel⟩, by decide +kernel, Nat.le_of_ble_eq_true rfl⟩
theorem vm_X11_nearestOpen : VMet yX11_nearestOpen RX11 cX11_nearestOpen 3 (some .int) 0 := ⟨g1858, g101, g123, g1859, ⟨by decide +kernel, by decide +kernel⟩, by decide +kernel, Nat.le_of_ble_eq_true rfl⟩
theorem vm_X11_goesOut : VMet yX11_goesOut RX11 cX11_goesOut 6 none 1 := ⟨g1854, g100, g123, g1855, ⟨by decide +kernel, by decide +kernel⟩, by decide +kernel, Nat.le_of_ble_eq_true rfl⟩
theorem vm_X11_areRoutes : VMet yX11_areRoutes RX11 cX11_areRoutes 3 (some .boolean) 0 := ⟨g1850, g99, g123, g1851, ⟨by decide +kernel, by decide +kernel⟩, by decide +kernel, Nat.le_of_ble_eq_true rfl⟩
theorem vm_X11_areTunes : VMet yX11_areTunes RX11 cX11_areTunes 4 (some .boolean) 0 := ⟨g1846, g98, g123, g1847, ⟨by decide +kernel, by decide +kernel⟩, by decide +kernel, Nat.le_of_ble_eq_true rfl⟩
theorem vm_X11_agree : VMet yX11_agree RX11 cX11_agree 2 (some .boolean) 0 := ⟨g1841, g1842, g123, g1843, ⟨by decide +kernel, by decide +kernel⟩, by decide +kernel, Nat.le_of_ble_eq_true rfl⟩
theorem vm_X11_sings : VMet yX11_sings RX11 cX11_sings 5 (some .boolean) 1 := ⟨g1875, g102, g123, g1876, ⟨by decide +kernel, by decide +kernel⟩, by decide +kernel, Nat.le_of_ble_eq_true rfl⟩
theorem vm_X11_send : VMet yX11_send RX11 cX11_send 6 (some .int) 4 := ⟨g1869, g1870, g123, g1871, ⟨by decide +kernel, by decide +kernel⟩, by decide +kernel, Nat.le_of_ble_eq_true rfl⟩
theorem vm_X11_tick : VMet yX11_tick RX11 cX11_tick 2 (some .int) 1 := ⟨g1878, g1879, g123, g1880, ⟨by decide +kernel, by decide +kernel⟩, by decide +kernel, Nat.le_of_ble_eq_true rfl⟩
theorem vm_X11_give : VMet yX11_give RX11 cX11_give 5 (some .int) 2 := ⟨g1883, g1884, g123, g1885, ⟨by decide +kernel, by decide +kernel⟩, by decide +kernel, Nat.le_of_ble_eq_true rfl⟩
theorem vm_X11_cut : VMet yX11_cut RX11 cX11_cut 4 (some .int) 2 := ⟨g1888, g1889, g123, g1890, ⟨by decide +kernel, by decide +kernel⟩, by decide +kernel, Nat.le_of_ble_eq_true rfl⟩
theorem vm_X11_set : VMet yX11_set RX11 cX11_set 4 (some .int) 2 := ⟨g1892, g1893, g123, g1894, ⟨by decide +kernel, by decide +kernel⟩, by decide +kernel, Nat.le_of_ble_eq_true rfl⟩
theorem vm_X11_undo : VMet yX11_undo RX11 cX11_undo 2 (some .int) 0 := ⟨g1896, g1897, g123, g1898, ⟨by decide +kernel, by decide +kernel⟩, by decide +kernel, Nat.le_of_ble_eq_true rfl⟩
theorem vm_X11_says : VMet yX11_says RX11 cX11_says 2 none 1 := ⟨g1909, g104, g123, g1910, ⟨by decide +kernel, by decide +kernel⟩, by decide +kernel, Nat.le_of_ble_eq_true rfl⟩
theorem vm_X11_saysNumber : VMet yX11_saysNumber RX11 cX11_saysNumber 3 none 1 := ⟨g1917, g106, g123, g1918, ⟨by decide +kernel, by decide +kernel⟩, by decide +kernel, Nat.le_of_ble_eq_true rfl⟩
theorem vm_X11_saysName : VMet yX11_saysName RX11 cX11_saysName 3 none 1 := ⟨g1913, g105, g123, g1914, ⟨by decide +kernel, by decide +kernel⟩, by decide +kernel, Nat.le_of_ble_eq_true rfl⟩
theorem vm_X11_saysRoof : VMet yX11_saysRoof RX11 cX11_saysRoof 2 none 1 := ⟨g1905, g103, g123, g1906, ⟨by decide +kernel, by decide +kernel⟩, by decide +kernel, Nat.le_of_ble_eq_true rfl⟩
theorem vm_X11_printRoofs : VMet yX11_printRoofs RX11 cX11_printRoofs 2 (some .int) 0 := ⟨g1900, g1901, g123, g1902, ⟨by decide +kernel, by decide +kernel⟩, by decide +kernel, Nat.le_of_ble_eq_true rfl⟩
theorem vm_X11_printTune : VMet yX11_printTune RX11 cX11_printTune 4 (some .int) 1 := ⟨g1920, g1921, g123, g1922, ⟨by decide +kernel, by decide +kernel⟩, by decide +kernel, Nat.le_of_ble_eq_true rfl⟩
theorem vm_X11_outputByte : VMet yX11_outputByte RX11 cX11_outputByte 2 (some .int) 1 := ⟨g1924, g1925, g123, g1926, ⟨by decide +kernel, by decide +kernel⟩, by decide +kernel, Nat.le_of_ble_eq_true rfl⟩
theorem vm_X11_saveState : VMet yX11_saveState RX11 cX11_saveState 1 (some .int) 0 := ⟨g1928, g1929, g123, g1930, ⟨by decide +kernel, by decide +kernel⟩, by decide +kernel, Nat.le_of_ble_eq_true rfl⟩
theorem vm_X11_restoreState : VMet yX11_restoreState RX11 cX11_restoreState 2 (some .int) 0 := ⟨g1932, g1933, g123, g1934, ⟨by decide +kernel, by decide +kernel⟩, by decide +kernel, Nat.le_of_ble_eq_true rfl⟩
theorem xtI : xthr "java/lang/IndexOutOfBoundsException" 189 193 := xthr.of (by decide) (by decide +kernel) (by decide +kernel) (by decide +kernel) (by decide +kernel) g1039 g129
theorem xtA : xthr "java/lang/IllegalArgumentException" 266 270 := xthr.of (by decide) (by decide +kernel) (by decide +kernel) (by decide +kernel) (by decide +kernel) g936 g128
theorem xtS : xthr "java/lang/IllegalStateException" 277 281 := xthr.of (by decide) (by decide +kernel) (by decide +kernel) (by decide +kernel) (by decide +kernel) g1206 g132
