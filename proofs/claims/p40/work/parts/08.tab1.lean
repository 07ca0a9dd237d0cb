theorem fc0 : fcl 0 RX0 TX0 2 := ⟨rfl, gw_ws [72, 74] (by decide +kernel) (by decide +kernel), nmX0, rfl⟩
theorem fc1 : fcl 1 RX1 TX1 3 := ⟨rfl, gw_ws [189, 191, 193] (by decide +kernel) (by decide +kernel), nmX1, rfl⟩
theorem fc2 : fcl 2 RX2 TX2 10 := ⟨rfl, gw_ws [156, 158, 160, 162, 164, 166, 168, 170, 172, 174] (by decide +kernel) (by decide +kernel), nmX2, rfl⟩
theorem fc3 : fcl 3 RX3 TX3 3 := ⟨rfl, gw_ws [115, 117, 119] (by decide +kernel) (by decide +kernel), nmX3, rfl⟩
theorem fc4 : fcl 4 RX4 TX4 4 := ⟨rfl, gw_ws [250, 252, 254, 256] (by decide +kernel) (by decide +kernel), nmX4, rfl⟩
theorem fc5 : fcl 5 RX5 TX5 2 := ⟨rfl, gw_ws [233, 235] (by decide +kernel) (by decide +kernel), nmX5, rfl⟩
theorem fc6 : fcl 6 RX7 TX7 3 := ⟨rfl, gw_ws [93, 95, 97] (by decide +kernel) (by decide +kernel), nmX7, rfl⟩
theorem fc7 : fcl 7 RX9 TX9 7 := ⟨rfl, gw_ws [210, 212, 214, 216, 218, 220, 222] (by decide +kernel) (by decide +kernel), nmX9, rfl⟩
theorem fc8 : fcl 8 RX10 TX10 10 := ⟨rfl, gw_ws [506, 508, 510, 512, 514, 516, 518, 520, 522, 524] (by decide +kernel) (by decide +kernel), nmX10, rfl⟩
theorem kt_0_0 {a : Nat} (h : shK a = 10 + 0) : shK (shR a 0) = 0 := kt_of 0 0 (0) (by decide +kernel) h
theorem kt_1_0 {a : Nat} (h : shK a = 10 + 1) : shK (shR a 0) = 3 := kt_of 1 0 (3) (by decide +kernel) h
theorem kt_2_4 {a : Nat} (h : shK a = 10 + 2) : shK (shR a 4) = 10 + 6 := kt_of 2 4 (10 + 6) (by decide +kernel) h
theorem kt_2_5 {a : Nat} (h : shK a = 10 + 2) : shK (shR a 5) = 10 + 6 := kt_of 2 5 (10 + 6) (by decide +kernel) h
theorem kt_2_6 {a : Nat} (h : shK a = 10 + 2) : shK (shR a 6) = 10 + 6 := kt_of 2 6 (10 + 6) (by decide +kernel) h
theorem kt_2_7 {a : Nat} (h : shK a = 10 + 2) : shK (shR a 7) = 10 + 6 := kt_of 2 7 (10 + 6) (by decide +kernel) h
theorem kt_2_8 {a : Nat} (h : shK a = 10 + 2) : shK (shR a 8) = 10 + 6 := kt_of 2 8 (10 + 6) (by decide +kernel) h
theorem kt_2_9 {a : Nat} (h : shK a = 10 + 2) : shK (shR a 9) = 10 + 3 := kt_of 2 9 (10 + 3) (by decide +kernel) h
theorem kt_3_0 {a : Nat} (h : shK a = 10 + 3) : shK (shR a 0) = 10 + 6 := kt_of 3 0 (10 + 6) (by decide +kernel) h
theorem kt_3_1 {a : Nat} (h : shK a = 10 + 3) : shK (shR a 1) = 10 + 6 := kt_of 3 1 (10 + 6) (by decide +kernel) h
theorem kt_3_2 {a : Nat} (h : shK a = 10 + 3) : shK (shR a 2) = 10 + 6 := kt_of 3 2 (10 + 6) (by decide +kernel) h
theorem kt_4_0 {a : Nat} (h : shK a = 10 + 4) : shK (shR a 0) = 10 + 7 := kt_of 4 0 (10 + 7) (by decide +kernel) h
theorem kt_4_1 {a : Nat} (h : shK a = 10 + 4) : shK (shR a 1) = 10 + 2 := kt_of 4 1 (10 + 2) (by decide +kernel) h
theorem kt_4_2 {a : Nat} (h : shK a = 10 + 4) : shK (shR a 2) = 10 + 6 := kt_of 4 2 (10 + 6) (by decide +kernel) h
theorem kt_5_0 {a : Nat} (h : shK a = 10 + 5) : shK (shR a 0) = 10 + 7 := kt_of 5 0 (10 + 7) (by decide +kernel) h
theorem kt_5_1 {a : Nat} (h : shK a = 10 + 5) : shK (shR a 1) = 10 + 2 := kt_of 5 1 (10 + 2) (by decide +kernel) h
theorem kt_6_2 {a : Nat} (h : shK a = 10 + 6) : shK (shR a 2) = 0 := kt_of 6 2 (0) (by decide +kernel) h
theorem kt_7_0 {a : Nat} (h : shK a = 10 + 7) : shK (shR a 0) = 10 + 0 := kt_of 7 0 (10 + 0) (by decide +kernel) h
theorem kt_8_0 {a : Nat} (h : shK a = 10 + 8) : shK (shR a 0) = 10 + 0 := kt_of 8 0 (10 + 0) (by decide +kernel) h
theorem kt_8_1 {a : Nat} (h : shK a = 10 + 8) : shK (shR a 1) = 10 + 0 := kt_of 8 1 (10 + 0) (by decide +kernel) h
theorem kt_8_2 {a : Nat} (h : shK a = 10 + 8) : shK (shR a 2) = 10 + 7 := kt_of 8 2 (10 + 7) (by decide +kernel) h
theorem kt_8_3 {a : Nat} (h : shK a = 10 + 8) : shK (shR a 3) = 10 + 5 := kt_of 8 3 (10 + 5) (by decide +kernel) h
theorem kt_8_4 {a : Nat} (h : shK a = 10 + 8) : shK (shR a 4) = 10 + 4 := kt_of 8 4 (10 + 4) (by decide +kernel) h
theorem kt_8_5 {a : Nat} (h : shK a = 10 + 8) : shK (shR a 5) = 10 + 2 := kt_of 8 5 (10 + 2) (by decide +kernel) h
theorem kt_8_6 {a : Nat} (h : shK a = 10 + 8) : shK (shR a 6) = 10 + 2 := kt_of 8 6 (10 + 2) (by decide +kernel) h
theorem kt_8_7 {a : Nat} (h : shK a = 10 + 8) : shK (shR a 7) = 10 + 2 := kt_of 8 7 (10 + 2) (by decide +kernel) h
theorem kt_8_8 {a : Nat} (h : shK a = 10 + 8) : shK (shR a 8) = 10 + 1 := kt_of 8 8 (10 + 1) (by decide +kernel) h
theorem vm_X0_size : VMet yX0_size RX0 cX0_size 1 (some .int) 0 := ⟨g345, g346, g28, g347, ⟨by decide +kernel, by decide +kernel⟩, by decide +kernel, Nat.le_of_ble_eq_true rfl⟩
theorem vm_X0_get : VMet yX0_get RX0 cX0_get 2 (some .int) 1 := ⟨g349, g350, g28, g351, ⟨by decide +kernel, by decide +kernel⟩, by decide +kernel, Nat.le_of_ble_eq_true rfl⟩
theorem vm_X0_add : VMet yX0_add RX0 cX0_add 2 none 1 := ⟨g313, g314, g28, g315, ⟨by decide +kernel, by decide +kernel⟩, by decide +kernel, Nat.le_of_ble_eq_true rfl⟩
theorem vm_X0_addText : VMet yX0_addText RX0 cX0_addText 3 none 1 := ⟨g261, g262, g28, g263, ⟨by decide +kernel, by decide +kernel⟩, by decide +kernel, Nat.le_of_ble_eq_true rfl⟩
theorem vm_X0_cutTo : VMet yX0_cutTo RX0 cX0_cutTo 2 (some .boolean) 1 := ⟨g674, g675, g28, g676, ⟨by decide +kernel, by decide +kernel⟩, by decide +kernel, Nat.le_of_ble_eq_true rfl⟩
theorem vm_X0_clear : VMet yX0_clear RX0 cX0_clear 1 none 0 := ⟨g493, g494, g28, g495, ⟨by decide +kernel, by decide +kernel⟩, by decide +kernel, Nat.le_of_ble_eq_true rfl⟩
theorem vm_X1_size : VMet yX1_size RX1 cX1_size 1 (some .int) 0 := ⟨g1009, g1010, g32, g1011, ⟨by decide +kernel, by decide +kernel⟩, by decide +kernel, Nat.le_of_ble_eq_true rfl⟩
theorem vm_X1_forget : VMet yX1_forget RX1 cX1_forget 1 none 0 := ⟨g533, g534, g32, g535, ⟨by decide +kernel, by decide +kernel⟩, by decide +kernel, Nat.le_of_ble_eq_true rfl⟩
theorem vm_X1_postAt : VMet yX1_postAt RX1 cX1_postAt 3 (some (.object "WhistlePosts$Post")) 1 := ⟨g788, g14, g32, g789, ⟨by decide +kernel, by decide +kernel⟩, by decide +kernel, Nat.le_of_ble_eq_true rfl⟩
theorem vm_X7_copyFrom : VMet yX7_copyFrom RX7 cX7_copyFrom 2 none 1 := ⟨g478, g479, g30, g480, ⟨by decide +kernel, by decide +kernel⟩, by decide +kernel, Nat.le_of_ble_eq_true rfl⟩
theorem vm_X3_copyFrom : VMet yX3_copyFrom RX3 cX3_copyFrom 2 none 1 := ⟨g488, g489, g31, g490, ⟨by decide +kernel, by decide +kernel⟩, by decide +kernel, Nat.le_of_ble_eq_true rfl⟩
theorem vm_X2_copyFrom : VMet yX2_copyFrom RX2 cX2_copyFrom 2 none 1 := ⟨g474, g475, g29, g476, ⟨by decide +kernel, by decide +kernel⟩, by decide +kernel, Nat.le_of_ble_eq_true rfl⟩
theorem vm_X1_keep : VMet yX1_keep RX1 cX1_keep 3 none 1 := ⟨g783, g784, g32, g785, ⟨by decide +kernel, by decide +kernel⟩, by decide +kernel, Nat.le_of_ble_eq_true rfl⟩
theorem vm_X7_put : VMet yX7_put RX7 cX7_put 5 none 3 := ⟨g329, g330, g30, g331, ⟨by decide +kernel, by decide +kernel⟩, by decide +kernel, Nat.le_of_ble_eq_true rfl⟩
theorem vm_X2_settle : VMet yX2_settle RX2 cX2_settle 3 none 2 := ⟨g325, g326, g29, g327, ⟨by decide +kernel, by decide +kernel⟩, by decide +kernel, Nat.le_of_ble_eq_true rfl⟩
theorem vm_X7_clearTo : VMet yX7_clearTo RX7 cX7_clearTo 3 none 1 := ⟨g333, g334, g30, g335, ⟨by decide +kernel, by decide +kernel⟩, by decide +kernel, Nat.le_of_ble_eq_true rfl⟩
theorem vm_X2_clear : VMet yX2_clear RX2 cX2_clear 1 none 0 := ⟨g321, g322, g29, g323, ⟨by decide +kernel, by decide +kernel⟩, by decide +kernel, Nat.le_of_ble_eq_true rfl⟩
theorem sm_X2_leastOf : SMet yX2_leastOf cX2_leastOf 1 (some .int) 1 := ⟨g440, g29, g441, ⟨by decide +kernel, by decide +kernel⟩, by decide +kernel, Nat.le_of_ble_eq_true rfl⟩
theorem sm_X2_mostOf : SMet yX2_mostOf cX2_mostOf 1 (some .int) 1 := ⟨g443, g29, g444, ⟨by decide +kernel, by decide +kernel⟩, by decide +kernel, Nat.le_of_ble_eq_true rfl⟩
theorem vm_X7_get : VMet yX7_get RX7 cX7_get 4 (some .int) 2 := ⟨g385, g386, g30, g387, ⟨by decide +kernel, by decide +kernel⟩, by decide +kernel, Nat.le_of_ble_eq_true rfl⟩
theorem vm_X2_setting : VMet yX2_setting RX2 cX2_setting 2 (some .int) 1 := ⟨g868, g869, g29, g870, ⟨by decide +kernel, by decide +kernel⟩, by decide +kernel, Nat.le_of_ble_eq_true rfl⟩
theorem vm_X7_grow : VMet yX7_grow RX7 cX7_grow 5 none 3 := ⟨g849, g850, g30, g851, ⟨by decide +kernel, by decide +kernel⟩, by decide +kernel, Nat.le_of_ble_eq_true rfl⟩
theorem vm_X2_enter : VMet yX2_enter RX2 cX2_enter 3 none 2 := ⟨g845, g846, g29, g847, ⟨by decide +kernel, by decide +kernel⟩, by decide +kernel, Nat.le_of_ble_eq_true rfl⟩
theorem vm_X2_addRoof : VMet yX2_addRoof RX2 cX2_addRoof 7 none 5 := ⟨g401, g402, g29, g403, ⟨by decide +kernel, by decide +kernel⟩, by decide +kernel, Nat.le_of_ble_eq_true rfl⟩
theorem vm_X2_addWay : VMet yX2_addWay RX2 cX2_addWay 4 none 3 := ⟨g424, g425, g29, g426, ⟨by decide +kernel, by decide +kernel⟩, by decide +kernel, Nat.le_of_ble_eq_true rfl⟩
theorem vm_X2_addTune : VMet yX2_addTune RX2 cX2_addTune 8 (some .int) 6 := ⟨g841, g842, g29, g843, ⟨by decide +kernel, by decide +kernel⟩, by decide +kernel, Nat.le_of_ble_eq_true rfl⟩
theorem vm_X2_hasTimeFor : VMet yX2_hasTimeFor RX2 cX2_hasTimeFor 2 (some .boolean) 1 := ⟨g918, g919, g29, g920, ⟨by decide +kernel, by decide +kernel⟩, by decide +kernel, Nat.le_of_ble_eq_true rfl⟩
theorem vm_X2_hasRoomFor : VMet yX2_hasRoomFor RX2 cX2_hasRoomFor 3 (some .boolean) 2 := ⟨g877, g878, g29, g879, ⟨by decide +kernel, by decide +kernel⟩, by decide +kernel, Nat.le_of_ble_eq_true rfl⟩
theorem vm_X2_takeCoins : VMet yX2_takeCoins RX2 cX2_takeCoins 3 none 2 := ⟨g882, g883, g29, g884, ⟨by decide +kernel, by decide +kernel⟩, by decide +kernel, Nat.le_of_ble_eq_true rfl⟩
theorem vm_X2_acrossFrom : VMet yX2_acrossFrom RX2 cX2_acrossFrom 5 (some .int) 2 := ⟨g420, g421, g29, g422, ⟨by decide +kernel, by decide +kernel⟩, by decide +kernel, Nat.le_of_ble_eq_true rfl⟩
theorem vm_X2_wayBetween : VMet yX2_wayBetween RX2 cX2_wayBetween 4 (some .int) 2 := ⟨g416, g417, g29, g418, ⟨by decide +kernel, by decide +kernel⟩, by decide +kernel, Nat.le_of_ble_eq_true rfl⟩
theorem vm_X7_removeRow : VMet yX7_removeRow RX7 cX7_removeRow 4 none 1 := ⟨g797, g798, g30, g799, ⟨by decide +kernel, by decide +kernel⟩, by decide +kernel, Nat.le_of_ble_eq_true rfl⟩
theorem vm_X3_layNone : VMet yX3_layNone RX3 cX3_layNone 3 none 1 := ⟨g452, g4, g31, g453, ⟨by decide +kernel, by decide +kernel⟩, by decide +kernel, Nat.le_of_ble_eq_true rfl⟩
theorem vm_X3_layWay : VMet yX3_layWay RX3 cX3_layWay 4 none 3 := ⟨g459, g5, g31, g460, ⟨by decide +kernel, by decide +kernel⟩, by decide +kernel, Nat.le_of_ble_eq_true rfl⟩
theorem vm_X3_shorten : VMet yX3_shorten RX3 cX3_shorten 4 none 3 := ⟨g463, g6, g31, g464, ⟨by decide +kernel, by decide +kernel⟩, by decide +kernel, Nat.le_of_ble_eq_true rfl⟩
theorem vm_X3_beginOf : VMet yX3_beginOf RX3 cX3_beginOf 5 (some .int) 2 := ⟨g471, g8, g31, g472, ⟨by decide +kernel, by decide +kernel⟩, by decide +kernel, Nat.le_of_ble_eq_true rfl⟩
theorem vm_X3_pointAll : VMet yX3_pointAll RX3 cX3_pointAll 4 none 1 := ⟨g467, g7, g31, g468, ⟨by decide +kernel, by decide +kernel⟩, by decide +kernel, Nat.le_of_ble_eq_true rfl⟩
theorem vm_X3_lay : VMet yX3_lay RX3 cX3_lay 5 none 1 := ⟨g447, g448, g31, g449, ⟨by decide +kernel, by decide +kernel⟩, by decide +kernel, Nat.le_of_ble_eq_true rfl⟩
theorem vm_X2_cutWay : VMet yX2_cutWay RX2 cX2_cutWay 4 (some .boolean) 2 := ⟨g792, g793, g29, g794, ⟨by decide +kernel, by decide +kernel⟩, by decide +kernel, Nat.le_of_ble_eq_true rfl⟩
theorem vm_X2_roofNamed : VMet yX2_roofNamed RX2 cX2_roofNamed 3 (some .int) 1 := ⟨g381, g382, g29, g383, ⟨by decide +kernel, by decide +kernel⟩, by decide +kernel, Nat.le_of_ble_eq_true rfl⟩
theorem vm_X2_tunesIn : VMet yX2_tunesIn RX2 cX2_tunesIn 4 (some .int) 1 := ⟨g1017, g1018, g29, g1019, ⟨by decide +kernel, by decide +kernel⟩, by decide +kernel, Nat.le_of_ble_eq_true rfl⟩
theorem vm_X2_isBusy : VMet yX2_isBusy RX2 cX2_isBusy 3 (some .boolean) 2 := ⟨g962, g963, g29, g964, ⟨by decide +kernel, by decide +kernel⟩, by decide +kernel, Nat.le_of_ble_eq_true rfl⟩
theorem vm_X2_busyWhistlers : VMet yX2_busyWhistlers RX2 cX2_busyWhistlers 3 (some .int) 0 := ⟨g1021, g1022, g29, g1023, ⟨by decide +kernel, by decide +kernel⟩, by decide +kernel, Nat.le_of_ble_eq_true rfl⟩
theorem vm_X2_pursesTogether : VMet yX2_pursesTogether RX2 cX2_pursesTogether 3 (some .int) 0 := ⟨g1026, g1027, g29, g1028, ⟨by decide +kernel, by decide +kernel⟩, by decide +kernel, Nat.le_of_ble_eq_true rfl⟩
theorem vm_X2_numberOfAll : VMet yX2_numberOfAll RX2 cX2_numberOfAll 2 (some .int) 1 := ⟨g1013, g1014, g29, g1015, ⟨by decide +kernel, by decide +kernel⟩, by decide +kernel, Nat.le_of_ble_eq_true rfl⟩
theorem vm_X2_isWaitingAt : VMet yX2_isWaitingAt RX2 cX2_isWaitingAt 3 (some .boolean) 2 := ⟨g970, g971, g29, g972, ⟨by decide +kernel, by decide +kernel⟩, by decide +kernel, Nat.le_of_ble_eq_true rfl⟩
theorem vm_X2_tunesAt : VMet yX2_tunesAt RX2 cX2_tunesAt 4 (some .int) 1 := ⟨g1043, g1044, g29, g1045, ⟨by decide +kernel, by decide +kernel⟩, by decide +kernel, Nat.le_of_ble_eq_true rfl⟩
theorem vm_X2_waysAt : VMet yX2_waysAt RX2 cX2_waysAt 4 (some .int) 1 := ⟨g1047, g1048, g29, g1049, ⟨by decide +kernel, by decide +kernel⟩, by decide +kernel, Nat.le_of_ble_eq_true rfl⟩
theorem vm_X2_numberOfRoof : VMet yX2_numberOfRoof RX2 cX2_numberOfRoof 3 (some .int) 2 := ⟨g1039, g1040, g29, g1041, ⟨by decide +kernel, by decide +kernel⟩, by decide +kernel, Nat.le_of_ble_eq_true rfl⟩
theorem sm_X2_barsOf : SMet yX2_barsOf cX2_barsOf 1 (some .int) 1 := ⟨g982, g29, g983, ⟨by decide +kernel, by decide +kernel⟩, by decide +kernel, Nat.le_of_ble_eq_true rfl⟩
theorem vm_X2_barsOfTune : VMet yX2_barsOfTune RX2 cX2_barsOfTune 2 (some .int) 1 := ⟨g985, g986, g29, g987, ⟨by decide +kernel, by decide +kernel⟩, by decide +kernel, Nat.le_of_ble_eq_true rfl⟩
theorem sm_X10_noteOf : SMet yX10_noteOf cX10_noteOf 2 (some .int) 2 := ⟨g944, g27, g945, ⟨by decide +kernel, by decide +kernel⟩, by decide +kernel, Nat.le_of_ble_eq_true rfl⟩
theorem vm_X2_notesUnlikeSent : VMet yX2_notesUnlikeSent RX2 cX2_notesUnlikeSent 6 (some .int) 1 := ⟨g1072, g1073, g29, g1074, ⟨by decide +kernel, by decide +kernel⟩, by decide +kernel, Nat.le_of_ble_eq_true rfl⟩
theorem vm_X2_numberOfTune : VMet yX2_numberOfTune RX2 cX2_numberOfTune 3 (some .int) 2 := ⟨g1068, g1069, g29, g1070, ⟨by decide +kernel, by decide +kernel⟩, by decide +kernel, Nat.le_of_ble_eq_true rfl⟩
theorem vm_X2_nextOf : VMet yX2_nextOf RX2 cX2_nextOf 2 (some .int) 1 := ⟨g974, g975, g29, g976, ⟨by decide +kernel, by decide +kernel⟩, by decide +kernel, Nat.le_of_ble_eq_true rfl⟩
theorem vm_X2_lackOf : VMet yX2_lackOf RX2 cX2_lackOf 3 (some .int) 1 := ⟨g978, g979, g29, g980, ⟨by decide +kernel, by decide +kernel⟩, by decide +kernel, Nat.le_of_ble_eq_true rfl⟩
theorem vm_X2_firstToGoFrom : VMet yX2_firstToGoFrom RX2 cX2_firstToGoFrom 4 (some .int) 1 := ⟨g966, g967, g29, g968, ⟨by decide +kernel, by decide +kernel⟩, by decide +kernel, Nat.le_of_ble_eq_true rfl⟩
theorem vm_X2_wrongOf : VMet yX2_wrongOf RX2 cX2_wrongOf 6 (some .int) 4 := ⟨g935, g936, g29, g937, ⟨by decide +kernel, by decide +kernel⟩, by decide +kernel, Nat.le_of_ble_eq_true rfl⟩
theorem vm_X3_sumByWays : VMet yX3_sumByWays RX3 cX3_sumByWays 8 none 1 := ⟨g1086, g1087, g31, g1088, ⟨by decide +kernel, by decide +kernel⟩, by decide +kernel, Nat.le_of_ble_eq_true rfl⟩
theorem vm_X3_hasSameSums : VMet yX3_hasSameSums RX3 cX3_hasSameSums 5 (some .boolean) 2 := ⟨g1090, g1091, g31, g1092, ⟨by decide +kernel, by decide +kernel⟩, by decide +kernel, Nat.le_of_ble_eq_true rfl⟩
theorem sm_X9_kindOf : SMet yX9_kindOf cX9_kindOf 1 (some .int) 1 := ⟨g353, g33, g354, ⟨by decide +kernel, by decide +kernel⟩, by decide +kernel, Nat.le_of_ble_eq_true rfl⟩
theorem vm_X9_step : VMet yX9_step RX9 cX9_step 3 none 0 := ⟨g341, g342, g33, g343, ⟨by decide +kernel, by decide +kernel⟩, by decide +kernel, Nat.le_of_ble_eq_true rfl⟩
theorem vm_X9_open : VMet yX9_open RX9 cX9_open 1 none 0 := ⟨g337, g338, g33, g339, ⟨by decide +kernel, by decide +kernel⟩, by decide +kernel, Nat.le_of_ble_eq_true rfl⟩
theorem vm_X9_isWord : VMet yX9_isWord RX9 cX9_isWord 3 (some .boolean) 1 := ⟨g361, g362, g33, g363, ⟨by decide +kernel, by decide +kernel⟩, by decide +kernel, Nat.le_of_ble_eq_true rfl⟩
theorem vm_X9_fail : VMet yX9_fail RX9 cX9_fail 2 (some .boolean) 1 := ⟨g371, g372, g33, g373, ⟨by decide +kernel, by decide +kernel⟩, by decide +kernel, Nat.le_of_ble_eq_true rfl⟩
theorem vm_X9_nameHere : VMet yX9_nameHere RX9 cX9_nameHere 3 (some .int) 0 := ⟨g376, g377, g33, g378, ⟨by decide +kernel, by decide +kernel⟩, by decide +kernel, Nat.le_of_ble_eq_true rfl⟩
theorem vm_X9_isNumberHere : VMet yX9_isNumberHere RX9 cX9_isNumberHere 3 (some .boolean) 2 := ⟨g393, g394, g33, g395, ⟨by decide +kernel, by decide +kernel⟩, by decide +kernel, Nat.le_of_ble_eq_true rfl⟩
theorem vm_X9_takeNumber : VMet yX9_takeNumber RX9 cX9_takeNumber 4 (some .int) 2 := ⟨g389, g390, g33, g391, ⟨by decide +kernel, by decide +kernel⟩, by decide +kernel, Nat.le_of_ble_eq_true rfl⟩
theorem vm_X9_isSemicolonTaken : VMet yX9_isSemicolonTaken RX9 cX9_isSemicolonTaken 1 (some .boolean) 0 := ⟨g397, g398, g33, g399, ⟨by decide +kernel, by decide +kernel⟩, by decide +kernel, Nat.le_of_ble_eq_true rfl⟩
theorem vm_X5_isRoofRead : VMet yX5_isRoofRead RX5 cX5_isRoofRead 6 (some .boolean) 0 := ⟨g368, g1, g34, g369, ⟨by decide +kernel, by decide +kernel⟩, by decide +kernel, Nat.le_of_ble_eq_true rfl⟩
theorem vm_X9_roofHere : VMet yX9_roofHere RX9 cX9_roofHere 5 (some .int) 2 := ⟨g410, g411, g33, g412, ⟨by decide +kernel, by decide +kernel⟩, by decide +kernel, Nat.le_of_ble_eq_true rfl⟩
theorem vm_X5_isWayRead : VMet yX5_isWayRead RX5 cX5_isWayRead 4 (some .boolean) 0 := ⟨g407, g2, g34, g408, ⟨by decide +kernel, by decide +kernel⟩, by decide +kernel, Nat.le_of_ble_eq_true rfl⟩
theorem vm_X9_settingWord : VMet yX9_settingWord RX9 cX9_settingWord 1 (some .int) 0 := ⟨g428, g429, g33, g430, ⟨by decide +kernel, by decide +kernel⟩, by decide +kernel, Nat.le_of_ble_eq_true rfl⟩
theorem vm_X5_isSettingRead : VMet yX5_isSettingRead RX5 cX5_isSettingRead 3 (some .boolean) 1 := ⟨g437, g3, g34, g438, ⟨by decide +kernel, by decide +kernel⟩, by decide +kernel, Nat.le_of_ble_eq_true rfl⟩
theorem vm_X5_isStatementRead : VMet yX5_isStatementRead RX5 cX5_isStatementRead 2 (some .boolean) 0 := ⟨g357, g0, g34, g358, ⟨by decide +kernel, by decide +kernel⟩, by decide +kernel, Nat.le_of_ble_eq_true rfl⟩
theorem vm_X5_isRead : VMet yX5_isRead RX5 cX5_isRead 2 (some .boolean) 0 := ⟨g317, g318, g34, g319, ⟨by decide +kernel, by decide +kernel⟩, by decide +kernel, Nat.le_of_ble_eq_true rfl⟩
theorem sm_X6_areTunesRight : SMet yX6_areTunesRight cX6_areTunesRight 4 (some .boolean) 1 := ⟨g1094, g53, g1095, ⟨by decide +kernel, by decide +kernel⟩, by decide +kernel, Nat.le_of_ble_eq_true rfl⟩
theorem sm_X6_areAccountsRight : SMet yX6_areAccountsRight cX6_areAccountsRight 4 (some .boolean) 1 := ⟨g1098, g53, g1099, ⟨by decide +kernel, by decide +kernel⟩, by decide +kernel, Nat.le_of_ble_eq_true rfl⟩
theorem sm_X8_raised : SMet yX8_raised cX8_raised 4 (some .int) 2 := ⟨g941, g55, g942, ⟨by decide +kernel, by decide +kernel⟩, by decide +kernel, Nat.le_of_ble_eq_true rfl⟩
theorem sm_X8_land : SMet yX8_land cX8_land 6 none 2 := ⟨g931, g55, g932, ⟨by decide +kernel, by decide +kernel⟩, by decide +kernel, Nat.le_of_ble_eq_true rfl⟩
theorem sm_X8_turned : SMet yX8_turned cX8_turned 4 (some .int) 2 := ⟨g952, g55, g953, ⟨by decide +kernel, by decide +kernel⟩, by decide +kernel, Nat.le_of_ble_eq_true rfl⟩
theorem sm_X8_reachGoal : SMet yX8_reachGoal cX8_reachGoal 5 none 2 := ⟨g948, g55, g949, ⟨by decide +kernel, by decide +kernel⟩, by decide +kernel, Nat.le_of_ble_eq_true rfl⟩
theorem sm_X8_landAll : SMet yX8_landAll cX8_landAll 3 none 1 := ⟨g927, g55, g928, ⟨by decide +kernel, by decide +kernel⟩, by decide +kernel, Nat.le_of_ble_eq_true rfl⟩
theorem sm_X8_roofsWithTunes : SMet yX8_roofsWithTunes cX8_roofsWithTunes 3 (some .int) 1 := ⟨g959, g55, g960, ⟨by decide +kernel, by decide +kernel⟩, by decide +kernel, Nat.le_of_ble_eq_true rfl⟩
theorem sm_X8_breathsFor : SMet yX8_breathsFor cX8_breathsFor 4 (some .int) 3 := ⟨g994, g55, g995, ⟨by decide +kernel, by decide +kernel⟩, by decide +kernel, Nat.le_of_ble_eq_true rfl⟩
theorem sm_X8_whistle : SMet yX8_whistle cX8_whistle 7 none 3 := ⟨g989, g55, g990, ⟨by decide +kernel, by decide +kernel⟩, by decide +kernel, Nat.le_of_ble_eq_true rfl⟩
theorem sm_X8_whistleAll : SMet yX8_whistleAll cX8_whistleAll 4 none 1 := ⟨g956, g55, g957, ⟨by decide +kernel, by decide +kernel⟩, by decide +kernel, Nat.le_of_ble_eq_true rfl⟩
theorem sm_X8_loseAll : SMet yX8_loseAll cX8_loseAll 2 none 1 := ⟨g998, g55, g999, ⟨by decide +kernel, by decide +kernel⟩, by decide +kernel, Nat.le_of_ble_eq_true rfl⟩
theorem sm_X8_run : SMet yX8_run cX8_run 3 none 2 := ⟨g923, g55, g924, ⟨by decide +kernel, by decide +kernel⟩, by decide +kernel, Nat.le_of_ble_eq_true rfl⟩
theorem vm_X10_appendFour : VMet yX10_appendFour RX10 cX10_appendFour 3 none 1 := ⟨g666, g9, g27, g667, ⟨by decide +kernel, by decide +kernel⟩, by decide +kernel, Nat.le_of_ble_eq_true rfl⟩
theorem vm_X10_appendInput : VMet yX10_appendInput RX10 cX10_appendInput 6 (some .int) 5 := ⟨g660, g661, g27, g662, ⟨by decide +kernel, by decide +kernel⟩, by decide +kernel, Nat.le_of_ble_eq_true rfl⟩
theorem vm_X10_truncateInput : VMet yX10_truncateInput RX10 cX10_truncateInput 2 (some .boolean) 1 := ⟨g670, g671, g27, g672, ⟨by decide +kernel, by decide +kernel⟩, by decide +kernel, Nat.le_of_ble_eq_true rfl⟩
theorem vm_X10_loadPost : VMet yX10_loadPost RX10 cX10_loadPost 2 (some .int) 0 := ⟨g529, g530, g27, g531, ⟨by decide +kernel, by decide +kernel⟩, by decide +kernel, Nat.le_of_ble_eq_true rfl⟩
theorem vm_X10_needNumber : VMet yX10_needNumber RX10 cX10_needNumber 4 none 3 := ⟨g826, g15, g27, g827, ⟨by decide +kernel, by decide +kernel⟩, by decide +kernel, Nat.le_of_ble_eq_true rfl⟩
theorem vm_X10_count : VMet yX10_count RX10 cX10_count 2 (some .int) 1 := ⟨g1005, g1006, g27, g1007, ⟨by decide +kernel, by decide +kernel⟩, by decide +kernel, Nat.le_of_ble_eq_true rfl⟩
theorem vm_X10_account : VMet yX10_account RX10 cX10_account 2 (some .int) 1 := ⟨g1031, g1032, g27, g1033, ⟨by decide +kernel, by decide +kernel⟩, by decide +kernel, Nat.le_of_ble_eq_true rfl⟩
theorem vm_X10_needRoof : VMet yX10_needRoof RX10 cX10_needRoof 2 none 1 := ⟨g696, g12, g27, g697, ⟨by decide +kernel, by decide +kernel⟩, by decide +kernel, Nat.le_of_ble_eq_true rfl⟩
theorem vm_X10_roof : VMet yX10_roof RX10 cX10_roof 3 (some .int) 2 := ⟨g1035, g1036, g27, g1037, ⟨by decide +kernel, by decide +kernel⟩, by decide +kernel, Nat.le_of_ble_eq_true rfl⟩
theorem vm_X10_route : VMet yX10_route RX10 cX10_route 4 (some .int) 2 := ⟨g1051, g1052, g27, g1053, ⟨by decide +kernel, by decide +kernel⟩, by decide +kernel, Nat.le_of_ble_eq_true rfl⟩
theorem vm_X10_next : VMet yX10_next RX10 cX10_next 3 (some .int) 2 := ⟨g1055, g1056, g27, g1057, ⟨by decide +kernel, by decide +kernel⟩, by decide +kernel, Nat.le_of_ble_eq_true rfl⟩
theorem vm_X10_needTune : VMet yX10_needTune RX10 cX10_needTune 2 none 1 := ⟨g1064, g25, g27, g1065, ⟨by decide +kernel, by decide +kernel⟩, by decide +kernel, Nat.le_of_ble_eq_true rfl⟩
theorem vm_X10_tune : VMet yX10_tune RX10 cX10_tune 3 (some .int) 2 := ⟨g1059, g1060, g27, g1061, ⟨by decide +kernel, by decide +kernel⟩, by decide +kernel, Nat.le_of_ble_eq_true rfl⟩
theorem vm_X10_note : VMet yX10_note RX10 cX10_note 4 (some .int) 3 := ⟨g1077, g1078, g27, g1079, ⟨by decide +kernel, by decide +kernel⟩, by decide +kernel, Nat.le_of_ble_eq_true rfl⟩
theorem vm_X10_agree : VMet yX10_agree RX10 cX10_agree 1 (some .boolean) 0 := ⟨g1082, g1083, g27, g1084, ⟨by decide +kernel, by decide +kernel⟩, by decide +kernel, Nat.le_of_ble_eq_true rfl⟩
theorem sm_X10_areDigitsNotes : SMet yX10_areDigitsNotes cX10_areDigitsNotes 2 (some .boolean) 1 := ⟨g830, g27, g831, ⟨by decide +kernel, by decide +kernel⟩, by decide +kernel, Nat.le_of_ble_eq_true rfl⟩
theorem sm_X10_digitsOf : SMet yX10_digitsOf cX10_digitsOf 3 (some .int) 1 := ⟨g835, g27, g836, ⟨by decide +kernel, by decide +kernel⟩, by decide +kernel, Nat.le_of_ble_eq_true rfl⟩
theorem sm_X10_notesOfDigits : SMet yX10_notesOfDigits cX10_notesOfDigits 3 (some .int) 1 := ⟨g838, g27, g839, ⟨by decide +kernel, by decide +kernel⟩, by decide +kernel, Nat.le_of_ble_eq_true rfl⟩
theorem vm_X10_send : VMet yX10_send RX10 cX10_send 5 (some .int) 4 := ⟨g804, g805, g27, g806, ⟨by decide +kernel, by decide +kernel⟩, by decide +kernel, Nat.le_of_ble_eq_true rfl⟩
theorem vm_X10_tick : VMet yX10_tick RX10 cX10_tick 3 (some .int) 1 := ⟨g914, g915, g27, g916, ⟨by decide +kernel, by decide +kernel⟩, by decide +kernel, Nat.le_of_ble_eq_true rfl⟩
theorem vm_X10_give : VMet yX10_give RX10 cX10_give 3 (some .int) 2 := ⟨g873, g874, g27, g875, ⟨by decide +kernel, by decide +kernel⟩, by decide +kernel, Nat.le_of_ble_eq_true rfl⟩
theorem vm_X10_cut : VMet yX10_cut RX10 cX10_cut 3 (some .int) 2 := ⟨g691, g692, g27, g693, ⟨by decide +kernel, by decide +kernel⟩, by decide +kernel, Nat.le_of_ble_eq_true rfl⟩
theorem vm_X10_set : VMet yX10_set RX10 cX10_set 4 (some .int) 2 := ⟨g862, g863, g27, g864, ⟨by decide +kernel, by decide +kernel⟩, by decide +kernel, Nat.le_of_ble_eq_true rfl⟩
theorem xtI : xthr "java/lang/IndexOutOfBoundsException" 189 193 := xthr.of (by decide) (by decide +kernel) (by decide +kernel) (by decide +kernel) (by decide +kernel) g698 g52
theorem xtA : xthr "java/lang/IllegalArgumentException" 266 270 := xthr.of (by decide) (by decide +kernel) (by decide +kernel) (by decide +kernel) (by decide +kernel) g807 g51
theorem xtS : xthr "java/lang/IllegalStateException" 277 281 := xthr.of (by decide) (by decide +kernel) (by decide +kernel) (by decide +kernel) (by decide +kernel) g766 g54
