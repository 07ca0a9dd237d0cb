set_option maxRecDepth 20000 in
theorem ggX0_addText_J0_length_8abf5 : GoodIn wsX0_addText wsJ0_length_8abf5 := goodIn_r _ [5, 6, 7, 8, 9, 4, 10, 11, 12] (by decide +kernel) (by decide +kernel)
set_option maxRecDepth 20000 in
theorem gX0_addText_J0_length_8abf5 : GoodIn wsX0_addText (wsV RX0 19 RJ0 yJ0_length_8abf5 wsJ0_length_8abf5) := goodIn_app (goodIn_of _ (by decide +kernel)) ggX0_addText_J0_length_8abf5
set_option maxRecDepth 20000 in
theorem ggX0_addText_J0_charAt_5068e : GoodIn wsX0_addText wsJ0_charAt_5068e := goodIn_r _ [16, 6, 17, 18, 19, 4, 20, 11, 12, 21, 22, 23, 24, 25, 26, 27, 28, 29, 30, 31, 32, 33, 34, 35, 36, 37, 38, 39, 40, 41, 42, 43, 44, 45, 46, 47, 48, 49] (by decide +kernel) (by decide +kernel)
set_option maxRecDepth 20000 in
theorem gX0_addText_J0_charAt_5068e : GoodIn wsX0_addText (wsV RX0 25 RJ0 yJ0_charAt_5068e wsJ0_charAt_5068e) := goodIn_app (goodIn_of _ (by decide +kernel)) ggX0_addText_J0_charAt_5068e
set_option maxRecDepth 20000 in
theorem ggX0_addText_X0_add : GoodIn wsX0_addText wsX0_add := goodIn_r _ [54, 55, 56, 57, 58] (by decide +kernel) (by decide +kernel)
set_option maxRecDepth 20000 in
theorem gX0_addText_X0_add : GoodIn wsX0_addText (wsV RX0 29 RX0 yX0_add wsX0_add) := goodIn_app (goodIn_of _ (by decide +kernel)) ggX0_addText_X0_add
set_option maxRecDepth 20000 in
theorem ggX0_addNumber_X0_add : GoodIn wsX0_addNumber wsX0_add := goodIn_r _ [6, 7, 8, 9, 10] (by decide +kernel) (by decide +kernel)
set_option maxRecDepth 20000 in
theorem gX0_addNumber_X0_add : GoodIn wsX0_addNumber (wsV RX0 29 RX0 yX0_add wsX0_add) := goodIn_app (goodIn_of _ (by decide +kernel)) ggX0_addNumber_X0_add
set_option maxRecDepth 20000 in
theorem ggX1_init_X2_init : GoodIn wsX1_init wsX2_init := goodIn_r _ [12, 13, 2, 3, 14, 15, 16, 17, 18, 19, 20, 21, 22, 23, 24, 25, 26, 27, 28, 29, 30, 31, 32, 33, 34, 35, 36, 37, 38, 39, 40, 41, 42, 56, 57, 58, 46, 47, 48, 49, 50, 51, 52, 53, 54, 55, 59, 60, 61] (by decide +kernel) (by decide +kernel)
set_option maxRecDepth 20000 in
theorem gX1_init_X2_init : GoodIn wsX1_init (wsX2_init) := ggX1_init_X2_init
set_option maxRecDepth 20000 in
theorem ggX1_keep_X1_postAt : GoodIn wsX1_keep wsX1_postAt := goodIn_r _ [7, 2, 8, 47, 48, 49] (by decide +kernel) (by decide +kernel)
set_option maxRecDepth 20000 in
theorem gX1_keep_X1_postAt : GoodIn wsX1_keep (wsV RX1 25 RX1 yX1_postAt wsX1_postAt) := goodIn_app (goodIn_of _ (by decide +kernel)) ggX1_keep_X1_postAt
set_option maxRecDepth 20000 in
theorem ggX1_keep_X2_copyFrom : GoodIn wsX1_keep wsX2_copyFrom := goodIn_r _ [13, 14, 15, 16, 17, 18, 19, 20, 21, 22, 23, 24, 25, 26, 27, 28, 29, 30, 31, 32, 33, 34, 35, 36, 37, 38, 39, 40, 41, 42, 43, 44, 45, 46, 50, 51, 52, 53, 54, 55, 56, 57, 58, 59, 60, 61, 62, 63, 64, 65] (by decide +kernel) (by decide +kernel)
set_option maxRecDepth 20000 in
theorem gX1_keep_X2_copyFrom : GoodIn wsX1_keep (wsV RX1 29 RX2 yX2_copyFrom wsX2_copyFrom) := goodIn_app (goodIn_of _ (by decide +kernel)) ggX1_keep_X2_copyFrom
set_option maxRecDepth 20000 in
theorem ggX1_giveBack_X1_postAt : GoodIn wsX1_giveBack wsX1_postAt := goodIn_r _ [6, 7, 8, 47, 48, 49] (by decide +kernel) (by decide +kernel)
set_option maxRecDepth 20000 in
theorem gX1_giveBack_X1_postAt : GoodIn wsX1_giveBack (wsV RX1 25 RX1 yX1_postAt wsX1_postAt) := goodIn_app (goodIn_of _ (by decide +kernel)) ggX1_giveBack_X1_postAt
set_option maxRecDepth 20000 in
theorem ggX1_giveBack_X2_copyFrom : GoodIn wsX1_giveBack wsX2_copyFrom := goodIn_r _ [13, 14, 15, 16, 17, 18, 19, 20, 21, 22, 23, 24, 25, 26, 27, 28, 29, 30, 31, 32, 33, 34, 35, 36, 37, 38, 39, 40, 41, 42, 43, 44, 45, 46, 50, 51, 52, 53, 54, 55, 56, 57, 58, 59, 60, 61, 62, 63, 64, 65] (by decide +kernel) (by decide +kernel)
set_option maxRecDepth 20000 in
theorem gX1_giveBack_X2_copyFrom : GoodIn wsX1_giveBack (wsV RX1 29 RX2 yX2_copyFrom wsX2_copyFrom) := goodIn_app (goodIn_of _ (by decide +kernel)) ggX1_giveBack_X2_copyFrom
set_option maxRecDepth 20000 in
theorem ggX2_init_X7_init : GoodIn wsX2_init wsX7_init := goodIn_r _ [18, 19, 2, 3, 20, 21, 22, 23, 33, 34, 35] (by decide +kernel) (by decide +kernel)
set_option maxRecDepth 20000 in
theorem gX2_init_X7_init : GoodIn wsX2_init (wsX7_init) := ggX2_init_X7_init
set_option maxRecDepth 20000 in
theorem ggX2_init_X3_init : GoodIn wsX2_init wsX3_init := goodIn_r _ [26, 27, 2, 3, 28, 5, 6, 29, 30, 31, 32, 17, 18, 19, 20, 21, 22, 23, 33, 34, 35, 46, 47, 48] (by decide +kernel) (by decide +kernel)
set_option maxRecDepth 20000 in
theorem gX2_init_X3_init : GoodIn wsX2_init (wsX3_init) := ggX2_init_X3_init
set_option maxRecDepth 20000 in
theorem ggX2_clear_X2_settle : GoodIn wsX2_clear wsX2_settle := goodIn_r _ [10, 11, 12, 13, 14, 15, 16, 17, 18, 19, 24, 25, 26, 27, 28, 29, 30, 31, 32, 33, 34, 35, 36] (by decide +kernel) (by decide +kernel)
set_option maxRecDepth 20000 in
theorem gX2_clear_X2_settle : GoodIn wsX2_clear (wsV RX2 52 RX2 yX2_settle wsX2_settle) := goodIn_app (goodIn_of _ (by decide +kernel)) ggX2_clear_X2_settle
set_option maxRecDepth 20000 in
theorem ggX2_clear_X7_clearTo : GoodIn wsX2_clear wsX7_clearTo := goodIn_r _ [23, 19, 34, 35, 36] (by decide +kernel) (by decide +kernel)
set_option maxRecDepth 20000 in
theorem gX2_clear_X7_clearTo : GoodIn wsX2_clear (wsV RX2 55 RX7 yX7_clearTo wsX7_clearTo) := goodIn_app (goodIn_of _ (by decide +kernel)) ggX2_clear_X7_clearTo
set_option maxRecDepth 20000 in
theorem ggX2_copyFrom_X7_copyFrom : GoodIn wsX2_copyFrom wsX7_copyFrom := goodIn_r _ [15, 16, 17, 18, 19, 20, 21, 22, 23, 24, 44, 45, 46] (by decide +kernel) (by decide +kernel)
set_option maxRecDepth 20000 in
theorem gX2_copyFrom_X7_copyFrom : GoodIn wsX2_copyFrom (wsV RX2 59 RX7 yX7_copyFrom wsX7_copyFrom) := goodIn_app (goodIn_of _ (by decide +kernel)) ggX2_copyFrom_X7_copyFrom
set_option maxRecDepth 20000 in
theorem ggX2_copyFrom_X3_copyFrom : GoodIn wsX2_copyFrom wsX3_copyFrom := goodIn_r _ [29, 30, 31, 32, 33, 12, 13, 14, 15, 16, 17, 18, 19, 20, 21, 22, 23, 24, 47, 48, 49, 44, 45, 46] (by decide +kernel) (by decide +kernel)
set_option maxRecDepth 20000 in
theorem gX2_copyFrom_X3_copyFrom : GoodIn wsX2_copyFrom (wsV RX2 63 RX3 yX3_copyFrom wsX3_copyFrom) := goodIn_app (goodIn_of _ (by decide +kernel)) ggX2_copyFrom_X3_copyFrom
set_option maxRecDepth 20000 in
theorem ggX2_setting_X7_get : GoodIn wsX2_setting wsX7_get := goodIn_r _ [6, 7, 8, 9, 20, 21, 22] (by decide +kernel) (by decide +kernel)
set_option maxRecDepth 20000 in
theorem gX2_setting_X7_get : GoodIn wsX2_setting (wsV RX2 66 RX7 yX7_get wsX7_get) := goodIn_app (goodIn_of _ (by decide +kernel)) ggX2_setting_X7_get
set_option maxRecDepth 20000 in
theorem ggX2_settle_X7_put : GoodIn wsX2_settle wsX7_put := goodIn_r _ [6, 7, 8, 9, 20, 21, 22] (by decide +kernel) (by decide +kernel)
set_option maxRecDepth 20000 in
theorem gX2_settle_X7_put : GoodIn wsX2_settle (wsV RX2 70 RX7 yX7_put wsX7_put) := goodIn_app (goodIn_of _ (by decide +kernel)) ggX2_settle_X7_put
set_option maxRecDepth 20000 in
theorem ggX2_enter_X7_grow : GoodIn wsX2_enter wsX7_grow := goodIn_r _ [6, 7, 8, 9, 20, 21, 22] (by decide +kernel) (by decide +kernel)
set_option maxRecDepth 20000 in
theorem gX2_enter_X7_grow : GoodIn wsX2_enter (wsV RX2 74 RX7 yX7_grow wsX7_grow) := goodIn_app (goodIn_of _ (by decide +kernel)) ggX2_enter_X7_grow
set_option maxRecDepth 20000 in
theorem ggX2_addRoof_X7_put : GoodIn wsX2_addRoof wsX7_put := goodIn_r _ [7, 8, 9, 10, 21, 22, 23] (by decide +kernel) (by decide +kernel)
set_option maxRecDepth 20000 in
theorem gX2_addRoof_X7_put : GoodIn wsX2_addRoof (wsV RX2 70 RX7 yX7_put wsX7_put) := goodIn_app (goodIn_of _ (by decide +kernel)) ggX2_addRoof_X7_put
set_option maxRecDepth 20000 in
theorem ggX2_addWay_X7_put : GoodIn wsX2_addWay wsX7_put := goodIn_r _ [7, 8, 9, 10, 21, 22, 23] (by decide +kernel) (by decide +kernel)
set_option maxRecDepth 20000 in
theorem gX2_addWay_X7_put : GoodIn wsX2_addWay (wsV RX2 70 RX7 yX7_put wsX7_put) := goodIn_app (goodIn_of _ (by decide +kernel)) ggX2_addWay_X7_put
set_option maxRecDepth 20000 in
theorem ggX2_addTune_X7_put : GoodIn wsX2_addTune wsX7_put := goodIn_r _ [7, 8, 9, 10, 31, 32, 33] (by decide +kernel) (by decide +kernel)
set_option maxRecDepth 20000 in
theorem gX2_addTune_X7_put : GoodIn wsX2_addTune (wsV RX2 70 RX7 yX7_put wsX7_put) := goodIn_app (goodIn_of _ (by decide +kernel)) ggX2_addTune_X7_put
set_option maxRecDepth 20000 in
theorem ggX2_addTune_X2_enter : GoodIn wsX2_addTune wsX2_enter := goodIn_r _ [15, 16, 17, 18, 19, 6, 20, 8, 9, 10, 21, 22, 23, 24, 25, 26, 27, 28, 29, 30, 31, 32, 33] (by decide +kernel) (by decide +kernel)
set_option maxRecDepth 20000 in
theorem gX2_addTune_X2_enter : GoodIn wsX2_addTune (wsV RX2 77 RX2 yX2_enter wsX2_enter) := goodIn_app (goodIn_of _ (by decide +kernel)) ggX2_addTune_X2_enter
set_option maxRecDepth 20000 in
theorem ggX2_hasRoomFor_X7_get : GoodIn wsX2_hasRoomFor wsX7_get := goodIn_r _ [6, 7, 8, 9, 20, 21, 22] (by decide +kernel) (by decide +kernel)
set_option maxRecDepth 20000 in
theorem gX2_hasRoomFor_X7_get : GoodIn wsX2_hasRoomFor (wsV RX2 66 RX7 yX7_get wsX7_get) := goodIn_app (goodIn_of _ (by decide +kernel)) ggX2_hasRoomFor_X7_get
set_option maxRecDepth 20000 in
theorem ggX2_takeCoins_X7_grow : GoodIn wsX2_takeCoins wsX7_grow := goodIn_r _ [6, 7, 8, 9, 26, 27, 28] (by decide +kernel) (by decide +kernel)
set_option maxRecDepth 20000 in
theorem gX2_takeCoins_X7_grow : GoodIn wsX2_takeCoins (wsV RX2 74 RX7 yX7_grow wsX7_grow) := goodIn_app (goodIn_of _ (by decide +kernel)) ggX2_takeCoins_X7_grow
set_option maxRecDepth 20000 in
theorem ggX2_takeCoins_X2_enter : GoodIn wsX2_takeCoins wsX2_enter := goodIn_r _ [14, 15, 2, 3, 4, 5, 6, 7, 8, 9, 16, 17, 18, 19, 20, 21, 22, 23, 24, 25, 26, 27, 28] (by decide +kernel) (by decide +kernel)
set_option maxRecDepth 20000 in
theorem gX2_takeCoins_X2_enter : GoodIn wsX2_takeCoins (wsV RX2 77 RX2 yX2_enter wsX2_enter) := goodIn_app (goodIn_of _ (by decide +kernel)) ggX2_takeCoins_X2_enter
set_option maxRecDepth 20000 in
theorem ggX2_cutWay_X2_wayBetween : GoodIn wsX2_cutWay wsX2_wayBetween := goodIn_r _ [8, 2, 9, 10, 11, 7, 12, 1, 13, 14, 15, 16, 17, 18, 19, 20, 67, 68, 69, 70, 71, 72, 73, 74, 75, 76, 77, 78, 79] (by decide +kernel) (by decide +kernel)
set_option maxRecDepth 20000 in
theorem gX2_cutWay_X2_wayBetween : GoodIn wsX2_cutWay (wsV RX2 80 RX2 yX2_wayBetween wsX2_wayBetween) := goodIn_app (goodIn_of _ (by decide +kernel)) ggX2_cutWay_X2_wayBetween
set_option maxRecDepth 20000 in
theorem ggX2_cutWay_X7_removeRow : GoodIn wsX2_cutWay wsX7_removeRow := goodIn_r _ [24, 18, 19, 25, 14, 15, 16, 17, 20, 26, 27, 28, 29, 77, 78, 79] (by decide +kernel) (by decide +kernel)
set_option maxRecDepth 20000 in
theorem gX2_cutWay_X7_removeRow : GoodIn wsX2_cutWay (wsV RX2 83 RX7 yX7_removeRow wsX7_removeRow) := goodIn_app (goodIn_of _ (by decide +kernel)) ggX2_cutWay_X7_removeRow
set_option maxRecDepth 20000 in
theorem ggX2_cutWay_X3_lay : GoodIn wsX2_cutWay wsX3_lay := goodIn_r _ [34, 35, 36, 37, 38, 39, 40, 41, 33, 42, 43, 44, 45, 46, 47, 16, 48, 20, 49, 27, 28, 29, 18, 19, 50, 14, 15, 17, 51, 52, 53, 54, 55, 56, 57, 58, 59, 60, 61, 62, 63, 64, 65, 66, 67, 68, 69, 70, 71, 72, 73, 74, 75, 76, 80, 81, 82, 77, 78, 79] (by decide +kernel) (by decide +kernel)
set_option maxRecDepth 20000 in
theorem gX2_cutWay_X3_lay : GoodIn wsX2_cutWay (wsV RX2 86 RX3 yX3_lay wsX3_lay) := goodIn_app (goodIn_of _ (by decide +kernel)) ggX2_cutWay_X3_lay
set_option maxRecDepth 20000 in
theorem ggX2_roofNamed_X7_get : GoodIn wsX2_roofNamed wsX7_get := goodIn_r _ [7, 8, 9, 10, 21, 22, 23] (by decide +kernel) (by decide +kernel)
set_option maxRecDepth 20000 in
theorem gX2_roofNamed_X7_get : GoodIn wsX2_roofNamed (wsV RX2 66 RX7 yX7_get wsX7_get) := goodIn_app (goodIn_of _ (by decide +kernel)) ggX2_roofNamed_X7_get
set_option maxRecDepth 20000 in
theorem ggX2_letterOf_X7_get : GoodIn wsX2_letterOf wsX7_get := goodIn_r _ [6, 7, 8, 9, 20, 21, 22] (by decide +kernel) (by decide +kernel)
set_option maxRecDepth 20000 in
theorem gX2_letterOf_X7_get : GoodIn wsX2_letterOf (wsV RX2 66 RX7 yX7_get wsX7_get) := goodIn_app (goodIn_of _ (by decide +kernel)) ggX2_letterOf_X7_get
set_option maxRecDepth 20000 in
theorem ggX2_acrossFrom_X7_get : GoodIn wsX2_acrossFrom wsX7_get := goodIn_r _ [6, 7, 8, 9, 20, 21, 22] (by decide +kernel) (by decide +kernel)
set_option maxRecDepth 20000 in
theorem gX2_acrossFrom_X7_get : GoodIn wsX2_acrossFrom (wsV RX2 66 RX7 yX7_get wsX7_get) := goodIn_app (goodIn_of _ (by decide +kernel)) ggX2_acrossFrom_X7_get
set_option maxRecDepth 20000 in
theorem ggX2_wayBetween_X2_acrossFrom : GoodIn wsX2_wayBetween wsX2_acrossFrom := goodIn_r _ [6, 7, 8, 9, 10, 11, 12, 13, 14, 15, 16, 17, 18, 19, 20, 21, 22, 23, 24, 25, 26, 27, 28] (by decide +kernel) (by decide +kernel)
set_option maxRecDepth 20000 in
theorem gX2_wayBetween_X2_acrossFrom : GoodIn wsX2_wayBetween (wsV RX2 92 RX2 yX2_acrossFrom wsX2_acrossFrom) := goodIn_app (goodIn_of _ (by decide +kernel)) ggX2_wayBetween_X2_acrossFrom
set_option maxRecDepth 20000 in
theorem ggX2_numberOfAll_X2_tunesIn : GoodIn wsX2_numberOfAll wsX2_tunesIn := goodIn_r _ [9, 3, 10, 11, 12, 13, 14, 15, 16, 17, 18, 37, 38, 39, 40, 41, 42, 43, 44, 45, 46, 47, 48, 49] (by decide +kernel) (by decide +kernel)
set_option maxRecDepth 20000 in
theorem gX2_numberOfAll_X2_tunesIn : GoodIn wsX2_numberOfAll (wsV RX2 95 RX2 yX2_tunesIn wsX2_tunesIn) := goodIn_app (goodIn_of _ (by decide +kernel)) ggX2_numberOfAll_X2_tunesIn
set_option maxRecDepth 20000 in
theorem ggX2_numberOfAll_X2_busyWhistlers : GoodIn wsX2_numberOfAll wsX2_busyWhistlers := goodIn_r _ [22, 1, 4, 23, 24, 25, 8, 26, 27, 11, 12, 13, 14, 15, 16, 17, 18, 37, 38, 39, 40, 41, 42, 43, 44, 45, 46, 47, 48, 49] (by decide +kernel) (by decide +kernel)
set_option maxRecDepth 20000 in
theorem gX2_numberOfAll_X2_busyWhistlers : GoodIn wsX2_numberOfAll (wsV RX2 99 RX2 yX2_busyWhistlers wsX2_busyWhistlers) := goodIn_app (goodIn_of _ (by decide +kernel)) ggX2_numberOfAll_X2_busyWhistlers
set_option maxRecDepth 20000 in
theorem ggX2_numberOfAll_X2_pursesTogether : GoodIn wsX2_numberOfAll wsX2_pursesTogether := goodIn_r _ [31, 1, 27, 11, 12, 13, 14, 15, 16, 17, 18, 37, 38, 39, 40, 41, 42, 43, 44, 45, 46, 47, 48, 49] (by decide +kernel) (by decide +kernel)
set_option maxRecDepth 20000 in
theorem gX2_numberOfAll_X2_pursesTogether : GoodIn wsX2_numberOfAll (wsV RX2 103 RX2 yX2_pursesTogether wsX2_pursesTogether) := goodIn_app (goodIn_of _ (by decide +kernel)) ggX2_numberOfAll_X2_pursesTogether
set_option maxRecDepth 20000 in
theorem ggX2_numberOfAll_X2_setting : GoodIn wsX2_numberOfAll wsX2_setting := goodIn_r _ [35, 36, 11, 12, 13, 14, 15, 16, 17, 18, 37, 38, 39, 40, 41, 42, 43, 44, 45, 46, 47, 48, 49] (by decide +kernel) (by decide +kernel)
set_option maxRecDepth 20000 in
theorem gX2_numberOfAll_X2_setting : GoodIn wsX2_numberOfAll (wsV RX2 106 RX2 yX2_setting wsX2_setting) := goodIn_app (goodIn_of _ (by decide +kernel)) ggX2_numberOfAll_X2_setting
set_option maxRecDepth 20000 in
theorem ggX2_tunesIn_X7_get : GoodIn wsX2_tunesIn wsX7_get := goodIn_r _ [7, 8, 9, 10, 21, 22, 23] (by decide +kernel) (by decide +kernel)
set_option maxRecDepth 20000 in
theorem gX2_tunesIn_X7_get : GoodIn wsX2_tunesIn (wsV RX2 66 RX7 yX7_get wsX7_get) := goodIn_app (goodIn_of _ (by decide +kernel)) ggX2_tunesIn_X7_get
set_option maxRecDepth 20000 in
theorem ggX2_busyWhistlers_X2_isBusy : GoodIn wsX2_busyWhistlers wsX2_isBusy := goodIn_r _ [7, 8, 9, 10, 11, 12, 13, 14, 15, 16, 17, 18, 19, 20, 21, 22, 23, 24, 25, 26, 27, 28, 29] (by decide +kernel) (by decide +kernel)
set_option maxRecDepth 20000 in
theorem gX2_busyWhistlers_X2_isBusy : GoodIn wsX2_busyWhistlers (wsV RX2 109 RX2 yX2_isBusy wsX2_isBusy) := goodIn_app (goodIn_of _ (by decide +kernel)) ggX2_busyWhistlers_X2_isBusy
set_option maxRecDepth 20000 in
theorem ggX2_isBusy_X7_get : GoodIn wsX2_isBusy wsX7_get := goodIn_r _ [6, 7, 8, 9, 20, 21, 22] (by decide +kernel) (by decide +kernel)
set_option maxRecDepth 20000 in
theorem gX2_isBusy_X7_get : GoodIn wsX2_isBusy (wsV RX2 66 RX7 yX7_get wsX7_get) := goodIn_app (goodIn_of _ (by decide +kernel)) ggX2_isBusy_X7_get
set_option maxRecDepth 20000 in
theorem ggX2_pursesTogether_X7_get : GoodIn wsX2_pursesTogether wsX7_get := goodIn_r _ [7, 8, 9, 10, 21, 22, 23] (by decide +kernel) (by decide +kernel)
set_option maxRecDepth 20000 in
theorem gX2_pursesTogether_X7_get : GoodIn wsX2_pursesTogether (wsV RX2 66 RX7 yX7_get wsX7_get) := goodIn_app (goodIn_of _ (by decide +kernel)) ggX2_pursesTogether_X7_get
set_option maxRecDepth 20000 in
theorem ggX2_numberOfRoof_X7_get : GoodIn wsX2_numberOfRoof wsX7_get := goodIn_r _ [11, 12, 13, 14, 46, 47, 48] (by decide +kernel) (by decide +kernel)
set_option maxRecDepth 20000 in
theorem gX2_numberOfRoof_X7_get : GoodIn wsX2_numberOfRoof (wsV RX2 66 RX7 yX7_get wsX7_get) := goodIn_app (goodIn_of _ (by decide +kernel)) ggX2_numberOfRoof_X7_get
set_option maxRecDepth 20000 in
theorem ggX2_numberOfRoof_X2_tunesAt : GoodIn wsX2_numberOfRoof wsX2_tunesAt := goodIn_r _ [19, 20, 21, 22, 23, 18, 24, 25, 7, 8, 9, 10, 11, 12, 13, 14, 36, 37, 38, 39, 40, 41, 42, 43, 44, 45, 46, 47, 48] (by decide +kernel) (by decide +kernel)
set_option maxRecDepth 20000 in
theorem gX2_numberOfRoof_X2_tunesAt : GoodIn wsX2_numberOfRoof (wsV RX2 118 RX2 yX2_tunesAt wsX2_tunesAt) := goodIn_app (goodIn_of _ (by decide +kernel)) ggX2_numberOfRoof_X2_tunesAt
set_option maxRecDepth 20000 in
theorem ggX2_numberOfRoof_X2_waysAt : GoodIn wsX2_numberOfRoof wsX2_waysAt := goodIn_r _ [29, 30, 31, 32, 33, 18, 34, 35, 7, 8, 9, 10, 11, 12, 13, 14, 36, 37, 38, 39, 40, 41, 42, 43, 44, 45, 46, 47, 48] (by decide +kernel) (by decide +kernel)
set_option maxRecDepth 20000 in
theorem gX2_numberOfRoof_X2_waysAt : GoodIn wsX2_numberOfRoof (wsV RX2 121 RX2 yX2_waysAt wsX2_waysAt) := goodIn_app (goodIn_of _ (by decide +kernel)) ggX2_numberOfRoof_X2_waysAt
set_option maxRecDepth 20000 in
theorem ggX2_tunesAt_X2_isWaitingAt : GoodIn wsX2_tunesAt wsX2_isWaitingAt := goodIn_r _ [6, 7, 8, 9, 10, 11, 12, 13, 14, 15, 16, 17, 18, 19, 20, 21, 22, 23, 24, 25, 26, 27, 28] (by decide +kernel) (by decide +kernel)
set_option maxRecDepth 20000 in
theorem gX2_tunesAt_X2_isWaitingAt : GoodIn wsX2_tunesAt (wsV RX2 124 RX2 yX2_isWaitingAt wsX2_isWaitingAt) := goodIn_app (goodIn_of _ (by decide +kernel)) ggX2_tunesAt_X2_isWaitingAt
set_option maxRecDepth 20000 in
theorem ggX2_waysAt_X2_acrossFrom : GoodIn wsX2_waysAt wsX2_acrossFrom := goodIn_r _ [6, 7, 8, 9, 10, 11, 12, 13, 14, 15, 16, 17, 18, 19, 20, 21, 22, 23, 24, 25, 26, 27, 28] (by decide +kernel) (by decide +kernel)
set_option maxRecDepth 20000 in
theorem gX2_waysAt_X2_acrossFrom : GoodIn wsX2_waysAt (wsV RX2 92 RX2 yX2_acrossFrom wsX2_acrossFrom) := goodIn_app (goodIn_of _ (by decide +kernel)) ggX2_waysAt_X2_acrossFrom
set_option maxRecDepth 20000 in
theorem ggX2_isWaitingAt_X7_get : GoodIn wsX2_isWaitingAt wsX7_get := goodIn_r _ [6, 7, 8, 9, 20, 21, 22] (by decide +kernel) (by decide +kernel)
set_option maxRecDepth 20000 in
theorem gX2_isWaitingAt_X7_get : GoodIn wsX2_isWaitingAt (wsV RX2 66 RX7 yX7_get wsX7_get) := goodIn_app (goodIn_of _ (by decide +kernel)) ggX2_isWaitingAt_X7_get
set_option maxRecDepth 20000 in
theorem ggX2_waitingAt_X2_isWaitingAt : GoodIn wsX2_waitingAt wsX2_isWaitingAt := goodIn_r _ [6, 7, 8, 9, 10, 11, 12, 13, 14, 15, 23, 24, 25, 26, 27, 28, 29, 30, 31, 32, 33, 34, 35] (by decide +kernel) (by decide +kernel)
set_option maxRecDepth 20000 in
theorem gX2_waitingAt_X2_isWaitingAt : GoodIn wsX2_waitingAt (wsV RX2 124 RX2 yX2_isWaitingAt wsX2_isWaitingAt) := goodIn_app (goodIn_of _ (by decide +kernel)) ggX2_waitingAt_X2_isWaitingAt
set_option maxRecDepth 20000 in
theorem ggX2_waitingAt_X2_barsOfTune : GoodIn wsX2_waitingAt wsX2_barsOfTune := goodIn_r _ [19, 7, 8, 9, 10, 11, 12, 13, 14, 15, 20, 21, 5, 22, 23, 24, 25, 26, 27, 28, 29, 30, 31, 32, 33, 34, 35] (by decide +kernel) (by decide +kernel)
set_option maxRecDepth 20000 in
theorem gX2_waitingAt_X2_barsOfTune : GoodIn wsX2_waitingAt (wsV RX2 127 RX2 yX2_barsOfTune wsX2_barsOfTune) := goodIn_app (goodIn_of _ (by decide +kernel)) ggX2_waitingAt_X2_barsOfTune
set_option maxRecDepth 20000 in
theorem ggX2_numberOfTune_X2_barsOfTune : GoodIn wsX2_numberOfTune wsX2_barsOfTune := goodIn_r _ [6, 1, 7, 8, 9, 10, 11, 12, 13, 14, 15, 16, 5, 17, 25, 26, 27, 28, 29, 30, 31, 32, 33, 34, 35, 36, 37] (by decide +kernel) (by decide +kernel)
set_option maxRecDepth 20000 in
theorem gX2_numberOfTune_X2_barsOfTune : GoodIn wsX2_numberOfTune (wsV RX2 127 RX2 yX2_barsOfTune wsX2_barsOfTune) := goodIn_app (goodIn_of _ (by decide +kernel)) ggX2_numberOfTune_X2_barsOfTune
set_option maxRecDepth 20000 in
theorem ggX2_numberOfTune_X2_notesUnlikeSent : GoodIn wsX2_numberOfTune wsX2_notesUnlikeSent := goodIn_r _ [21, 1, 7, 8, 9, 10, 11, 12, 13, 14, 22, 23, 24, 25, 26, 27, 28, 29, 30, 31, 32, 33, 34, 35, 36, 37] (by decide +kernel) (by decide +kernel)
set_option maxRecDepth 20000 in
theorem gX2_numberOfTune_X2_notesUnlikeSent : GoodIn wsX2_numberOfTune (wsV RX2 130 RX2 yX2_notesUnlikeSent wsX2_notesUnlikeSent) := goodIn_app (goodIn_of _ (by decide +kernel)) ggX2_numberOfTune_X2_notesUnlikeSent
set_option maxRecDepth 20000 in
theorem ggX2_numberOfTune_X7_get : GoodIn wsX2_numberOfTune wsX7_get := goodIn_r _ [11, 12, 13, 14, 35, 36, 37] (by decide +kernel) (by decide +kernel)
set_option maxRecDepth 20000 in
theorem gX2_numberOfTune_X7_get : GoodIn wsX2_numberOfTune (wsV RX2 66 RX7 yX7_get wsX7_get) := goodIn_app (goodIn_of _ (by decide +kernel)) ggX2_numberOfTune_X7_get
set_option maxRecDepth 20000 in
theorem ggX2_barsOfTune_X7_get : GoodIn wsX2_barsOfTune wsX7_get := goodIn_r _ [6, 7, 8, 9, 24, 25, 26] (by decide +kernel) (by decide +kernel)
set_option maxRecDepth 20000 in
theorem gX2_barsOfTune_X7_get : GoodIn wsX2_barsOfTune (wsV RX2 66 RX7 yX7_get wsX7_get) := goodIn_app (goodIn_of _ (by decide +kernel)) ggX2_barsOfTune_X7_get
set_option maxRecDepth 20000 in
theorem ggX2_barsOfTune_X2_barsOf : GoodIn wsX2_barsOfTune wsX2_barsOf := goodIn_r _ [13] (by decide +kernel) (by decide +kernel)
set_option maxRecDepth 20000 in
theorem gX2_barsOfTune_X2_barsOf : GoodIn wsX2_barsOfTune (va_wsS RX2 133 yX2_barsOf wsX2_barsOf) := goodIn_app (goodIn_of _ (by decide +kernel)) ggX2_barsOfTune_X2_barsOf
set_option maxRecDepth 20000 in
theorem ggX2_notesUnlikeSent_X7_get : GoodIn wsX2_notesUnlikeSent wsX7_get := goodIn_r _ [6, 7, 8, 9, 23, 24, 25] (by decide +kernel) (by decide +kernel)
set_option maxRecDepth 20000 in
theorem gX2_notesUnlikeSent_X7_get : GoodIn wsX2_notesUnlikeSent (wsV RX2 66 RX7 yX7_get wsX7_get) := goodIn_app (goodIn_of _ (by decide +kernel)) ggX2_notesUnlikeSent_X7_get
set_option maxRecDepth 20000 in
theorem ggX2_notesUnlikeSent_X10_noteOf : GoodIn wsX2_notesUnlikeSent wsX10_noteOf := goodIn_r _ [12] (by decide +kernel) (by decide +kernel)
set_option maxRecDepth 20000 in
theorem gX2_notesUnlikeSent_X10_noteOf_n136 : GoodIn wsX2_notesUnlikeSent (wsX10_noteOf) := ggX2_notesUnlikeSent_X10_noteOf
set_option maxRecDepth 20000 in
theorem ggX2_nextOf_X7_get : GoodIn wsX2_nextOf wsX7_get := goodIn_r _ [8, 9, 10, 11, 25, 26, 27] (by decide +kernel) (by decide +kernel)
set_option maxRecDepth 20000 in
theorem gX2_nextOf_X7_get : GoodIn wsX2_nextOf (wsV RX2 66 RX7 yX7_get wsX7_get) := goodIn_app (goodIn_of _ (by decide +kernel)) ggX2_nextOf_X7_get
set_option maxRecDepth 20000 in
theorem ggX2_lackOf_X7_get : GoodIn wsX2_lackOf wsX7_get := goodIn_r _ [7, 8, 9, 10, 25, 26, 27] (by decide +kernel) (by decide +kernel)
set_option maxRecDepth 20000 in
theorem gX2_lackOf_X7_get : GoodIn wsX2_lackOf (wsV RX2 66 RX7 yX7_get wsX7_get) := goodIn_app (goodIn_of _ (by decide +kernel)) ggX2_lackOf_X7_get
set_option maxRecDepth 20000 in
theorem ggX2_lackOf_X2_barsOf : GoodIn wsX2_lackOf wsX2_barsOf := goodIn_r _ [14] (by decide +kernel) (by decide +kernel)
set_option maxRecDepth 20000 in
theorem gX2_lackOf_X2_barsOf : GoodIn wsX2_lackOf (va_wsS RX2 133 yX2_barsOf wsX2_barsOf) := goodIn_app (goodIn_of _ (by decide +kernel)) ggX2_lackOf_X2_barsOf
set_option maxRecDepth 20000 in
theorem ggX2_firstToGoFrom_X2_isWaitingAt : GoodIn wsX2_firstToGoFrom wsX2_isWaitingAt := goodIn_r _ [6, 7, 8, 9, 10, 11, 12, 13, 14, 15, 34, 35, 36, 37, 38, 39, 40, 41, 42, 43, 44, 45, 46] (by decide +kernel) (by decide +kernel)
set_option maxRecDepth 20000 in
theorem gX2_firstToGoFrom_X2_isWaitingAt : GoodIn wsX2_firstToGoFrom (wsV RX2 124 RX2 yX2_isWaitingAt wsX2_isWaitingAt) := goodIn_app (goodIn_of _ (by decide +kernel)) ggX2_firstToGoFrom_X2_isWaitingAt
set_option maxRecDepth 20000 in
theorem ggX2_firstToGoFrom_X2_nextOf : GoodIn wsX2_firstToGoFrom wsX2_nextOf := goodIn_r _ [19, 20, 21, 7, 8, 9, 10, 11, 12, 13, 14, 15, 34, 35, 36, 37, 38, 39, 40, 41, 42, 43, 47, 48, 49, 44, 45, 46] (by decide +kernel) (by decide +kernel)
set_option maxRecDepth 20000 in
theorem gX2_firstToGoFrom_X2_nextOf : GoodIn wsX2_firstToGoFrom (wsV RX2 142 RX2 yX2_nextOf wsX2_nextOf) := goodIn_app (goodIn_of _ (by decide +kernel)) ggX2_firstToGoFrom_X2_nextOf
set_option maxRecDepth 20000 in
theorem ggX2_firstToGoFrom_X2_lackOf : GoodIn wsX2_firstToGoFrom wsX2_lackOf := goodIn_r _ [25, 26, 7, 8, 9, 10, 11, 12, 13, 14, 15, 27, 28, 5, 29, 34, 35, 36, 37, 38, 39, 40, 41, 42, 43, 44, 45, 46] (by decide +kernel) (by decide +kernel)
set_option maxRecDepth 20000 in
theorem gX2_firstToGoFrom_X2_lackOf : GoodIn wsX2_firstToGoFrom (wsV RX2 145 RX2 yX2_lackOf wsX2_lackOf) := goodIn_app (goodIn_of _ (by decide +kernel)) ggX2_firstToGoFrom_X2_lackOf
set_option maxRecDepth 20000 in
theorem ggX2_firstToGoFrom_X2_barsOfTune : GoodIn wsX2_firstToGoFrom wsX2_barsOfTune := goodIn_r _ [33, 7, 8, 9, 10, 11, 12, 13, 14, 15, 27, 28, 5, 29, 34, 35, 36, 37, 38, 39, 40, 41, 42, 43, 44, 45, 46] (by decide +kernel) (by decide +kernel)
set_option maxRecDepth 20000 in
theorem gX2_firstToGoFrom_X2_barsOfTune : GoodIn wsX2_firstToGoFrom (wsV RX2 127 RX2 yX2_barsOfTune wsX2_barsOfTune) := goodIn_app (goodIn_of _ (by decide +kernel)) ggX2_firstToGoFrom_X2_barsOfTune
set_option maxRecDepth 20000 in
theorem ggX2_wrongOf_X7_get : GoodIn wsX2_wrongOf wsX7_get := goodIn_r _ [13, 14, 15, 16, 27, 28, 29] (by decide +kernel) (by decide +kernel)
set_option maxRecDepth 20000 in
theorem gX2_wrongOf_X7_get : GoodIn wsX2_wrongOf (wsV RX2 66 RX7 yX7_get wsX7_get) := goodIn_app (goodIn_of _ (by decide +kernel)) ggX2_wrongOf_X7_get
set_option maxRecDepth 20000 in
theorem ggX3_init_X7_init : GoodIn wsX3_init wsX7_init := goodIn_r _ [12, 13, 2, 3, 14, 15, 16, 17, 18, 19, 20] (by decide +kernel) (by decide +kernel)
set_option maxRecDepth 20000 in
theorem gX3_init_X7_init : GoodIn wsX3_init (wsX7_init) := ggX3_init_X7_init
set_option maxRecDepth 20000 in
theorem ggX3_copyFrom_X7_copyFrom : GoodIn wsX3_copyFrom wsX7_copyFrom := goodIn_r _ [8, 9, 10, 11, 12, 13, 14, 15, 16, 17, 21, 22, 23] (by decide +kernel) (by decide +kernel)
set_option maxRecDepth 20000 in
theorem gX3_copyFrom_X7_copyFrom : GoodIn wsX3_copyFrom (wsV RX3 26 RX7 yX7_copyFrom wsX7_copyFrom) := goodIn_app (goodIn_of _ (by decide +kernel)) ggX3_copyFrom_X7_copyFrom
set_option maxRecDepth 20000 in
theorem ggX3_lay_X3_layNone : GoodIn wsX3_lay wsX3_layNone := goodIn_r _ [9, 10, 4, 11, 3, 12, 13, 14, 15, 16, 17, 18, 19, 20, 21, 22, 23, 54, 55, 56, 44, 45, 46, 47, 48, 49, 50, 51, 52, 53, 57, 58, 59] (by decide +kernel) (by decide +kernel)
set_option maxRecDepth 20000 in
theorem gX3_lay_X3_layNone : GoodIn wsX3_lay (wsV RX3 30 RX3 yX3_layNone wsX3_layNone) := goodIn_app (goodIn_of _ (by decide +kernel)) ggX3_lay_X3_layNone
set_option maxRecDepth 20000 in
theorem ggX3_lay_X7_get : GoodIn wsX3_lay wsX7_get := goodIn_r _ [27, 22, 23, 17, 57, 58, 59] (by decide +kernel) (by decide +kernel)
set_option maxRecDepth 20000 in
theorem gX3_lay_X7_get : GoodIn wsX3_lay (wsV RX3 43 RX7 yX7_get wsX7_get) := goodIn_app (goodIn_of _ (by decide +kernel)) ggX3_lay_X7_get
set_option maxRecDepth 20000 in
theorem ggX3_lay_X3_layWay : GoodIn wsX3_lay wsX3_layWay := goodIn_r _ [31, 10, 4, 18, 19, 20, 15, 21, 22, 23, 17, 54, 55, 56, 57, 58, 59] (by decide +kernel) (by decide +kernel)
set_option maxRecDepth 20000 in
theorem gX3_lay_X3_layWay : GoodIn wsX3_lay (wsV RX3 47 RX3 yX3_layWay wsX3_layWay) := goodIn_app (goodIn_of _ (by decide +kernel)) ggX3_lay_X3_layWay
set_option maxRecDepth 20000 in
theorem ggX3_lay_X3_shorten : GoodIn wsX3_lay wsX3_shorten := goodIn_r _ [35, 4, 24, 25, 26, 15, 27, 22, 23, 17, 18, 19, 20, 21, 54, 55, 56, 57, 58, 59] (by decide +kernel) (by decide +kernel)
set_option maxRecDepth 20000 in
theorem gX3_lay_X3_shorten : GoodIn wsX3_lay (wsV RX3 54 RX3 yX3_shorten wsX3_shorten) := goodIn_app (goodIn_of _ (by decide +kernel)) ggX3_lay_X3_shorten
set_option maxRecDepth 20000 in
theorem ggX3_lay_X3_pointAll : GoodIn wsX3_lay wsX3_pointAll := goodIn_r _ [39, 3, 4, 11, 24, 25, 26, 15, 27, 22, 23, 17, 40, 41, 42, 8, 43, 10, 18, 19, 20, 21, 44, 45, 46, 47, 48, 49, 50, 51, 52, 53, 54, 55, 56, 57, 58, 59] (by decide +kernel) (by decide +kernel)
set_option maxRecDepth 20000 in
theorem gX3_lay_X3_pointAll : GoodIn wsX3_lay (wsV RX3 57 RX3 yX3_pointAll wsX3_pointAll) := goodIn_app (goodIn_of _ (by decide +kernel)) ggX3_lay_X3_pointAll
set_option maxRecDepth 20000 in
theorem ggX3_sumByWays_X3_layNone : GoodIn wsX3_sumByWays wsX3_layNone := goodIn_r _ [9, 10, 4, 11, 1, 12, 13, 14, 15, 16, 17, 18, 19, 20, 21, 22, 23, 42, 43, 44, 32, 33, 34, 35, 36, 37, 38, 39, 40, 41, 45, 46, 47] (by decide +kernel) (by decide +kernel)
set_option maxRecDepth 20000 in
theorem gX3_sumByWays_X3_layNone : GoodIn wsX3_sumByWays (wsV RX3 30 RX3 yX3_layNone wsX3_layNone) := goodIn_app (goodIn_of _ (by decide +kernel)) ggX3_sumByWays_X3_layNone
set_option maxRecDepth 20000 in
theorem ggX3_sumByWays_X7_get : GoodIn wsX3_sumByWays wsX7_get := goodIn_r _ [27, 22, 23, 17, 45, 46, 47] (by decide +kernel) (by decide +kernel)
set_option maxRecDepth 20000 in
theorem gX3_sumByWays_X7_get : GoodIn wsX3_sumByWays (wsV RX3 43 RX7 yX7_get wsX7_get) := goodIn_app (goodIn_of _ (by decide +kernel)) ggX3_sumByWays_X7_get
set_option maxRecDepth 20000 in
theorem ggX3_sumByWays_X3_shorten : GoodIn wsX3_sumByWays wsX3_shorten := goodIn_r _ [31, 4, 24, 25, 26, 15, 27, 22, 23, 17, 18, 19, 20, 21, 42, 43, 44, 45, 46, 47] (by decide +kernel) (by decide +kernel)
set_option maxRecDepth 20000 in
theorem gX3_sumByWays_X3_shorten : GoodIn wsX3_sumByWays (wsV RX3 54 RX3 yX3_shorten wsX3_shorten) := goodIn_app (goodIn_of _ (by decide +kernel)) ggX3_sumByWays_X3_shorten
set_option maxRecDepth 20000 in
theorem ggX3_layNone_X7_clearTo : GoodIn wsX3_layNone wsX7_clearTo := goodIn_r _ [9, 10, 30, 31, 32] (by decide +kernel) (by decide +kernel)
set_option maxRecDepth 20000 in
theorem gX3_layNone_X7_clearTo : GoodIn wsX3_layNone (wsV RX3 60 RX7 yX7_clearTo wsX7_clearTo) := goodIn_app (goodIn_of _ (by decide +kernel)) ggX3_layNone_X7_clearTo
set_option maxRecDepth 20000 in
theorem ggX3_layNone_X7_put : GoodIn wsX3_layNone wsX7_put := goodIn_r _ [14, 15, 16, 10, 30, 31, 32] (by decide +kernel) (by decide +kernel)
set_option maxRecDepth 20000 in
theorem gX3_layNone_X7_put : GoodIn wsX3_layNone (wsV RX3 64 RX7 yX7_put wsX7_put) := goodIn_app (goodIn_of _ (by decide +kernel)) ggX3_layNone_X7_put
set_option maxRecDepth 20000 in
theorem ggX3_layWay_X7_put : GoodIn wsX3_layWay wsX7_put := goodIn_r _ [7, 8, 9, 10, 14, 15, 16] (by decide +kernel) (by decide +kernel)
set_option maxRecDepth 20000 in
theorem gX3_layWay_X7_put : GoodIn wsX3_layWay (wsV RX3 64 RX7 yX7_put wsX7_put) := goodIn_app (goodIn_of _ (by decide +kernel)) ggX3_layWay_X7_put
set_option maxRecDepth 20000 in
theorem ggX3_shorten_X7_get : GoodIn wsX3_shorten wsX7_get := goodIn_r _ [6, 7, 8, 9, 17, 18, 19] (by decide +kernel) (by decide +kernel)
set_option maxRecDepth 20000 in
theorem gX3_shorten_X7_get : GoodIn wsX3_shorten (wsV RX3 43 RX7 yX7_get wsX7_get) := goodIn_app (goodIn_of _ (by decide +kernel)) ggX3_shorten_X7_get
set_option maxRecDepth 20000 in
theorem ggX3_shorten_X7_put : GoodIn wsX3_shorten wsX7_put := goodIn_r _ [13, 7, 8, 9, 17, 18, 19] (by decide +kernel) (by decide +kernel)
set_option maxRecDepth 20000 in
theorem gX3_shorten_X7_put : GoodIn wsX3_shorten (wsV RX3 64 RX7 yX7_put wsX7_put) := goodIn_app (goodIn_of _ (by decide +kernel)) ggX3_shorten_X7_put
set_option maxRecDepth 20000 in
theorem ggX3_pointAll_X7_get : GoodIn wsX3_pointAll wsX7_get := goodIn_r _ [8, 9, 10, 11, 35, 36, 37] (by decide +kernel) (by decide +kernel)
set_option maxRecDepth 20000 in
theorem gX3_pointAll_X7_get : GoodIn wsX3_pointAll (wsV RX3 43 RX7 yX7_get wsX7_get) := goodIn_app (goodIn_of _ (by decide +kernel)) ggX3_pointAll_X7_get
set_option maxRecDepth 20000 in
theorem ggX3_pointAll_X3_beginOf : GoodIn wsX3_pointAll wsX3_beginOf := goodIn_r _ [16, 17, 2, 4, 5, 6, 7, 8, 9, 10, 11, 32, 33, 34, 35, 36, 37] (by decide +kernel) (by decide +kernel)
set_option maxRecDepth 20000 in
theorem gX3_pointAll_X3_beginOf : GoodIn wsX3_pointAll (wsV RX3 67 RX3 yX3_beginOf wsX3_beginOf) := goodIn_app (goodIn_of _ (by decide +kernel)) ggX3_pointAll_X3_beginOf
set_option maxRecDepth 20000 in
theorem ggX3_pointAll_X7_put : GoodIn wsX3_pointAll wsX7_put := goodIn_r _ [21, 9, 10, 11, 35, 36, 37] (by decide +kernel) (by decide +kernel)
set_option maxRecDepth 20000 in
theorem gX3_pointAll_X7_put : GoodIn wsX3_pointAll (wsV RX3 64 RX7 yX7_put wsX7_put) := goodIn_app (goodIn_of _ (by decide +kernel)) ggX3_pointAll_X7_put
set_option maxRecDepth 20000 in
theorem ggX3_beginOf_X7_get : GoodIn wsX3_beginOf wsX7_get := goodIn_r _ [7, 8, 9, 10, 14, 15, 16] (by decide +kernel) (by decide +kernel)
set_option maxRecDepth 20000 in
theorem gX3_beginOf_X7_get : GoodIn wsX3_beginOf (wsV RX3 43 RX7 yX7_get wsX7_get) := goodIn_app (goodIn_of _ (by decide +kernel)) ggX3_beginOf_X7_get
set_option maxRecDepth 20000 in
theorem ggX3_hasSameSums_X7_get : GoodIn wsX3_hasSameSums wsX7_get := goodIn_r _ [6, 7, 8, 9, 13, 14, 15] (by decide +kernel) (by decide +kernel)
set_option maxRecDepth 20000 in
theorem gX3_hasSameSums_X7_get : GoodIn wsX3_hasSameSums (wsV RX3 43 RX7 yX7_get wsX7_get) := goodIn_app (goodIn_of _ (by decide +kernel)) ggX3_hasSameSums_X7_get
set_option maxRecDepth 20000 in
theorem ggX4_init_X7_init : GoodIn wsX4_init wsX7_init := goodIn_r _ [13, 14, 2, 3, 15, 16, 17, 18, 23, 24, 25] (by decide +kernel) (by decide +kernel)
set_option maxRecDepth 20000 in
theorem gX4_init_X7_init : GoodIn wsX4_init (wsX7_init) := ggX4_init_X7_init
set_option maxRecDepth 20000 in
theorem ggX4_isRead_X9_open : GoodIn wsX4_isRead wsX9_open := goodIn_r _ [8, 9, 10, 11, 12, 13, 14, 7, 15, 16, 17, 18, 19, 20, 21, 22, 23, 24, 25, 26, 27, 28, 29, 30, 31, 32, 33, 173, 174, 175, 176, 177, 178, 179, 180, 181] (by decide +kernel) (by decide +kernel)
set_option maxRecDepth 20000 in
theorem gX4_isRead_X9_open : GoodIn wsX4_isRead (wsV RX4 32 RX9 yX9_open wsX9_open) := goodIn_app (goodIn_of _ (by decide +kernel)) ggX4_isRead_X9_open
set_option maxRecDepth 20000 in
theorem ggX4_isRead_X4_wordHere : GoodIn wsX4_isRead wsX4_wordHere := goodIn_r _ [38, 2, 39, 40, 41, 7, 42, 18, 11, 16, 17, 43, 44, 45, 46, 47, 48, 49, 50, 51, 52, 53, 54, 26, 27, 28, 23, 29, 25, 30, 55, 56, 57, 58, 59, 60, 61, 62, 63, 64, 65, 66, 67, 68, 69, 70, 71, 72, 73, 74, 75, 76, 77, 78, 79, 80, 81, 82, 83, 84, 85, 86, 87, 88, 89, 90, 91, 92, 93, 94, 95, 96, 169, 170, 171, 172, 173, 174, 175, 176, 177, 178, 179, 180, 181] (by decide +kernel) (by decide +kernel)
set_option maxRecDepth 20000 in
theorem gX4_isRead_X4_wordHere : GoodIn wsX4_isRead (wsV RX4 40 RX4 yX4_wordHere wsX4_wordHere) := goodIn_app (goodIn_of _ (by decide +kernel)) ggX4_isRead_X4_wordHere
set_option maxRecDepth 20000 in
theorem ggX4_isRead_X4_isStatementRead : GoodIn wsX4_isRead wsX4_isStatementRead := goodIn_r _ [100, 2, 1, 101, 102, 103, 104, 7, 105, 9, 16, 10, 106, 107, 108, 109, 110, 111, 112, 113, 114, 13, 14, 15, 11, 17, 18, 19, 20, 21, 22, 23, 24, 25, 26, 27, 28, 29, 30, 31, 32, 33, 115, 116, 117, 37, 118, 119, 120, 121, 122, 123, 124, 125, 126, 127, 128, 129, 130, 131, 132, 133, 134, 135, 136, 137, 138, 139, 140, 141, 142, 143, 144, 145, 3, 146, 147, 148, 149, 150, 151, 152, 153, 154, 155, 156, 157, 158, 12, 159, 160, 161, 162, 163, 164, 165, 166, 167, 168, 169, 170, 171, 172, 173, 174, 175, 176, 177, 178, 179, 182, 183, 184, 180, 181, 185, 186, 187, 188, 189, 190, 191, 192, 193, 194] (by decide +kernel) (by decide +kernel)
set_option maxRecDepth 20000 in
theorem gX4_isRead_X4_isStatementRead : GoodIn wsX4_isRead (wsV RX4 44 RX4 yX4_isStatementRead wsX4_isStatementRead) := goodIn_app (goodIn_of _ (by decide +kernel)) ggX4_isRead_X4_isStatementRead
set_option maxRecDepth 20000 in
theorem ggX4_isStatementRead_X9_fail : GoodIn wsX4_isStatementRead wsX9_fail := goodIn_r _ [8, 9, 10, 11, 103, 104, 105, 106, 107, 108, 109] (by decide +kernel) (by decide +kernel)
set_option maxRecDepth 20000 in
theorem gX4_isStatementRead_X9_fail : GoodIn wsX4_isStatementRead (wsV RX4 48 RX9 yX9_fail wsX9_fail) := goodIn_app (goodIn_of _ (by decide +kernel)) ggX4_isStatementRead_X9_fail
set_option maxRecDepth 20000 in
theorem ggX4_isStatementRead_X7_put : GoodIn wsX4_isStatementRead wsX7_put := goodIn_r _ [16, 17, 18, 19, 110, 111, 112] (by decide +kernel) (by decide +kernel)
set_option maxRecDepth 20000 in
theorem gX4_isStatementRead_X7_put : GoodIn wsX4_isStatementRead (wsV RX4 51 RX7 yX7_put wsX7_put) := goodIn_app (goodIn_of _ (by decide +kernel)) ggX4_isStatementRead_X7_put
set_option maxRecDepth 20000 in
theorem ggX4_isStatementRead_X9_step : GoodIn wsX4_isStatementRead wsX9_step := goodIn_r _ [23, 24, 10, 25, 26, 27, 28, 29, 30, 31, 32, 33, 34, 35, 36, 37, 38, 39, 40, 7, 41, 103, 104, 105, 106, 107, 108, 109, 113, 114] (by decide +kernel) (by decide +kernel)
set_option maxRecDepth 20000 in
theorem gX4_isStatementRead_X9_step : GoodIn wsX4_isStatementRead (wsV RX4 55 RX9 yX9_step wsX9_step) := goodIn_app (goodIn_of _ (by decide +kernel)) ggX4_isStatementRead_X9_step
set_option maxRecDepth 20000 in
theorem ggX4_isStatementRead_X4_isRoofRead : GoodIn wsX4_isStatementRead wsX4_isRoofRead := goodIn_r _ [46, 1, 47, 3, 2, 48, 49, 50, 7, 51, 52, 53, 54, 55, 26, 24, 10, 25, 56, 5, 6, 8, 9, 11, 34, 35, 36, 31, 37, 33, 38, 57, 58, 59, 60, 61, 62, 63, 64, 65, 66, 15, 67, 17, 18, 19, 12, 13, 14, 16, 20, 21, 22, 23, 27, 28, 29, 30, 32, 39, 40, 41, 99, 100, 101, 102, 103, 104, 105, 106, 107, 108, 109, 113, 114, 115, 116, 117, 118, 119, 120, 121, 122, 123, 124, 110, 111, 112] (by decide +kernel) (by decide +kernel)
set_option maxRecDepth 20000 in
theorem gX4_isStatementRead_X4_isRoofRead : GoodIn wsX4_isStatementRead (wsV RX4 58 RX4 yX4_isRoofRead wsX4_isRoofRead) := goodIn_app (goodIn_of _ (by decide +kernel)) ggX4_isStatementRead_X4_isRoofRead
set_option maxRecDepth 20000 in
theorem ggX4_isStatementRead_X7_get : GoodIn wsX4_isStatementRead wsX7_get := goodIn_r _ [67, 17, 18, 19, 110, 111, 112] (by decide +kernel) (by decide +kernel)
set_option maxRecDepth 20000 in
theorem gX4_isStatementRead_X7_get : GoodIn wsX4_isStatementRead (wsV RX4 62 RX7 yX7_get wsX7_get) := goodIn_app (goodIn_of _ (by decide +kernel)) ggX4_isStatementRead_X7_get
set_option maxRecDepth 20000 in
theorem ggX4_isStatementRead_X4_areNotesRead : GoodIn wsX4_isStatementRead wsX4_areNotesRead := goodIn_r _ [72, 1, 73, 74, 3, 2, 75, 76, 77, 7, 78, 26, 27, 56, 5, 6, 8, 9, 10, 11, 4, 20, 21, 22, 23, 24, 25, 28, 29, 30, 31, 32, 33, 34, 35, 36, 37, 38, 39, 40, 41, 12, 13, 14, 15, 16, 17, 18, 19, 99, 100, 101, 102, 103, 104, 105, 106, 107, 108, 109, 113, 114, 110, 111, 112] (by decide +kernel) (by decide +kernel)
set_option maxRecDepth 20000 in
theorem gX4_isStatementRead_X4_areNotesRead : GoodIn wsX4_isStatementRead (wsV RX4 66 RX4 yX4_areNotesRead wsX4_areNotesRead) := goodIn_app (goodIn_of _ (by decide +kernel)) ggX4_isStatementRead_X4_areNotesRead
set_option maxRecDepth 20000 in
theorem ggX4_isStatementRead_X4_isNumberRead : GoodIn wsX4_isStatementRead wsX4_isNumberRead := goodIn_r _ [82, 1, 3, 2, 83, 84, 85, 7, 86, 27, 87, 76, 77, 78, 26, 56, 5, 6, 8, 9, 10, 11, 88, 21, 22, 23, 24, 25, 28, 29, 30, 31, 32, 33, 34, 35, 36, 37, 38, 39, 40, 41, 12, 13, 14, 15, 16, 17, 18, 19, 99, 100, 101, 102, 103, 104, 105, 106, 107, 108, 109, 113, 114, 110, 111, 112] (by decide +kernel) (by decide +kernel)
set_option maxRecDepth 20000 in
theorem gX4_isStatementRead_X4_isNumberRead : GoodIn wsX4_isStatementRead (wsV RX4 70 RX4 yX4_isNumberRead wsX4_isNumberRead) := goodIn_app (goodIn_of _ (by decide +kernel)) ggX4_isStatementRead_X4_isNumberRead
set_option maxRecDepth 20000 in
theorem ggX4_isStatementRead_X2_leastOf : GoodIn wsX4_isStatementRead wsX2_leastOf := goodIn_r _ [91] (by decide +kernel) (by decide +kernel)
set_option maxRecDepth 20000 in
theorem gX4_isStatementRead_X2_leastOf : GoodIn wsX4_isStatementRead (va_wsS RX4 73 yX2_leastOf wsX2_leastOf) := goodIn_app (goodIn_of _ (by decide +kernel)) ggX4_isStatementRead_X2_leastOf
set_option maxRecDepth 20000 in
theorem ggX4_isStatementRead_X2_mostOf : GoodIn wsX4_isStatementRead wsX2_mostOf := goodIn_r _ [94] (by decide +kernel) (by decide +kernel)
set_option maxRecDepth 20000 in
theorem gX4_isStatementRead_X2_mostOf : GoodIn wsX4_isStatementRead (va_wsS RX4 79 yX2_mostOf wsX2_mostOf) := goodIn_app (goodIn_of _ (by decide +kernel)) ggX4_isStatementRead_X2_mostOf
set_option maxRecDepth 20000 in
theorem ggX4_isStatementRead_X9_isSemicolonTaken : GoodIn wsX4_isStatementRead wsX9_isSemicolonTaken := goodIn_r _ [98, 26, 56, 5, 6, 7, 8, 9, 10, 11, 88, 21, 22, 23, 24, 25, 27, 28, 29, 30, 31, 32, 33, 34, 35, 36, 37, 38, 39, 40, 41, 103, 104, 105, 106, 107, 108, 109, 113, 114] (by decide +kernel) (by decide +kernel)
set_option maxRecDepth 20000 in
theorem gX4_isStatementRead_X9_isSemicolonTaken : GoodIn wsX4_isStatementRead (wsV RX4 82 RX9 yX9_isSemicolonTaken wsX9_isSemicolonTaken) := goodIn_app (goodIn_of _ (by decide +kernel)) ggX4_isStatementRead_X9_isSemicolonTaken
set_option maxRecDepth 20000 in
theorem ggX4_wordHere_X9_isWord : GoodIn wsX4_wordHere wsX9_isWord := goodIn_r _ [6, 7, 8, 9, 10, 11, 12, 13, 14, 15, 16, 17, 18, 19, 20, 21, 22, 23, 24, 25, 26, 27, 28, 29, 30, 31, 32, 33, 34, 35, 36, 37, 38, 39, 40, 41, 42, 43, 44, 45, 46, 47, 48, 49, 50, 51, 52, 53, 54, 55, 56, 57, 58, 59, 60, 61, 62, 63, 64, 65, 66, 76, 77, 78, 79, 80, 81, 82, 83, 84] (by decide +kernel) (by decide +kernel)
set_option maxRecDepth 20000 in
theorem gX4_wordHere_X9_isWord : GoodIn wsX4_wordHere (wsV RX4 87 RX9 yX9_isWord wsX9_isWord) := goodIn_app (goodIn_of _ (by decide +kernel)) ggX4_wordHere_X9_isWord
set_option maxRecDepth 20000 in
theorem ggX4_wordHere_X9_settingWord : GoodIn wsX4_wordHere wsX9_settingWord := goodIn_r _ [70, 71, 3, 4, 5, 6, 7, 8, 9, 10, 11, 12, 13, 14, 15, 16, 17, 18, 19, 20, 21, 22, 23, 24, 25, 26, 27, 28, 29, 30, 31, 32, 33, 34, 35, 36, 37, 38, 39, 40, 41, 42, 43, 44, 45, 46, 47, 48, 49, 50, 51, 52, 53, 54, 55, 56, 57, 58, 59, 60, 61, 62, 63, 64, 65, 66, 76, 77, 78, 79, 80, 81, 82, 83, 84] (by decide +kernel) (by decide +kernel)
set_option maxRecDepth 20000 in
theorem gX4_wordHere_X9_settingWord : GoodIn wsX4_wordHere (wsV RX4 99 RX9 yX9_settingWord wsX9_settingWord) := goodIn_app (goodIn_of _ (by decide +kernel)) ggX4_wordHere_X9_settingWord
set_option maxRecDepth 20000 in
theorem ggX4_isRoofRead_X9_roofHere : GoodIn wsX4_isRoofRead wsX9_roofHere := goodIn_r _ [9, 10, 11, 12, 8, 13, 14, 15, 16, 17, 18, 19, 20, 21, 22, 23, 24, 25, 26, 27, 28, 29, 30, 31, 32, 33, 34, 35, 36, 37, 38, 39, 40, 41, 42, 43, 44, 45, 66, 67, 68, 69, 70, 71, 72, 73, 74, 75, 76, 77, 78, 79, 80, 81, 82, 83, 84, 85, 86, 87] (by decide +kernel) (by decide +kernel)
set_option maxRecDepth 20000 in
theorem gX4_isRoofRead_X9_roofHere : GoodIn wsX4_isRoofRead (wsV RX4 102 RX9 yX9_roofHere wsX9_roofHere) := goodIn_app (goodIn_of _ (by decide +kernel)) ggX4_isRoofRead_X9_roofHere
set_option maxRecDepth 20000 in
theorem ggX4_isRoofRead_X7_put : GoodIn wsX4_isRoofRead wsX7_put := goodIn_r _ [49, 43, 44, 45, 85, 86, 87] (by decide +kernel) (by decide +kernel)
set_option maxRecDepth 20000 in
theorem gX4_isRoofRead_X7_put : GoodIn wsX4_isRoofRead (wsV RX4 51 RX7 yX7_put wsX7_put) := goodIn_app (goodIn_of _ (by decide +kernel)) ggX4_isRoofRead_X7_put
set_option maxRecDepth 20000 in
theorem ggX4_isRoofRead_X9_step : GoodIn wsX4_isRoofRead wsX9_step := goodIn_r _ [53, 15, 16, 17, 14, 54, 55, 56, 57, 27, 58, 29, 24, 25, 26, 28, 30, 59, 60, 8, 61, 66, 67, 68, 69, 70, 71, 72, 73, 74] (by decide +kernel) (by decide +kernel)
set_option maxRecDepth 20000 in
theorem gX4_isRoofRead_X9_step : GoodIn wsX4_isRoofRead (wsV RX4 55 RX9 yX9_step wsX9_step) := goodIn_app (goodIn_of _ (by decide +kernel)) ggX4_isRoofRead_X9_step
set_option maxRecDepth 20000 in
theorem ggX4_isNumberRead_X9_takeNumber : GoodIn wsX4_isNumberRead wsX9_takeNumber := goodIn_r _ [8, 9, 10, 11, 12, 7, 13, 14, 15, 16, 17, 18, 19, 20, 21, 22, 23, 24, 25, 26, 27, 28, 29, 30, 31, 32, 33, 34, 35, 36, 37, 38, 39, 40, 41, 54, 55, 56, 57, 58, 59, 60, 61, 62] (by decide +kernel) (by decide +kernel)
set_option maxRecDepth 20000 in
theorem gX4_isNumberRead_X9_takeNumber : GoodIn wsX4_isNumberRead (wsV RX4 106 RX9 yX9_takeNumber wsX9_takeNumber) := goodIn_app (goodIn_of _ (by decide +kernel)) ggX4_isNumberRead_X9_takeNumber
set_option maxRecDepth 20000 in
theorem ggX4_isNumberRead_X7_put : GoodIn wsX4_isNumberRead wsX7_put := goodIn_r _ [46, 47, 48, 49, 63, 64, 65] (by decide +kernel) (by decide +kernel)
set_option maxRecDepth 20000 in
theorem gX4_isNumberRead_X7_put : GoodIn wsX4_isNumberRead (wsV RX4 51 RX7 yX7_put wsX7_put) := goodIn_app (goodIn_of _ (by decide +kernel)) ggX4_isNumberRead_X7_put
set_option maxRecDepth 20000 in
theorem ggX4_areNotesRead_X9_isNumberHere : GoodIn wsX4_areNotesRead wsX9_isNumberHere := goodIn_r _ [10, 11, 12, 13, 14, 15, 9, 16, 17, 18, 19, 53, 54, 55, 56, 57, 58, 59] (by decide +kernel) (by decide +kernel)
set_option maxRecDepth 20000 in
theorem gX4_areNotesRead_X9_isNumberHere : GoodIn wsX4_areNotesRead (wsV RX4 109 RX9 yX9_isNumberHere wsX9_isNumberHere) := goodIn_app (goodIn_of _ (by decide +kernel)) ggX4_areNotesRead_X9_isNumberHere
set_option maxRecDepth 20000 in
theorem ggX4_areNotesRead_X9_fail : GoodIn wsX4_areNotesRead wsX9_fail := goodIn_r _ [16, 17, 18, 19, 53, 54, 55, 56, 57, 58, 59] (by decide +kernel) (by decide +kernel)
set_option maxRecDepth 20000 in
theorem gX4_areNotesRead_X9_fail : GoodIn wsX4_areNotesRead (wsV RX4 48 RX9 yX9_fail wsX9_fail) := goodIn_app (goodIn_of _ (by decide +kernel)) ggX4_areNotesRead_X9_fail
set_option maxRecDepth 20000 in
theorem ggX4_areNotesRead_X9_step : GoodIn wsX4_areNotesRead wsX9_step := goodIn_r _ [24, 25, 18, 26, 11, 12, 27, 28, 29, 30, 31, 32, 33, 34, 35, 36, 37, 38, 39, 9, 40, 53, 54, 55, 56, 57, 58, 59, 60, 61] (by decide +kernel) (by decide +kernel)
set_option maxRecDepth 20000 in
theorem gX4_areNotesRead_X9_step : GoodIn wsX4_areNotesRead (wsV RX4 55 RX9 yX9_step wsX9_step) := goodIn_app (goodIn_of _ (by decide +kernel)) ggX4_areNotesRead_X9_step
set_option maxRecDepth 20000 in
theorem ggX4_areNotesRead_X7_put : GoodIn wsX4_areNotesRead wsX7_put := goodIn_r _ [45, 46, 47, 48, 62, 63, 64] (by decide +kernel) (by decide +kernel)
set_option maxRecDepth 20000 in
theorem gX4_areNotesRead_X7_put : GoodIn wsX4_areNotesRead (wsV RX4 51 RX7 yX7_put wsX7_put) := goodIn_app (goodIn_of _ (by decide +kernel)) ggX4_areNotesRead_X7_put
set_option maxRecDepth 20000 in
theorem ggX5_isRead_X2_clear : GoodIn wsX5_isRead wsX2_clear := goodIn_r _ [10, 11, 12, 13, 14, 15, 16, 17, 18, 9, 19, 20, 21, 22, 23, 24, 25, 26, 27, 28, 29, 30, 31, 32, 243, 244, 245, 246, 247, 248, 249, 250, 251, 252, 253, 254, 255] (by decide +kernel) (by decide +kernel)
set_option maxRecDepth 20000 in
theorem gX5_isRead_X2_clear : GoodIn wsX5_isRead (wsV RX5 19 RX2 yX2_clear wsX2_clear) := goodIn_app (goodIn_of _ (by decide +kernel)) ggX5_isRead_X2_clear
set_option maxRecDepth 20000 in
theorem ggX5_isRead_X9_open : GoodIn wsX5_isRead wsX9_open := goodIn_r _ [37, 38, 39, 40, 41, 42, 43, 36, 44, 45, 46, 47, 48, 49, 50, 51, 52, 53, 54, 55, 56, 57, 58, 59, 60, 61, 62, 236, 237, 238, 239, 240, 241, 242, 256, 257] (by decide +kernel) (by decide +kernel)
set_option maxRecDepth 20000 in
theorem gX5_isRead_X9_open : GoodIn wsX5_isRead (wsV RX5 24 RX9 yX9_open wsX9_open) := goodIn_app (goodIn_of _ (by decide +kernel)) ggX5_isRead_X9_open
set_option maxRecDepth 20000 in
theorem ggX5_isRead_X5_isStatementRead : GoodIn wsX5_isRead wsX5_isStatementRead := goodIn_r _ [67, 2, 68, 69, 70, 36, 71, 47, 40, 45, 46, 72, 73, 74, 75, 76, 77, 78, 79, 80, 81, 82, 83, 55, 56, 57, 52, 58, 54, 59, 84, 85, 86, 87, 88, 89, 90, 91, 92, 93, 94, 95, 96, 97, 98, 99, 100, 101, 102, 103, 104, 105, 106, 107, 108, 109, 110, 111, 112, 113, 114, 115, 116, 117, 118, 119, 120, 121, 122, 123, 66, 124, 1, 4, 125, 126, 127, 128, 38, 39, 129, 42, 43, 44, 48, 49, 50, 51, 53, 60, 61, 62, 130, 131, 132, 133, 134, 135, 136, 137, 9, 138, 12, 139, 140, 141, 142, 24, 143, 26, 27, 28, 144, 145, 146, 147, 148, 149, 150, 151, 41, 152, 153, 154, 155, 156, 157, 158, 159, 21, 22, 23, 25, 160, 161, 162, 163, 164, 165, 166, 167, 168, 169, 170, 171, 172, 173, 174, 13, 175, 176, 177, 178, 179, 180, 181, 182, 183, 184, 185, 186, 187, 188, 189, 190, 191, 192, 193, 194, 195, 196, 197, 198, 199, 17, 18, 19, 20, 234, 235, 236, 237, 238, 239, 240, 241, 242, 256, 257, 243, 244, 245, 246, 247, 248, 249, 250, 251, 252, 253, 254, 255] (by decide +kernel) (by decide +kernel)
set_option maxRecDepth 20000 in
theorem gX5_isRead_X5_isStatementRead : GoodIn wsX5_isRead (wsV RX5 33 RX5 yX5_isStatementRead wsX5_isStatementRead) := goodIn_app (goodIn_of _ (by decide +kernel)) ggX5_isRead_X5_isStatementRead
set_option maxRecDepth 20000 in
theorem ggX5_isRead_X9_fail : GoodIn wsX5_isRead wsX9_fail := goodIn_r _ [128, 38, 45, 39, 236, 237, 238, 239, 240, 241, 242] (by decide +kernel) (by decide +kernel)
set_option maxRecDepth 20000 in
theorem gX5_isRead_X9_fail : GoodIn wsX5_isRead (wsV RX5 40 RX9 yX9_fail wsX9_fail) := goodIn_app (goodIn_of _ (by decide +kernel)) ggX5_isRead_X9_fail
set_option maxRecDepth 20000 in
theorem ggX5_isRead_X3_lay : GoodIn wsX5_isRead wsX3_lay := goodIn_r _ [204, 205, 206, 207, 208, 209, 210, 211, 203, 212, 213, 214, 215, 30, 31, 24, 32, 28, 216, 22, 23, 25, 26, 27, 217, 141, 142, 143, 218, 219, 220, 221, 222, 223, 224, 225, 226, 227, 228, 229, 230, 231, 232, 233, 243, 244, 245, 246, 247, 248, 249, 250, 251, 252, 258, 259, 260, 253, 254, 255] (by decide +kernel) (by decide +kernel)
set_option maxRecDepth 20000 in
theorem gX5_isRead_X3_lay : GoodIn wsX5_isRead (wsV RX5 48 RX3 yX3_lay wsX3_lay) := goodIn_app (goodIn_of _ (by decide +kernel)) ggX5_isRead_X3_lay
set_option maxRecDepth 20000 in
theorem ggX5_isStatementRead_X9_isWord : GoodIn wsX5_isStatementRead wsX9_isWord := goodIn_r _ [6, 7, 8, 9, 10, 11, 12, 13, 14, 15, 16, 17, 18, 19, 20, 21, 22, 23, 24, 25, 26, 27, 28, 29, 30, 31, 32, 33, 34, 35, 36, 37, 38, 39, 40, 41, 42, 43, 44, 45, 46, 47, 48, 49, 50, 51, 52, 53, 54, 55, 56, 57, 58, 59, 60, 61, 62, 63, 64, 65, 66, 180, 181, 182, 183, 184, 185, 186, 187, 188] (by decide +kernel) (by decide +kernel)
set_option maxRecDepth 20000 in
theorem gX5_isStatementRead_X9_isWord : GoodIn wsX5_isStatementRead (wsV RX5 56 RX9 yX9_isWord wsX9_isWord) := goodIn_app (goodIn_of _ (by decide +kernel)) ggX5_isStatementRead_X9_isWord
set_option maxRecDepth 20000 in
theorem ggX5_isStatementRead_X5_isRoofRead : GoodIn wsX5_isStatementRead wsX5_isRoofRead := goodIn_r _ [71, 72, 73, 1, 74, 75, 76, 5, 77, 78, 9, 79, 80, 81, 82, 83, 8, 10, 7, 84, 85, 86, 87, 26, 88, 28, 23, 24, 25, 27, 29, 89, 90, 91, 92, 93, 94, 95, 96, 97, 98, 99, 100, 101, 102, 103, 104, 105, 106, 107, 108, 109, 110, 111, 112, 113, 114, 115, 116, 117, 118, 119, 120, 121, 122, 123, 124, 125, 126, 127, 128, 129, 130, 131, 132, 178, 179, 189, 190, 191, 192, 193, 194, 195, 196, 197, 198, 180, 181, 182, 183, 184, 185, 186, 187, 188, 199, 200, 201] (by decide +kernel) (by decide +kernel)
set_option maxRecDepth 20000 in
theorem gX5_isStatementRead_X5_isRoofRead : GoodIn wsX5_isStatementRead (wsV RX5 60 RX5 yX5_isRoofRead wsX5_isRoofRead) := goodIn_app (goodIn_of _ (by decide +kernel)) ggX5_isStatementRead_X5_isRoofRead
set_option maxRecDepth 20000 in
theorem ggX5_isStatementRead_X5_isWayRead : GoodIn wsX5_isStatementRead wsX5_isWayRead := goodIn_r _ [136, 72, 137, 1, 74, 75, 76, 5, 77, 78, 9, 79, 80, 81, 82, 83, 8, 10, 7, 84, 85, 86, 87, 26, 88, 28, 23, 24, 25, 27, 29, 89, 90, 91, 138, 139, 140, 141, 142, 93, 94, 95, 96, 143, 98, 99, 100, 101, 102, 103, 104, 105, 106, 107, 108, 109, 110, 111, 144, 145, 146, 147, 148, 149, 150, 151, 152, 153, 112, 113, 114, 115, 116, 117, 118, 119, 120, 121, 122, 123, 124, 154, 155, 156, 157, 129, 130, 131, 132, 178, 179, 189, 190, 191, 192, 193, 194, 195, 196, 197, 198, 180, 181, 182, 183, 184, 185, 186, 187, 188, 199, 200, 201] (by decide +kernel) (by decide +kernel)
set_option maxRecDepth 20000 in
theorem gX5_isStatementRead_X5_isWayRead : GoodIn wsX5_isStatementRead (wsV RX5 65 RX5 yX5_isWayRead wsX5_isWayRead) := goodIn_app (goodIn_of _ (by decide +kernel)) ggX5_isStatementRead_X5_isWayRead
set_option maxRecDepth 20000 in
theorem ggX5_isStatementRead_X9_settingWord : GoodIn wsX5_isStatementRead wsX9_settingWord := goodIn_r _ [161, 162, 3, 4, 5, 6, 7, 8, 9, 10, 11, 12, 13, 14, 15, 16, 17, 18, 19, 20, 21, 22, 23, 24, 25, 26, 27, 28, 29, 30, 31, 32, 33, 34, 35, 36, 37, 38, 39, 40, 41, 42, 43, 44, 45, 46, 47, 48, 49, 50, 51, 52, 53, 54, 55, 56, 57, 58, 59, 60, 61, 62, 63, 64, 65, 66, 180, 181, 182, 183, 184, 185, 186, 187, 188] (by decide +kernel) (by decide +kernel)
set_option maxRecDepth 20000 in
theorem gX5_isStatementRead_X9_settingWord : GoodIn wsX5_isStatementRead (wsV RX5 68 RX9 yX9_settingWord wsX9_settingWord) := goodIn_app (goodIn_of _ (by decide +kernel)) ggX5_isStatementRead_X9_settingWord
set_option maxRecDepth 20000 in
theorem ggX5_isStatementRead_X9_fail : GoodIn wsX5_isStatementRead wsX9_fail := goodIn_r _ [77, 78, 9, 79, 180, 181, 182, 183, 184, 185, 186] (by decide +kernel) (by decide +kernel)
set_option maxRecDepth 20000 in
theorem gX5_isStatementRead_X9_fail : GoodIn wsX5_isStatementRead (wsV RX5 40 RX9 yX9_fail wsX9_fail) := goodIn_app (goodIn_of _ (by decide +kernel)) ggX5_isStatementRead_X9_fail
set_option maxRecDepth 20000 in
theorem ggX5_isStatementRead_X5_isSettingRead : GoodIn wsX5_isStatementRead wsX5_isSettingRead := goodIn_r _ [166, 1, 72, 80, 81, 82, 5, 83, 8, 9, 10, 7, 84, 85, 86, 87, 26, 88, 28, 23, 24, 25, 27, 29, 89, 90, 91, 167, 168, 100, 169, 170, 171, 172, 112, 113, 114, 115, 116, 117, 118, 119, 96, 75, 76, 77, 78, 79, 120, 121, 122, 123, 124, 173, 174, 175, 176, 177, 129, 130, 131, 107, 132, 109, 110, 111, 178, 179, 180, 181, 182, 183, 184, 185, 186, 187, 188, 189, 190, 191, 192, 193, 194, 195, 196, 197, 198, 199, 200, 201] (by decide +kernel) (by decide +kernel)
set_option maxRecDepth 20000 in
theorem gX5_isStatementRead_X5_isSettingRead : GoodIn wsX5_isStatementRead (wsV RX5 72 RX5 yX5_isSettingRead wsX5_isSettingRead) := goodIn_app (goodIn_of _ (by decide +kernel)) ggX5_isStatementRead_X5_isSettingRead
set_option maxRecDepth 20000 in
theorem ggX5_isRoofRead_X9_fail : GoodIn wsX5_isRoofRead wsX9_fail := goodIn_r _ [8, 9, 10, 11, 87, 88, 89, 90, 91, 92, 93] (by decide +kernel) (by decide +kernel)
set_option maxRecDepth 20000 in
theorem gX5_isRoofRead_X9_fail : GoodIn wsX5_isRoofRead (wsV RX5 40 RX9 yX9_fail wsX9_fail) := goodIn_app (goodIn_of _ (by decide +kernel)) ggX5_isRoofRead_X9_fail
set_option maxRecDepth 20000 in
theorem ggX5_isRoofRead_X9_step : GoodIn wsX5_isRoofRead wsX9_step := goodIn_r _ [15, 16, 10, 17, 18, 19, 20, 21, 22, 23, 24, 25, 26, 27, 28, 29, 30, 31, 32, 7, 33, 87, 88, 89, 90, 91, 92, 93, 94, 95] (by decide +kernel) (by decide +kernel)
set_option maxRecDepth 20000 in
theorem gX5_isRoofRead_X9_step : GoodIn wsX5_isRoofRead (wsV RX5 75 RX9 yX9_step wsX9_step) := goodIn_app (goodIn_of _ (by decide +kernel)) ggX5_isRoofRead_X9_step
set_option maxRecDepth 20000 in
theorem ggX5_isRoofRead_X9_nameHere : GoodIn wsX5_isRoofRead wsX9_nameHere := goodIn_r _ [37, 18, 16, 10, 17, 38, 5, 6, 7, 8, 9, 11, 26, 27, 28, 23, 29, 25, 30, 87, 88, 89, 90, 91, 92, 93, 94, 95] (by decide +kernel) (by decide +kernel)
set_option maxRecDepth 20000 in
theorem gX5_isRoofRead_X9_nameHere : GoodIn wsX5_isRoofRead (wsV RX5 78 RX9 yX9_nameHere wsX9_nameHere) := goodIn_app (goodIn_of _ (by decide +kernel)) ggX5_isRoofRead_X9_nameHere
set_option maxRecDepth 20000 in
theorem ggX5_isRoofRead_X2_roofNamed : GoodIn wsX5_isRoofRead wsX2_roofNamed := goodIn_r _ [43, 44, 45, 46, 47, 48, 49, 50, 51, 52, 53, 77, 78, 79, 80, 81, 82, 83, 84, 85, 86, 96, 97, 98] (by decide +kernel) (by decide +kernel)
set_option maxRecDepth 20000 in
theorem gX5_isRoofRead_X2_roofNamed : GoodIn wsX5_isRoofRead (wsV RX5 81 RX2 yX2_roofNamed wsX2_roofNamed) := goodIn_app (goodIn_of _ (by decide +kernel)) ggX5_isRoofRead_X2_roofNamed
set_option maxRecDepth 20000 in
theorem ggX5_isRoofRead_X9_takeNumber : GoodIn wsX5_isRoofRead wsX9_takeNumber := goodIn_r _ [57, 19, 58, 59, 60, 7, 61, 18, 38, 5, 6, 8, 9, 10, 11, 62, 13, 14, 15, 16, 17, 20, 21, 22, 23, 24, 25, 26, 27, 28, 29, 30, 31, 32, 33, 87, 88, 89, 90, 91, 92, 93, 94, 95] (by decide +kernel) (by decide +kernel)
set_option maxRecDepth 20000 in
theorem gX5_isRoofRead_X9_takeNumber : GoodIn wsX5_isRoofRead (wsV RX5 85 RX9 yX9_takeNumber wsX9_takeNumber) := goodIn_app (goodIn_of _ (by decide +kernel)) ggX5_isRoofRead_X9_takeNumber
set_option maxRecDepth 20000 in
theorem ggX5_isRoofRead_X9_isSemicolonTaken : GoodIn wsX5_isRoofRead wsX9_isSemicolonTaken := goodIn_r _ [66, 18, 38, 5, 6, 7, 8, 9, 10, 11, 62, 13, 14, 15, 16, 17, 19, 20, 21, 22, 23, 24, 25, 26, 27, 28, 29, 30, 31, 32, 33, 87, 88, 89, 90, 91, 92, 93, 94, 95] (by decide +kernel) (by decide +kernel)
set_option maxRecDepth 20000 in
theorem gX5_isRoofRead_X9_isSemicolonTaken : GoodIn wsX5_isRoofRead (wsV RX5 89 RX9 yX9_isSemicolonTaken wsX9_isSemicolonTaken) := goodIn_app (goodIn_of _ (by decide +kernel)) ggX5_isRoofRead_X9_isSemicolonTaken
set_option maxRecDepth 20000 in
theorem ggX5_isRoofRead_X2_addRoof : GoodIn wsX5_isRoofRead wsX2_addRoof := goodIn_r _ [70, 44, 45, 71, 72, 73, 49, 74, 51, 52, 53, 77, 78, 79, 80, 81, 82, 83, 84, 85, 86, 96, 97, 98] (by decide +kernel) (by decide +kernel)
set_option maxRecDepth 20000 in
theorem gX5_isRoofRead_X2_addRoof : GoodIn wsX5_isRoofRead (wsV RX5 92 RX2 yX2_addRoof wsX2_addRoof) := goodIn_app (goodIn_of _ (by decide +kernel)) ggX5_isRoofRead_X2_addRoof
set_option maxRecDepth 20000 in
theorem ggX5_isWayRead_X9_fail : GoodIn wsX5_isWayRead wsX9_fail := goodIn_r _ [8, 9, 10, 11, 101, 102, 103, 104, 105, 106, 107] (by decide +kernel) (by decide +kernel)
set_option maxRecDepth 20000 in
theorem gX5_isWayRead_X9_fail : GoodIn wsX5_isWayRead (wsV RX5 40 RX9 yX9_fail wsX9_fail) := goodIn_app (goodIn_of _ (by decide +kernel)) ggX5_isWayRead_X9_fail
set_option maxRecDepth 20000 in
theorem ggX5_isWayRead_X9_step : GoodIn wsX5_isWayRead wsX9_step := goodIn_r _ [15, 16, 10, 17, 18, 19, 20, 21, 22, 23, 24, 25, 26, 27, 28, 29, 30, 31, 32, 7, 33, 101, 102, 103, 104, 105, 106, 107, 108, 109] (by decide +kernel) (by decide +kernel)
set_option maxRecDepth 20000 in
theorem gX5_isWayRead_X9_step : GoodIn wsX5_isWayRead (wsV RX5 75 RX9 yX9_step wsX9_step) := goodIn_app (goodIn_of _ (by decide +kernel)) ggX5_isWayRead_X9_step
set_option maxRecDepth 20000 in
theorem ggX5_isWayRead_X9_roofHere : GoodIn wsX5_isWayRead wsX9_roofHere := goodIn_r _ [37, 38, 39, 40, 7, 41, 18, 16, 10, 17, 42, 5, 6, 8, 9, 11, 26, 27, 28, 23, 29, 25, 30, 43, 44, 45, 46, 47, 48, 49, 50, 51, 52, 53, 54, 55, 56, 57, 101, 102, 103, 104, 105, 106, 107, 108, 109, 91, 92, 93, 94, 95, 96, 97, 98, 99, 100, 110, 111, 112] (by decide +kernel) (by decide +kernel)
set_option maxRecDepth 20000 in
theorem gX5_isWayRead_X9_roofHere : GoodIn wsX5_isWayRead (wsV RX5 99 RX9 yX9_roofHere wsX9_roofHere) := goodIn_app (goodIn_of _ (by decide +kernel)) ggX5_isWayRead_X9_roofHere
set_option maxRecDepth 20000 in
theorem ggX5_isWayRead_X2_wayBetween : GoodIn wsX5_isWayRead wsX2_wayBetween := goodIn_r _ [61, 62, 63, 64, 65, 46, 66, 67, 50, 51, 52, 53, 54, 55, 56, 57, 91, 92, 93, 94, 95, 96, 97, 98, 99, 100, 110, 111, 112] (by decide +kernel) (by decide +kernel)
set_option maxRecDepth 20000 in
theorem gX5_isWayRead_X2_wayBetween : GoodIn wsX5_isWayRead (wsV RX5 103 RX2 yX2_wayBetween wsX2_wayBetween) := goodIn_app (goodIn_of _ (by decide +kernel)) ggX5_isWayRead_X2_wayBetween
set_option maxRecDepth 20000 in
theorem ggX5_isWayRead_X9_takeNumber : GoodIn wsX5_isWayRead wsX9_takeNumber := goodIn_r _ [71, 19, 72, 73, 74, 7, 75, 18, 42, 5, 6, 8, 9, 10, 11, 76, 13, 14, 15, 16, 17, 20, 21, 22, 23, 24, 25, 26, 27, 28, 29, 30, 31, 32, 33, 101, 102, 103, 104, 105, 106, 107, 108, 109] (by decide +kernel) (by decide +kernel)
set_option maxRecDepth 20000 in
theorem gX5_isWayRead_X9_takeNumber : GoodIn wsX5_isWayRead (wsV RX5 85 RX9 yX9_takeNumber wsX9_takeNumber) := goodIn_app (goodIn_of _ (by decide +kernel)) ggX5_isWayRead_X9_takeNumber
set_option maxRecDepth 20000 in
theorem ggX5_isWayRead_X9_isSemicolonTaken : GoodIn wsX5_isWayRead wsX9_isSemicolonTaken := goodIn_r _ [80, 18, 42, 5, 6, 7, 8, 9, 10, 11, 76, 13, 14, 15, 16, 17, 19, 20, 21, 22, 23, 24, 25, 26, 27, 28, 29, 30, 31, 32, 33, 101, 102, 103, 104, 105, 106, 107, 108, 109] (by decide +kernel) (by decide +kernel)
set_option maxRecDepth 20000 in
theorem gX5_isWayRead_X9_isSemicolonTaken : GoodIn wsX5_isWayRead (wsV RX5 89 RX9 yX9_isSemicolonTaken wsX9_isSemicolonTaken) := goodIn_app (goodIn_of _ (by decide +kernel)) ggX5_isWayRead_X9_isSemicolonTaken
set_option maxRecDepth 20000 in
theorem ggX5_isWayRead_X2_addWay : GoodIn wsX5_isWayRead wsX2_addWay := goodIn_r _ [84, 67, 62, 85, 86, 87, 53, 88, 55, 56, 57, 91, 92, 93, 94, 95, 96, 97, 98, 99, 100, 110, 111, 112] (by decide +kernel) (by decide +kernel)
set_option maxRecDepth 20000 in
theorem gX5_isWayRead_X2_addWay : GoodIn wsX5_isWayRead (wsV RX5 106 RX2 yX2_addWay wsX2_addWay) := goodIn_app (goodIn_of _ (by decide +kernel)) ggX5_isWayRead_X2_addWay
set_option maxRecDepth 20000 in
theorem ggX5_isSettingRead_X9_step : GoodIn wsX5_isSettingRead wsX9_step := goodIn_r _ [7, 8, 9, 10, 11, 12, 13, 14, 15, 16, 17, 18, 19, 20, 21, 22, 23, 24, 25, 6, 26, 68, 69, 70, 71, 72, 73, 74, 75, 76] (by decide +kernel) (by decide +kernel)
set_option maxRecDepth 20000 in
theorem gX5_isSettingRead_X9_step : GoodIn wsX5_isSettingRead (wsV RX5 75 RX9 yX9_step wsX9_step) := goodIn_app (goodIn_of _ (by decide +kernel)) ggX5_isSettingRead_X9_step
set_option maxRecDepth 20000 in
theorem ggX5_isSettingRead_X2_leastOf : GoodIn wsX5_isSettingRead wsX2_leastOf := goodIn_r _ [30] (by decide +kernel) (by decide +kernel)
set_option maxRecDepth 20000 in
theorem gX5_isSettingRead_X2_leastOf : GoodIn wsX5_isSettingRead (va_wsS RX5 110 yX2_leastOf wsX2_leastOf) := goodIn_app (goodIn_of _ (by decide +kernel)) ggX5_isSettingRead_X2_leastOf
set_option maxRecDepth 20000 in
theorem ggX5_isSettingRead_X2_mostOf : GoodIn wsX5_isSettingRead wsX2_mostOf := goodIn_r _ [33] (by decide +kernel) (by decide +kernel)
set_option maxRecDepth 20000 in
theorem gX5_isSettingRead_X2_mostOf : GoodIn wsX5_isSettingRead (va_wsS RX5 113 yX2_mostOf wsX2_mostOf) := goodIn_app (goodIn_of _ (by decide +kernel)) ggX5_isSettingRead_X2_mostOf
set_option maxRecDepth 20000 in
theorem ggX5_isSettingRead_X9_takeNumber : GoodIn wsX5_isSettingRead wsX9_takeNumber := goodIn_r _ [37, 12, 38, 39, 40, 6, 41, 11, 42, 43, 44, 45, 46, 9, 47, 48, 4, 5, 7, 8, 10, 13, 14, 15, 16, 17, 18, 19, 20, 21, 22, 23, 24, 25, 26, 68, 69, 70, 71, 72, 73, 74, 75, 76] (by decide +kernel) (by decide +kernel)
set_option maxRecDepth 20000 in
theorem gX5_isSettingRead_X9_takeNumber : GoodIn wsX5_isSettingRead (wsV RX5 85 RX9 yX9_takeNumber wsX9_takeNumber) := goodIn_app (goodIn_of _ (by decide +kernel)) ggX5_isSettingRead_X9_takeNumber
set_option maxRecDepth 20000 in
theorem ggX5_isSettingRead_X9_isSemicolonTaken : GoodIn wsX5_isSettingRead wsX9_isSemicolonTaken := goodIn_r _ [52, 11, 42, 43, 44, 6, 45, 46, 9, 47, 48, 4, 5, 7, 8, 10, 12, 13, 14, 15, 16, 17, 18, 19, 20, 21, 22, 23, 24, 25, 26, 68, 69, 70, 71, 72, 73, 74, 75, 76] (by decide +kernel) (by decide +kernel)
set_option maxRecDepth 20000 in
theorem gX5_isSettingRead_X9_isSemicolonTaken : GoodIn wsX5_isSettingRead (wsV RX5 89 RX9 yX9_isSemicolonTaken wsX9_isSemicolonTaken) := goodIn_app (goodIn_of _ (by decide +kernel)) ggX5_isSettingRead_X9_isSemicolonTaken
set_option maxRecDepth 20000 in
theorem ggX5_isSettingRead_X2_settle : GoodIn wsX5_isSettingRead wsX2_settle := goodIn_r _ [56, 57, 58, 59, 60, 61, 62, 63, 64, 65, 77, 78, 79, 80, 81, 82, 83, 84, 85, 86, 87, 88, 89] (by decide +kernel) (by decide +kernel)
set_option maxRecDepth 20000 in
theorem gX5_isSettingRead_X2_settle : GoodIn wsX5_isSettingRead (wsV RX5 116 RX2 yX2_settle wsX2_settle) := goodIn_app (goodIn_of _ (by decide +kernel)) ggX5_isSettingRead_X2_settle
set_option maxRecDepth 20000 in
theorem ggX6_causeOf_X7_get : GoodIn wsX6_causeOf wsX7_get := goodIn_r _ [8, 9, 10, 11, 63, 64, 65] (by decide +kernel) (by decide +kernel)
set_option maxRecDepth 20000 in
theorem gX6_causeOf_X7_get : GoodIn wsX6_causeOf (wsV RX6 15 RX7 yX7_get wsX7_get) := goodIn_app (goodIn_of _ (by decide +kernel)) ggX6_causeOf_X7_get
set_option maxRecDepth 20000 in
theorem ggX6_causeOf_X2_nextOf : GoodIn wsX6_causeOf wsX2_nextOf := goodIn_r _ [16, 17, 18, 19, 20, 5, 6, 7, 8, 9, 10, 11, 53, 54, 55, 56, 57, 58, 59, 60, 61, 62, 66, 67, 68, 63, 64, 65] (by decide +kernel) (by decide +kernel)
set_option maxRecDepth 20000 in
theorem gX6_causeOf_X2_nextOf : GoodIn wsX6_causeOf (wsV RX6 25 RX2 yX2_nextOf wsX2_nextOf) := goodIn_app (goodIn_of _ (by decide +kernel)) ggX6_causeOf_X2_nextOf
set_option maxRecDepth 20000 in
theorem ggX6_causeOf_X2_setting : GoodIn wsX6_causeOf wsX2_setting := goodIn_r _ [24, 25, 20, 5, 6, 7, 8, 9, 10, 11, 53, 54, 55, 56, 57, 58, 59, 60, 61, 62, 63, 64, 65] (by decide +kernel) (by decide +kernel)
set_option maxRecDepth 20000 in
theorem gX6_causeOf_X2_setting : GoodIn wsX6_causeOf (wsV RX6 29 RX2 yX2_setting wsX2_setting) := goodIn_app (goodIn_of _ (by decide +kernel)) ggX6_causeOf_X2_setting
set_option maxRecDepth 20000 in
theorem ggX6_causeOf_X2_isBusy : GoodIn wsX6_causeOf wsX2_isBusy := goodIn_r _ [29, 30, 20, 5, 6, 7, 8, 9, 10, 11, 53, 54, 55, 56, 57, 58, 59, 60, 61, 62, 63, 64, 65] (by decide +kernel) (by decide +kernel)
set_option maxRecDepth 20000 in
theorem gX6_causeOf_X2_isBusy : GoodIn wsX6_causeOf (wsV RX6 32 RX2 yX2_isBusy wsX2_isBusy) := goodIn_app (goodIn_of _ (by decide +kernel)) ggX6_causeOf_X2_isBusy
set_option maxRecDepth 20000 in
theorem ggX6_causeOf_X2_lackOf : GoodIn wsX6_causeOf wsX2_lackOf := goodIn_r _ [34, 30, 19, 20, 5, 6, 7, 8, 9, 10, 11, 35, 36, 15, 37, 53, 54, 55, 56, 57, 58, 59, 60, 61, 62, 63, 64, 65] (by decide +kernel) (by decide +kernel)
set_option maxRecDepth 20000 in
theorem gX6_causeOf_X2_lackOf : GoodIn wsX6_causeOf (wsV RX6 39 RX2 yX2_lackOf wsX2_lackOf) := goodIn_app (goodIn_of _ (by decide +kernel)) ggX6_causeOf_X2_lackOf
set_option maxRecDepth 20000 in
theorem ggX6_causeOf_X2_firstToGoFrom : GoodIn wsX6_causeOf wsX2_firstToGoFrom := goodIn_r _ [41, 42, 43, 44, 45, 15, 46, 19, 20, 5, 6, 7, 8, 9, 10, 11, 47, 13, 14, 16, 17, 18, 48, 32, 33, 34, 30, 35, 36, 37, 49, 50, 51, 52, 53, 54, 55, 56, 57, 58, 59, 60, 61, 62, 63, 64, 65, 66, 67, 68] (by decide +kernel) (by decide +kernel)
set_option maxRecDepth 20000 in
theorem gX6_causeOf_X2_firstToGoFrom : GoodIn wsX6_causeOf (wsV RX6 42 RX2 yX2_firstToGoFrom wsX2_firstToGoFrom) := goodIn_app (goodIn_of _ (by decide +kernel)) ggX6_causeOf_X2_firstToGoFrom
set_option maxRecDepth 20000 in
theorem ggX6_feesOn_X7_get : GoodIn wsX6_feesOn wsX7_get := goodIn_r _ [8, 9, 10, 11, 29, 30, 31] (by decide +kernel) (by decide +kernel)
set_option maxRecDepth 20000 in
theorem gX6_feesOn_X7_get : GoodIn wsX6_feesOn (wsV RX6 15 RX7 yX7_get wsX7_get) := goodIn_app (goodIn_of _ (by decide +kernel)) ggX6_feesOn_X7_get
set_option maxRecDepth 20000 in
theorem ggX6_feesOn_X2_barsOf : GoodIn wsX6_feesOn wsX2_barsOf := goodIn_r _ [15] (by decide +kernel) (by decide +kernel)
set_option maxRecDepth 20000 in
theorem gX6_feesOn_X2_barsOf : GoodIn wsX6_feesOn (va_wsS RX6 54 yX2_barsOf wsX2_barsOf) := goodIn_app (goodIn_of _ (by decide +kernel)) ggX6_feesOn_X2_barsOf
set_option maxRecDepth 20000 in
theorem ggX6_wrongNotesOn_X7_get : GoodIn wsX6_wrongNotesOn wsX7_get := goodIn_r _ [8, 9, 10, 11, 39, 40, 41] (by decide +kernel) (by decide +kernel)
set_option maxRecDepth 20000 in
theorem gX6_wrongNotesOn_X7_get : GoodIn wsX6_wrongNotesOn (wsV RX6 15 RX7 yX7_get wsX7_get) := goodIn_app (goodIn_of _ (by decide +kernel)) ggX6_wrongNotesOn_X7_get
set_option maxRecDepth 20000 in
theorem ggX6_wrongNotesOn_X2_wrongOf : GoodIn wsX6_wrongNotesOn wsX2_wrongOf := goodIn_r _ [16, 17, 18, 19, 20, 21, 22, 23, 24, 25, 5, 6, 7, 8, 9, 10, 11, 26, 27, 28, 29, 30, 31, 32, 33, 34, 35, 39, 40, 41] (by decide +kernel) (by decide +kernel)
set_option maxRecDepth 20000 in
theorem gX6_wrongNotesOn_X2_wrongOf : GoodIn wsX6_wrongNotesOn (wsV RX6 60 RX2 yX2_wrongOf wsX2_wrongOf) := goodIn_app (goodIn_of _ (by decide +kernel)) ggX6_wrongNotesOn_X2_wrongOf
set_option maxRecDepth 20000 in
theorem ggX6_mostNeededWay_X6_pairsApartWithout : GoodIn wsX6_mostNeededWay wsX6_pairsApartWithout := goodIn_r _ [5, 6, 7, 8, 4, 9, 1, 10, 11, 12, 13, 14, 15, 16, 17, 18, 19, 20, 21, 22, 23, 24, 25, 26, 27, 28, 29, 30, 31, 32, 33, 34, 35, 36, 37, 38] (by decide +kernel) (by decide +kernel)
set_option maxRecDepth 20000 in
theorem gX6_mostNeededWay_X6_pairsApartWithout : GoodIn wsX6_mostNeededWay (va_wsS RX6 67 yX6_pairsApartWithout wsX6_pairsApartWithout) := goodIn_app (goodIn_of _ (by decide +kernel)) ggX6_mostNeededWay_X6_pairsApartWithout
set_option maxRecDepth 20000 in
theorem ggX6_pairsApartWithout_X6_partOf : GoodIn wsX6_pairsApartWithout wsX6_partOf := goodIn_r _ [5, 1, 6, 7, 8, 9, 10, 11, 12, 13, 14, 15, 23, 24, 25, 26, 27, 28, 29, 30, 31, 32, 33, 34, 35] (by decide +kernel) (by decide +kernel)
set_option maxRecDepth 20000 in
theorem gX6_pairsApartWithout_X6_partOf : GoodIn wsX6_pairsApartWithout (va_wsS RX6 76 yX6_partOf wsX6_partOf) := goodIn_app (goodIn_of _ (by decide +kernel)) ggX6_pairsApartWithout_X6_partOf
set_option maxRecDepth 20000 in
theorem ggX6_pairsApartWithout_J6_bitCount_0f7a4 : GoodIn wsX6_pairsApartWithout wsJ6_bitCount_0f7a4 := goodIn_r _ [19, 20, 21, 22] (by decide +kernel) (by decide +kernel)
set_option maxRecDepth 20000 in
theorem gX6_pairsApartWithout_J6_bitCount_0f7a4 : GoodIn wsX6_pairsApartWithout (va_wsS RX6 80 yJ6_bitCount_0f7a4 wsJ6_bitCount_0f7a4) := goodIn_app (goodIn_of _ (by decide +kernel)) ggX6_pairsApartWithout_J6_bitCount_0f7a4
set_option maxRecDepth 20000 in
theorem ggX6_partOf_X7_get : GoodIn wsX6_partOf wsX7_get := goodIn_r _ [8, 9, 10, 11, 22, 23, 24] (by decide +kernel) (by decide +kernel)
set_option maxRecDepth 20000 in
theorem gX6_partOf_X7_get : GoodIn wsX6_partOf (wsV RX6 15 RX7 yX7_get wsX7_get) := goodIn_app (goodIn_of _ (by decide +kernel)) ggX6_partOf_X7_get
set_option maxRecDepth 20000 in
theorem ggX6_areTunesRight_X7_get : GoodIn wsX6_areTunesRight wsX7_get := goodIn_r _ [8, 9, 10, 11, 22, 23, 24] (by decide +kernel) (by decide +kernel)
set_option maxRecDepth 20000 in
theorem gX6_areTunesRight_X7_get : GoodIn wsX6_areTunesRight (wsV RX6 15 RX7 yX7_get wsX7_get) := goodIn_app (goodIn_of _ (by decide +kernel)) ggX6_areTunesRight_X7_get
set_option maxRecDepth 20000 in
theorem ggX6_areAccountsRight_X7_get : GoodIn wsX6_areAccountsRight wsX7_get := goodIn_r _ [10, 11, 12, 13, 38, 39, 40] (by decide +kernel) (by decide +kernel)
set_option maxRecDepth 20000 in
theorem gX6_areAccountsRight_X7_get : GoodIn wsX6_areAccountsRight (wsV RX6 15 RX7 yX7_get wsX7_get) := goodIn_app (goodIn_of _ (by decide +kernel)) ggX6_areAccountsRight_X7_get
set_option maxRecDepth 20000 in
theorem ggX6_areAccountsRight_X2_tunesIn : GoodIn wsX6_areAccountsRight wsX2_tunesIn := goodIn_r _ [18, 19, 20, 21, 7, 8, 9, 10, 11, 12, 13, 28, 29, 30, 31, 32, 33, 34, 35, 36, 37, 38, 39, 40] (by decide +kernel) (by decide +kernel)
set_option maxRecDepth 20000 in
theorem gX6_areAccountsRight_X2_tunesIn : GoodIn wsX6_areAccountsRight (wsV RX6 94 RX2 yX2_tunesIn wsX2_tunesIn) := goodIn_app (goodIn_of _ (by decide +kernel)) ggX6_areAccountsRight_X2_tunesIn
set_option maxRecDepth 20000 in
theorem ggX6_areAccountsRight_X2_pursesTogether : GoodIn wsX6_areAccountsRight wsX2_pursesTogether := goodIn_r _ [25, 26, 27, 21, 7, 8, 9, 10, 11, 12, 13, 28, 29, 30, 31, 32, 33, 34, 35, 36, 37, 38, 39, 40] (by decide +kernel) (by decide +kernel)
set_option maxRecDepth 20000 in
theorem gX6_areAccountsRight_X2_pursesTogether : GoodIn wsX6_areAccountsRight (wsV RX6 97 RX2 yX2_pursesTogether wsX2_pursesTogether) := goodIn_app (goodIn_of _ (by decide +kernel)) ggX6_areAccountsRight_X2_pursesTogether
set_option maxRecDepth 20000 in
theorem ggX7_removeRow_X7_get : GoodIn wsX7_removeRow wsX7_get := goodIn_r _ [7, 1, 2, 8, 13, 14, 15] (by decide +kernel) (by decide +kernel)
set_option maxRecDepth 20000 in
theorem gX7_removeRow_X7_get : GoodIn wsX7_removeRow (wsV RX7 34 RX7 yX7_get wsX7_get) := goodIn_app (goodIn_of _ (by decide +kernel)) ggX7_removeRow_X7_get
set_option maxRecDepth 20000 in
theorem ggX7_removeRow_X7_put : GoodIn wsX7_removeRow wsX7_put := goodIn_r _ [12, 1, 2, 8, 13, 14, 15] (by decide +kernel) (by decide +kernel)
set_option maxRecDepth 20000 in
theorem gX7_removeRow_X7_put : GoodIn wsX7_removeRow (wsV RX7 37 RX7 yX7_put wsX7_put) := goodIn_app (goodIn_of _ (by decide +kernel)) ggX7_removeRow_X7_put
set_option maxRecDepth 20000 in
theorem ggX8_run_X2_enter : GoodIn wsX8_run wsX2_enter := goodIn_r _ [6, 7, 8, 9, 10, 11, 12, 13, 14, 15, 123, 124, 125, 126, 127, 128, 129, 130, 131, 132, 133, 134, 135] (by decide +kernel) (by decide +kernel)
set_option maxRecDepth 20000 in
theorem gX8_run_X2_enter : GoodIn wsX8_run (wsV RX8 15 RX2 yX2_enter wsX2_enter) := goodIn_app (goodIn_of _ (by decide +kernel)) ggX8_run_X2_enter
set_option maxRecDepth 20000 in
theorem ggX8_run_X8_landAll : GoodIn wsX8_run wsX8_landAll := goodIn_r _ [19, 20, 21, 1, 22, 23, 24, 11, 25, 13, 14, 15, 26, 27, 18, 28, 29, 30, 31, 5, 32, 33, 34, 35, 36, 37, 38, 39, 40, 41, 42, 43, 44, 45, 46, 47, 48, 49, 50, 51, 52, 53, 54, 55, 56, 2, 3, 4, 6, 7, 8, 9, 10, 12, 57, 58, 59, 60, 61, 62, 63, 64, 65, 66, 67, 68, 69, 70, 71, 123, 124, 125, 126, 127, 128, 129, 130, 131, 132, 133, 134, 135] (by decide +kernel) (by decide +kernel)
set_option maxRecDepth 20000 in
theorem gX8_run_X8_landAll : GoodIn wsX8_run (va_wsS RX8 19 yX8_landAll wsX8_landAll) := goodIn_app (goodIn_of _ (by decide +kernel)) ggX8_run_X8_landAll
set_option maxRecDepth 20000 in
theorem ggX8_run_X2_setting : GoodIn wsX8_run wsX2_setting := goodIn_r _ [32, 33, 34, 23, 24, 11, 25, 13, 14, 15, 123, 124, 125, 126, 127, 128, 129, 130, 131, 132, 133, 134, 135] (by decide +kernel) (by decide +kernel)
set_option maxRecDepth 20000 in
theorem gX8_run_X2_setting : GoodIn wsX8_run (wsV RX8 25 RX2 yX2_setting wsX2_setting) := goodIn_app (goodIn_of _ (by decide +kernel)) ggX8_run_X2_setting
set_option maxRecDepth 20000 in
theorem ggX8_run_X8_whistleAll : GoodIn wsX8_run wsX8_whistleAll := goodIn_r _ [74, 75, 1, 76, 77, 18, 78, 20, 21, 22, 23, 24, 11, 25, 13, 14, 15, 79, 80, 81, 5, 82, 39, 34, 83, 84, 85, 86, 68, 87, 88, 89, 90, 69, 91, 92, 93, 94, 95, 96, 97, 98, 99, 100, 101, 102, 103, 104, 105, 106, 107, 108, 109, 110, 111, 112, 113, 114, 60, 9, 10, 12, 2, 3, 4, 6, 7, 8, 115, 116, 117, 118, 119, 41, 42, 43, 53, 54, 55, 56, 123, 124, 125, 126, 127, 128, 129, 130, 131, 132, 133, 134, 135, 136, 137, 138] (by decide +kernel) (by decide +kernel)
set_option maxRecDepth 20000 in
theorem gX8_run_X8_whistleAll : GoodIn wsX8_run (va_wsS RX8 29 yX8_whistleAll wsX8_whistleAll) := goodIn_app (goodIn_of _ (by decide +kernel)) ggX8_run_X8_whistleAll
set_option maxRecDepth 20000 in
theorem ggX8_run_X8_loseAll : GoodIn wsX8_run wsX8_loseAll := goodIn_r _ [122, 20, 21, 22, 23, 24, 11, 25, 13, 14, 15, 115, 92, 93, 5, 94, 95, 96, 69, 34, 53, 54, 55, 56, 2, 3, 4, 6, 7, 8, 9, 10, 12, 123, 124, 125, 126, 127, 128, 129, 130, 131, 132, 133, 134, 135, 136, 137, 138] (by decide +kernel) (by decide +kernel)
set_option maxRecDepth 20000 in
theorem gX8_run_X8_loseAll : GoodIn wsX8_run (va_wsS RX8 32 yX8_loseAll wsX8_loseAll) := goodIn_app (goodIn_of _ (by decide +kernel)) ggX8_run_X8_loseAll
set_option maxRecDepth 20000 in
theorem ggX8_landAll_X7_get : GoodIn wsX8_landAll wsX7_get := goodIn_r _ [8, 9, 10, 11, 79, 80, 81] (by decide +kernel) (by decide +kernel)
set_option maxRecDepth 20000 in
theorem gX8_landAll_X7_get : GoodIn wsX8_landAll (wsV RX8 42 RX7 yX7_get wsX7_get) := goodIn_app (goodIn_of _ (by decide +kernel)) ggX8_landAll_X7_get
set_option maxRecDepth 20000 in
theorem ggX8_landAll_X8_land : GoodIn wsX8_landAll wsX8_land := goodIn_r _ [15, 2, 4, 5, 6, 7, 8, 9, 10, 11, 16, 17, 18, 19, 20, 21, 22, 23, 24, 25, 26, 27, 28, 29, 30, 31, 32, 33, 34, 35, 36, 14, 37, 38, 39, 40, 41, 42, 43, 44, 45, 46, 47, 48, 49, 50, 51, 52, 53, 69, 70, 71, 72, 73, 74, 75, 76, 77, 78, 79, 80, 81] (by decide +kernel) (by decide +kernel)
set_option maxRecDepth 20000 in
theorem gX8_landAll_X8_land : GoodIn wsX8_landAll (va_wsS RX8 48 yX8_land wsX8_land) := goodIn_app (goodIn_of _ (by decide +kernel)) ggX8_landAll_X8_land
set_option maxRecDepth 20000 in
theorem ggX8_landAll_X8_reachGoal : GoodIn wsX8_landAll wsX8_reachGoal := goodIn_r _ [56, 2, 1, 4, 5, 6, 7, 8, 9, 10, 11, 16, 17, 18, 19, 20, 21, 22, 57, 51, 52, 53, 41, 42, 43, 44, 45, 46, 47, 48, 49, 50, 58, 59, 14, 60, 38, 39, 40, 61, 62, 63, 64, 65, 66, 67, 68, 69, 70, 71, 72, 73, 74, 75, 76, 77, 78, 79, 80, 81] (by decide +kernel) (by decide +kernel)
set_option maxRecDepth 20000 in
theorem gX8_landAll_X8_reachGoal : GoodIn wsX8_landAll (va_wsS RX8 52 yX8_reachGoal wsX8_reachGoal) := goodIn_app (goodIn_of _ (by decide +kernel)) ggX8_landAll_X8_reachGoal
set_option maxRecDepth 20000 in
theorem ggX8_land_X7_get : GoodIn wsX8_land wsX7_get := goodIn_r _ [6, 7, 8, 9, 59, 60, 61] (by decide +kernel) (by decide +kernel)
set_option maxRecDepth 20000 in
theorem gX8_land_X7_get : GoodIn wsX8_land (wsV RX8 42 RX7 yX7_get wsX7_get) := goodIn_app (goodIn_of _ (by decide +kernel)) ggX8_land_X7_get
set_option maxRecDepth 20000 in
theorem ggX8_land_X2_setting : GoodIn wsX8_land wsX2_setting := goodIn_r _ [14, 15, 16, 3, 4, 5, 6, 7, 8, 9, 49, 50, 51, 52, 53, 54, 55, 56, 57, 58, 59, 60, 61] (by decide +kernel) (by decide +kernel)
set_option maxRecDepth 20000 in
theorem gX8_land_X2_setting : GoodIn wsX8_land (wsV RX8 25 RX2 yX2_setting wsX2_setting) := goodIn_app (goodIn_of _ (by decide +kernel)) ggX8_land_X2_setting
set_option maxRecDepth 20000 in
theorem ggX8_land_X2_wrongOf : GoodIn wsX8_land wsX2_wrongOf := goodIn_r _ [20, 21, 22, 23, 24, 25, 26, 27, 28, 16, 3, 4, 5, 6, 7, 8, 9, 49, 50, 51, 52, 53, 54, 55, 56, 57, 58, 59, 60, 61] (by decide +kernel) (by decide +kernel)
set_option maxRecDepth 20000 in
theorem gX8_land_X2_wrongOf : GoodIn wsX8_land (wsV RX8 55 RX2 yX2_wrongOf wsX2_wrongOf) := goodIn_app (goodIn_of _ (by decide +kernel)) ggX8_land_X2_wrongOf
set_option maxRecDepth 20000 in
theorem ggX8_land_X8_raised : GoodIn wsX8_land wsX8_raised := goodIn_r _ [32, 33, 34, 35] (by decide +kernel) (by decide +kernel)
set_option maxRecDepth 20000 in
theorem gX8_land_X8_raised : GoodIn wsX8_land (va_wsS RX8 59 yX8_raised wsX8_raised) := goodIn_app (goodIn_of _ (by decide +kernel)) ggX8_land_X8_raised
set_option maxRecDepth 20000 in
theorem ggX8_land_X7_put : GoodIn wsX8_land wsX7_put := goodIn_r _ [39, 7, 8, 9, 59, 60, 61] (by decide +kernel) (by decide +kernel)
set_option maxRecDepth 20000 in
theorem gX8_land_X7_put : GoodIn wsX8_land (wsV RX8 62 RX7 yX7_put wsX7_put) := goodIn_app (goodIn_of _ (by decide +kernel)) ggX8_land_X7_put
set_option maxRecDepth 20000 in
theorem ggX8_land_X2_enter : GoodIn wsX8_land wsX2_enter := goodIn_r _ [43, 44, 45, 46, 47, 5, 48, 7, 8, 9, 49, 50, 51, 52, 53, 54, 55, 56, 57, 58, 59, 60, 61] (by decide +kernel) (by decide +kernel)
set_option maxRecDepth 20000 in
theorem gX8_land_X2_enter : GoodIn wsX8_land (wsV RX8 15 RX2 yX2_enter wsX2_enter) := goodIn_app (goodIn_of _ (by decide +kernel)) ggX8_land_X2_enter
set_option maxRecDepth 20000 in
theorem ggX8_raised_X10_noteOf : GoodIn wsX8_raised wsX10_noteOf := goodIn_r _ [3] (by decide +kernel) (by decide +kernel)
set_option maxRecDepth 20000 in
theorem gX8_raised_X10_noteOf_n66 : GoodIn wsX8_raised (wsX10_noteOf) := ggX8_raised_X10_noteOf
set_option maxRecDepth 20000 in
theorem ggX8_reachGoal_X7_get : GoodIn wsX8_reachGoal wsX7_get := goodIn_r _ [7, 8, 9, 10, 57, 58, 59] (by decide +kernel) (by decide +kernel)
set_option maxRecDepth 20000 in
theorem gX8_reachGoal_X7_get : GoodIn wsX8_reachGoal (wsV RX8 42 RX7 yX7_get wsX7_get) := goodIn_app (goodIn_of _ (by decide +kernel)) ggX8_reachGoal_X7_get
