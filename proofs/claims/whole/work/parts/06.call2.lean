set_option maxRecDepth 20000 in
theorem ggX8_reachGoal_X2_setting : GoodIn wsX8_reachGoal wsX2_setting := goodIn_r _ [15, 16, 17, 4, 5, 6, 7, 8, 9, 10, 47, 48, 49, 50, 51, 52, 53, 54, 55, 56, 57, 58, 59] (by decide +kernel) (by decide +kernel)
set_option maxRecDepth 20000 in
theorem gX8_reachGoal_X2_setting : GoodIn wsX8_reachGoal (wsV RX8 25 RX2 yX2_setting wsX2_setting) := goodIn_app (goodIn_of _ (by decide +kernel)) ggX8_reachGoal_X2_setting
set_option maxRecDepth 20000 in
theorem ggX8_reachGoal_X7_grow : GoodIn wsX8_reachGoal wsX7_grow := goodIn_r _ [21, 8, 9, 10, 57, 58, 59] (by decide +kernel) (by decide +kernel)
set_option maxRecDepth 20000 in
theorem gX8_reachGoal_X7_grow : GoodIn wsX8_reachGoal (wsV RX8 69 RX7 yX7_grow wsX7_grow) := goodIn_app (goodIn_of _ (by decide +kernel)) ggX8_reachGoal_X7_grow
set_option maxRecDepth 20000 in
theorem ggX8_reachGoal_X7_put : GoodIn wsX8_reachGoal wsX7_put := goodIn_r _ [25, 8, 9, 10, 57, 58, 59] (by decide +kernel) (by decide +kernel)
set_option maxRecDepth 20000 in
theorem gX8_reachGoal_X7_put : GoodIn wsX8_reachGoal (wsV RX8 62 RX7 yX7_put wsX7_put) := goodIn_app (goodIn_of _ (by decide +kernel)) ggX8_reachGoal_X7_put
set_option maxRecDepth 20000 in
theorem ggX8_reachGoal_X2_enter : GoodIn wsX8_reachGoal wsX2_enter := goodIn_r _ [29, 30, 31, 19, 20, 6, 21, 8, 9, 10, 47, 48, 49, 50, 51, 52, 53, 54, 55, 56, 57, 58, 59] (by decide +kernel) (by decide +kernel)
set_option maxRecDepth 20000 in
theorem gX8_reachGoal_X2_enter : GoodIn wsX8_reachGoal (wsV RX8 15 RX2 yX2_enter wsX2_enter) := goodIn_app (goodIn_of _ (by decide +kernel)) ggX8_reachGoal_X2_enter
set_option maxRecDepth 20000 in
theorem ggX8_reachGoal_X8_turned : GoodIn wsX8_reachGoal wsX8_turned := goodIn_r _ [35, 36, 37, 38] (by decide +kernel) (by decide +kernel)
set_option maxRecDepth 20000 in
theorem gX8_reachGoal_X8_turned : GoodIn wsX8_reachGoal (va_wsS RX8 72 yX8_turned wsX8_turned) := goodIn_app (goodIn_of _ (by decide +kernel)) ggX8_reachGoal_X8_turned
set_option maxRecDepth 20000 in
theorem ggX8_reachGoal_X2_addTune : GoodIn wsX8_reachGoal wsX2_addTune := goodIn_r _ [42, 43, 44, 45, 23, 24, 6, 25, 8, 9, 10, 46, 27, 28, 14, 29, 30, 31, 19, 20, 21, 47, 48, 49, 50, 51, 52, 53, 54, 55, 56, 57, 58, 59] (by decide +kernel) (by decide +kernel)
set_option maxRecDepth 20000 in
theorem gX8_reachGoal_X2_addTune : GoodIn wsX8_reachGoal (wsV RX8 75 RX2 yX2_addTune wsX2_addTune) := goodIn_app (goodIn_of _ (by decide +kernel)) ggX8_reachGoal_X2_addTune
set_option maxRecDepth 20000 in
theorem ggX8_turned_X10_noteOf : GoodIn wsX8_turned wsX10_noteOf := goodIn_r _ [3] (by decide +kernel) (by decide +kernel)
set_option maxRecDepth 20000 in
theorem gX8_turned_X10_noteOf_n66 : GoodIn wsX8_turned (wsX10_noteOf) := ggX8_turned_X10_noteOf
set_option maxRecDepth 20000 in
theorem ggX8_whistleAll_X8_roofsWithTunes : GoodIn wsX8_whistleAll wsX8_roofsWithTunes := goodIn_r _ [6, 7, 8, 9, 10, 11, 12, 13, 14, 15, 16, 80, 81, 82, 83, 84, 85, 86, 87, 88, 89, 90, 91, 92] (by decide +kernel) (by decide +kernel)
set_option maxRecDepth 20000 in
theorem gX8_whistleAll_X8_roofsWithTunes : GoodIn wsX8_whistleAll (va_wsS RX8 79 yX8_roofsWithTunes wsX8_roofsWithTunes) := goodIn_app (goodIn_of _ (by decide +kernel)) ggX8_whistleAll_X8_roofsWithTunes
set_option maxRecDepth 20000 in
theorem ggX8_whistleAll_X2_isBusy : GoodIn wsX8_whistleAll wsX2_isBusy := goodIn_r _ [21, 22, 23, 10, 11, 12, 13, 14, 15, 16, 80, 81, 82, 83, 84, 85, 86, 87, 88, 89, 90, 91, 92] (by decide +kernel) (by decide +kernel)
set_option maxRecDepth 20000 in
theorem gX8_whistleAll_X2_isBusy : GoodIn wsX8_whistleAll (wsV RX8 86 RX2 yX2_isBusy wsX2_isBusy) := goodIn_app (goodIn_of _ (by decide +kernel)) ggX8_whistleAll_X2_isBusy
set_option maxRecDepth 20000 in
theorem ggX8_whistleAll_X2_firstToGoFrom : GoodIn wsX8_whistleAll wsX2_firstToGoFrom := goodIn_r _ [27, 28, 29, 30, 31, 20, 32, 33, 23, 10, 11, 12, 13, 14, 15, 16, 34, 35, 36, 37, 38, 39, 40, 41, 42, 43, 22, 44, 45, 46, 47, 48, 49, 50, 80, 81, 82, 83, 84, 85, 86, 87, 88, 89, 90, 91, 92, 93, 94, 95] (by decide +kernel) (by decide +kernel)
set_option maxRecDepth 20000 in
theorem gX8_whistleAll_X2_firstToGoFrom : GoodIn wsX8_whistleAll (wsV RX8 90 RX2 yX2_firstToGoFrom wsX2_firstToGoFrom) := goodIn_app (goodIn_of _ (by decide +kernel)) ggX8_whistleAll_X2_firstToGoFrom
set_option maxRecDepth 20000 in
theorem ggX8_whistleAll_X8_whistle : GoodIn wsX8_whistleAll wsX8_whistle := goodIn_r _ [53, 54, 8, 55, 56, 2, 9, 10, 11, 12, 13, 14, 15, 16, 57, 48, 49, 20, 50, 33, 23, 44, 45, 46, 58, 59, 60, 61, 62, 63, 64, 65, 66, 67, 68, 35, 36, 37, 38, 39, 69, 70, 5, 71, 72, 73, 74, 75, 76, 77, 78, 79, 80, 81, 82, 83, 84, 85, 86, 87, 88, 89, 93, 94, 95, 90, 91, 92] (by decide +kernel) (by decide +kernel)
set_option maxRecDepth 20000 in
theorem gX8_whistleAll_X8_whistle : GoodIn wsX8_whistleAll (va_wsS RX8 93 yX8_whistle wsX8_whistle) := goodIn_app (goodIn_of _ (by decide +kernel)) ggX8_whistleAll_X8_whistle
set_option maxRecDepth 20000 in
theorem ggX8_roofsWithTunes_X7_get : GoodIn wsX8_roofsWithTunes wsX7_get := goodIn_r _ [7, 8, 9, 10, 21, 22, 23] (by decide +kernel) (by decide +kernel)
set_option maxRecDepth 20000 in
theorem gX8_roofsWithTunes_X7_get : GoodIn wsX8_roofsWithTunes (wsV RX8 42 RX7 yX7_get wsX7_get) := goodIn_app (goodIn_of _ (by decide +kernel)) ggX8_roofsWithTunes_X7_get
set_option maxRecDepth 20000 in
theorem ggX8_whistle_X7_get : GoodIn wsX8_whistle wsX7_get := goodIn_r _ [10, 11, 12, 13, 65, 66, 67] (by decide +kernel) (by decide +kernel)
set_option maxRecDepth 20000 in
theorem gX8_whistle_X7_get : GoodIn wsX8_whistle (wsV RX8 42 RX7 yX7_get wsX7_get) := goodIn_app (goodIn_of _ (by decide +kernel)) ggX8_whistle_X7_get
set_option maxRecDepth 20000 in
theorem ggX8_whistle_X2_barsOfTune : GoodIn wsX8_whistle wsX2_barsOfTune := goodIn_r _ [18, 19, 20, 7, 8, 9, 10, 11, 12, 13, 21, 22, 17, 23, 52, 53, 54, 55, 56, 57, 58, 59, 60, 61, 65, 66, 67] (by decide +kernel) (by decide +kernel)
set_option maxRecDepth 20000 in
theorem gX8_whistle_X2_barsOfTune : GoodIn wsX8_whistle (wsV RX8 100 RX2 yX2_barsOfTune wsX2_barsOfTune) := goodIn_app (goodIn_of _ (by decide +kernel)) ggX8_whistle_X2_barsOfTune
set_option maxRecDepth 20000 in
theorem ggX8_whistle_X7_grow : GoodIn wsX8_whistle wsX7_grow := goodIn_r _ [27, 11, 12, 13, 65, 66, 67] (by decide +kernel) (by decide +kernel)
set_option maxRecDepth 20000 in
theorem gX8_whistle_X7_grow : GoodIn wsX8_whistle (wsV RX8 69 RX7 yX7_grow wsX7_grow) := goodIn_app (goodIn_of _ (by decide +kernel)) ggX8_whistle_X7_grow
set_option maxRecDepth 20000 in
theorem ggX8_whistle_X2_enter : GoodIn wsX8_whistle wsX2_enter := goodIn_r _ [31, 32, 33, 25, 26, 9, 27, 11, 12, 13, 52, 53, 54, 55, 56, 57, 58, 59, 60, 61, 65, 66, 67] (by decide +kernel) (by decide +kernel)
set_option maxRecDepth 20000 in
theorem gX8_whistle_X2_enter : GoodIn wsX8_whistle (wsV RX8 15 RX2 yX2_enter wsX2_enter) := goodIn_app (goodIn_of _ (by decide +kernel)) ggX8_whistle_X2_enter
set_option maxRecDepth 20000 in
theorem ggX8_whistle_X2_nextOf : GoodIn wsX8_whistle wsX2_nextOf := goodIn_r _ [37, 38, 39, 19, 20, 7, 8, 9, 10, 11, 12, 13, 52, 53, 54, 55, 56, 57, 58, 59, 60, 61, 62, 63, 64, 65, 66, 67] (by decide +kernel) (by decide +kernel)
set_option maxRecDepth 20000 in
theorem gX8_whistle_X2_nextOf : GoodIn wsX8_whistle (wsV RX8 103 RX2 yX2_nextOf wsX2_nextOf) := goodIn_app (goodIn_of _ (by decide +kernel)) ggX8_whistle_X2_nextOf
set_option maxRecDepth 20000 in
theorem ggX8_whistle_X8_breathsFor : GoodIn wsX8_whistle wsX8_breathsFor := goodIn_r _ [43, 1, 44, 45, 46, 47, 2, 6, 7, 8, 9, 10, 11, 12, 13, 52, 53, 54, 55, 56, 57, 58, 59, 60, 61, 65, 66, 67] (by decide +kernel) (by decide +kernel)
set_option maxRecDepth 20000 in
theorem gX8_whistle_X8_breathsFor : GoodIn wsX8_whistle (va_wsS RX8 115 yX8_breathsFor wsX8_breathsFor) := goodIn_app (goodIn_of _ (by decide +kernel)) ggX8_whistle_X8_breathsFor
set_option maxRecDepth 20000 in
theorem ggX8_whistle_X7_put : GoodIn wsX8_whistle wsX7_put := goodIn_r _ [51, 11, 12, 13, 65, 66, 67] (by decide +kernel) (by decide +kernel)
set_option maxRecDepth 20000 in
theorem gX8_whistle_X7_put : GoodIn wsX8_whistle (wsV RX8 62 RX7 yX7_put wsX7_put) := goodIn_app (goodIn_of _ (by decide +kernel)) ggX8_whistle_X7_put
set_option maxRecDepth 20000 in
theorem ggX8_breathsFor_X7_get : GoodIn wsX8_breathsFor wsX7_get := goodIn_r _ [11, 12, 13, 14, 25, 26, 27] (by decide +kernel) (by decide +kernel)
set_option maxRecDepth 20000 in
theorem gX8_breathsFor_X7_get : GoodIn wsX8_breathsFor (wsV RX8 42 RX7 yX7_get wsX7_get) := goodIn_app (goodIn_of _ (by decide +kernel)) ggX8_breathsFor_X7_get
set_option maxRecDepth 20000 in
theorem ggX8_loseAll_X7_get : GoodIn wsX8_loseAll wsX7_get := goodIn_r _ [7, 8, 9, 10, 43, 44, 45] (by decide +kernel) (by decide +kernel)
set_option maxRecDepth 20000 in
theorem gX8_loseAll_X7_get : GoodIn wsX8_loseAll (wsV RX8 42 RX7 yX7_get wsX7_get) := goodIn_app (goodIn_of _ (by decide +kernel)) ggX8_loseAll_X7_get
set_option maxRecDepth 20000 in
theorem ggX8_loseAll_X2_nextOf : GoodIn wsX8_loseAll wsX2_nextOf := goodIn_r _ [15, 16, 17, 18, 19, 4, 5, 6, 7, 8, 9, 10, 33, 34, 35, 36, 37, 38, 39, 40, 41, 42, 46, 47, 48, 43, 44, 45] (by decide +kernel) (by decide +kernel)
set_option maxRecDepth 20000 in
theorem gX8_loseAll_X2_nextOf : GoodIn wsX8_loseAll (wsV RX8 103 RX2 yX2_nextOf wsX2_nextOf) := goodIn_app (goodIn_of _ (by decide +kernel)) ggX8_loseAll_X2_nextOf
set_option maxRecDepth 20000 in
theorem ggX8_loseAll_X7_put : GoodIn wsX8_loseAll wsX7_put := goodIn_r _ [23, 8, 9, 10, 43, 44, 45] (by decide +kernel) (by decide +kernel)
set_option maxRecDepth 20000 in
theorem gX8_loseAll_X7_put : GoodIn wsX8_loseAll (wsV RX8 62 RX7 yX7_put wsX7_put) := goodIn_app (goodIn_of _ (by decide +kernel)) ggX8_loseAll_X7_put
set_option maxRecDepth 20000 in
theorem ggX8_loseAll_X2_enter : GoodIn wsX8_loseAll wsX2_enter := goodIn_r _ [27, 28, 29, 30, 31, 6, 32, 8, 9, 10, 33, 34, 35, 36, 37, 38, 39, 40, 41, 42, 43, 44, 45] (by decide +kernel) (by decide +kernel)
set_option maxRecDepth 20000 in
theorem gX8_loseAll_X2_enter : GoodIn wsX8_loseAll (wsV RX8 15 RX2 yX2_enter wsX2_enter) := goodIn_app (goodIn_of _ (by decide +kernel)) ggX8_loseAll_X2_enter
set_option maxRecDepth 20000 in
theorem ggX9_open_X9_step : GoodIn wsX9_open wsX9_step := goodIn_r _ [8, 3, 9, 10, 11, 12, 13, 14, 15, 16, 17, 18, 19, 20, 21, 22, 23, 24, 25, 7, 26, 27, 28, 29, 30, 31, 32, 33, 34, 35] (by decide +kernel) (by decide +kernel)
set_option maxRecDepth 20000 in
theorem gX9_open_X9_step : GoodIn wsX9_open (wsV RX9 25 RX9 yX9_step wsX9_step) := goodIn_app (goodIn_of _ (by decide +kernel)) ggX9_open_X9_step
set_option maxRecDepth 20000 in
theorem ggX9_step_X0_size : GoodIn wsX9_step wsX0_size := goodIn_r _ [10, 11, 28, 29] (by decide +kernel) (by decide +kernel)
set_option maxRecDepth 20000 in
theorem gX9_step_X0_size : GoodIn wsX9_step (wsV RX9 31 RX0 yX0_size wsX0_size) := goodIn_app (goodIn_of _ (by decide +kernel)) ggX9_step_X0_size
set_option maxRecDepth 20000 in
theorem ggX9_step_X0_get : GoodIn wsX9_step wsX0_get := goodIn_r _ [15, 11, 16, 28, 29] (by decide +kernel) (by decide +kernel)
set_option maxRecDepth 20000 in
theorem gX9_step_X0_get : GoodIn wsX9_step (wsV RX9 37 RX0 yX0_get wsX0_get) := goodIn_app (goodIn_of _ (by decide +kernel)) ggX9_step_X0_get
set_option maxRecDepth 20000 in
theorem ggX9_step_X9_kindOf : GoodIn wsX9_step wsX9_kindOf := goodIn_r _ [20] (by decide +kernel) (by decide +kernel)
set_option maxRecDepth 20000 in
theorem gX9_step_X9_kindOf : GoodIn wsX9_step (va_wsS RX9 41 yX9_kindOf wsX9_kindOf) := goodIn_app (goodIn_of _ (by decide +kernel)) ggX9_step_X9_kindOf
set_option maxRecDepth 20000 in
theorem ggX9_isWord_J0_length_8abf5 : GoodIn wsX9_isWord wsJ0_length_8abf5 := goodIn_r _ [9, 10, 11, 12, 13, 8, 14, 15, 16] (by decide +kernel) (by decide +kernel)
set_option maxRecDepth 20000 in
theorem gX9_isWord_J0_length_8abf5 : GoodIn wsX9_isWord (wsV RX9 50 RJ0 yJ0_length_8abf5 wsJ0_length_8abf5) := goodIn_app (goodIn_of _ (by decide +kernel)) ggX9_isWord_J0_length_8abf5
set_option maxRecDepth 20000 in
theorem ggX9_isWord_X0_get : GoodIn wsX9_isWord wsX0_get := goodIn_r _ [21, 22, 23, 68, 69] (by decide +kernel) (by decide +kernel)
set_option maxRecDepth 20000 in
theorem gX9_isWord_X0_get : GoodIn wsX9_isWord (wsV RX9 37 RX0 yX0_get wsX0_get) := goodIn_app (goodIn_of _ (by decide +kernel)) ggX9_isWord_X0_get
set_option maxRecDepth 20000 in
theorem ggX9_isWord_J0_charAt_5068e : GoodIn wsX9_isWord wsJ0_charAt_5068e := goodIn_r _ [27, 10, 28, 29, 30, 8, 31, 15, 16, 32, 33, 34, 35, 36, 37, 38, 39, 40, 41, 42, 43, 44, 45, 46, 47, 48, 49, 50, 51, 52, 53, 54, 55, 56, 57, 58, 59, 60] (by decide +kernel) (by decide +kernel)
set_option maxRecDepth 20000 in
theorem gX9_isWord_J0_charAt_5068e : GoodIn wsX9_isWord (wsV RX9 55 RJ0 yJ0_charAt_5068e wsJ0_charAt_5068e) := goodIn_app (goodIn_of _ (by decide +kernel)) ggX9_isWord_J0_charAt_5068e
set_option maxRecDepth 20000 in
theorem ggX9_settingWord_X9_isWord : GoodIn wsX9_settingWord wsX9_isWord := goodIn_r _ [5, 6, 7, 8, 9, 10, 11, 12, 13, 14, 15, 16, 17, 18, 19, 20, 21, 22, 23, 24, 25, 26, 27, 28, 29, 30, 31, 32, 33, 34, 35, 36, 37, 38, 39, 40, 41, 42, 43, 44, 45, 46, 47, 48, 49, 50, 51, 52, 53, 54, 55, 56, 57, 58, 59, 60, 61, 62, 63, 64, 65, 66, 67, 68, 69, 70, 71, 72, 73, 74] (by decide +kernel) (by decide +kernel)
set_option maxRecDepth 20000 in
theorem gX9_settingWord_X9_isWord : GoodIn wsX9_settingWord (wsV RX9 61 RX9 yX9_isWord wsX9_isWord) := goodIn_app (goodIn_of _ (by decide +kernel)) ggX9_settingWord_X9_isWord
set_option maxRecDepth 20000 in
theorem ggX9_nameHere_X9_fail : GoodIn wsX9_nameHere wsX9_fail := goodIn_r _ [9, 10, 3, 11, 19, 20, 21, 22, 23, 24, 25] (by decide +kernel) (by decide +kernel)
set_option maxRecDepth 20000 in
theorem gX9_nameHere_X9_fail : GoodIn wsX9_nameHere (wsV RX9 69 RX9 yX9_fail wsX9_fail) := goodIn_app (goodIn_of _ (by decide +kernel)) ggX9_nameHere_X9_fail
set_option maxRecDepth 20000 in
theorem ggX9_nameHere_X0_get : GoodIn wsX9_nameHere wsX0_get := goodIn_r _ [16, 17, 18, 26, 27] (by decide +kernel) (by decide +kernel)
set_option maxRecDepth 20000 in
theorem gX9_nameHere_X0_get : GoodIn wsX9_nameHere (wsV RX9 37 RX0 yX0_get wsX0_get) := goodIn_app (goodIn_of _ (by decide +kernel)) ggX9_nameHere_X0_get
set_option maxRecDepth 20000 in
theorem ggX9_roofHere_X9_nameHere : GoodIn wsX9_roofHere wsX9_nameHere := goodIn_r _ [5, 6, 7, 8, 9, 10, 11, 12, 4, 13, 14, 15, 16, 17, 18, 19, 20, 21, 22, 38, 39, 40, 41, 42, 43, 44, 45, 46] (by decide +kernel) (by decide +kernel)
set_option maxRecDepth 20000 in
theorem gX9_roofHere_X9_nameHere : GoodIn wsX9_roofHere (wsV RX9 73 RX9 yX9_nameHere wsX9_nameHere) := goodIn_app (goodIn_of _ (by decide +kernel)) ggX9_roofHere_X9_nameHere
set_option maxRecDepth 20000 in
theorem ggX9_roofHere_X2_roofNamed : GoodIn wsX9_roofHere wsX2_roofNamed := goodIn_r _ [27, 28, 29, 30, 31, 32, 33, 34, 35, 36, 37, 47, 48, 49, 50, 51, 52, 53, 54, 55, 56, 57, 58, 59] (by decide +kernel) (by decide +kernel)
set_option maxRecDepth 20000 in
theorem gX9_roofHere_X2_roofNamed : GoodIn wsX9_roofHere (wsV RX9 76 RX2 yX2_roofNamed wsX2_roofNamed) := goodIn_app (goodIn_of _ (by decide +kernel)) ggX9_roofHere_X2_roofNamed
set_option maxRecDepth 20000 in
theorem ggX9_roofHere_X9_fail : GoodIn wsX9_roofHere wsX9_fail := goodIn_r _ [13, 14, 8, 15, 38, 39, 40, 41, 42, 43, 44] (by decide +kernel) (by decide +kernel)
set_option maxRecDepth 20000 in
theorem gX9_roofHere_X9_fail : GoodIn wsX9_roofHere (wsV RX9 69 RX9 yX9_fail wsX9_fail) := goodIn_app (goodIn_of _ (by decide +kernel)) ggX9_roofHere_X9_fail
set_option maxRecDepth 20000 in
theorem ggX9_isNumberHere_X9_fail : GoodIn wsX9_isNumberHere wsX9_fail := goodIn_r _ [7, 8, 9, 10, 11, 12, 13, 14, 15, 16, 17] (by decide +kernel) (by decide +kernel)
set_option maxRecDepth 20000 in
theorem gX9_isNumberHere_X9_fail : GoodIn wsX9_isNumberHere (wsV RX9 69 RX9 yX9_fail wsX9_fail) := goodIn_app (goodIn_of _ (by decide +kernel)) ggX9_isNumberHere_X9_fail
set_option maxRecDepth 20000 in
theorem ggX9_takeNumber_X9_isNumberHere : GoodIn wsX9_takeNumber wsX9_isNumberHere := goodIn_r _ [6, 7, 1, 8, 9, 10, 5, 11, 12, 13, 14, 35, 36, 37, 38, 39, 40, 41] (by decide +kernel) (by decide +kernel)
set_option maxRecDepth 20000 in
theorem gX9_takeNumber_X9_isNumberHere : GoodIn wsX9_takeNumber (wsV RX9 81 RX9 yX9_isNumberHere wsX9_isNumberHere) := goodIn_app (goodIn_of _ (by decide +kernel)) ggX9_takeNumber_X9_isNumberHere
set_option maxRecDepth 20000 in
theorem ggX9_takeNumber_X9_step : GoodIn wsX9_takeNumber wsX9_step := goodIn_r _ [18, 19, 13, 20, 7, 1, 21, 22, 23, 24, 25, 26, 27, 28, 29, 30, 31, 32, 33, 5, 34, 35, 36, 37, 38, 39, 40, 41, 42, 43] (by decide +kernel) (by decide +kernel)
set_option maxRecDepth 20000 in
theorem gX9_takeNumber_X9_step : GoodIn wsX9_takeNumber (wsV RX9 25 RX9 yX9_step wsX9_step) := goodIn_app (goodIn_of _ (by decide +kernel)) ggX9_takeNumber_X9_step
set_option maxRecDepth 20000 in
theorem ggX9_isSemicolonTaken_X9_fail : GoodIn wsX9_isSemicolonTaken wsX9_fail := goodIn_r _ [6, 7, 8, 9, 31, 32, 33, 34, 35, 36, 37] (by decide +kernel) (by decide +kernel)
set_option maxRecDepth 20000 in
theorem gX9_isSemicolonTaken_X9_fail : GoodIn wsX9_isSemicolonTaken (wsV RX9 69 RX9 yX9_fail wsX9_fail) := goodIn_app (goodIn_of _ (by decide +kernel)) ggX9_isSemicolonTaken_X9_fail
set_option maxRecDepth 20000 in
theorem ggX9_isSemicolonTaken_X9_step : GoodIn wsX9_isSemicolonTaken wsX9_step := goodIn_r _ [13, 14, 8, 15, 1, 16, 17, 18, 19, 20, 21, 22, 23, 24, 25, 26, 27, 28, 29, 5, 30, 31, 32, 33, 34, 35, 36, 37, 38, 39] (by decide +kernel) (by decide +kernel)
set_option maxRecDepth 20000 in
theorem gX9_isSemicolonTaken_X9_step : GoodIn wsX9_isSemicolonTaken (wsV RX9 25 RX9 yX9_step wsX9_step) := goodIn_app (goodIn_of _ (by decide +kernel)) ggX9_isSemicolonTaken_X9_step
set_option maxRecDepth 20000 in
theorem ggX10_init_X0_init : GoodIn wsX10_init wsX0_init := goodIn_r _ [34, 35, 2, 3, 36, 37, 38, 352, 353] (by decide +kernel) (by decide +kernel)
set_option maxRecDepth 20000 in
theorem gX10_init_X0_init : GoodIn wsX10_init (wsX0_init) := ggX10_init_X0_init
set_option maxRecDepth 20000 in
theorem ggX10_init_X2_init : GoodIn wsX10_init wsX2_init := goodIn_r _ [41, 42, 2, 3, 43, 44, 45, 46, 47, 48, 49, 50, 51, 52, 53, 54, 55, 56, 57, 58, 59, 60, 36, 61, 62, 63, 64, 65, 66, 67, 68, 69, 70, 390, 391, 392, 364, 365, 366, 367, 368, 369, 370, 371, 372, 373, 393, 394, 395] (by decide +kernel) (by decide +kernel)
set_option maxRecDepth 20000 in
theorem gX10_init_X2_init : GoodIn wsX10_init (wsX2_init) := ggX10_init_X2_init
set_option maxRecDepth 20000 in
theorem ggX10_init_X1_init : GoodIn wsX10_init wsX1_init := goodIn_r _ [73, 74, 2, 3, 75, 76, 10, 11, 77, 78, 79, 40, 41, 42, 43, 44, 45, 46, 47, 48, 49, 50, 51, 52, 53, 54, 55, 56, 57, 58, 59, 60, 36, 61, 62, 63, 64, 65, 66, 67, 68, 69, 70, 374, 375, 376, 364, 365, 366, 367, 368, 369, 370, 371, 372, 373, 390, 391, 392, 393, 394, 395] (by decide +kernel) (by decide +kernel)
set_option maxRecDepth 20000 in
theorem gX10_init_X1_init : GoodIn wsX10_init (wsX1_init) := ggX10_init_X1_init
set_option maxRecDepth 20000 in
theorem ggX10_init_X9_init : GoodIn wsX10_init wsX9_init := goodIn_r _ [82, 83, 2, 3, 84, 85, 86, 377, 378, 379, 380, 381, 382, 383] (by decide +kernel) (by decide +kernel)
set_option maxRecDepth 20000 in
theorem gX10_init_X9_init : GoodIn wsX10_init (wsX9_init) := ggX10_init_X9_init
set_option maxRecDepth 20000 in
theorem ggX10_init_X5_init : GoodIn wsX10_init wsX5_init := goodIn_r _ [89, 90, 2, 3, 91, 92, 384, 385] (by decide +kernel) (by decide +kernel)
set_option maxRecDepth 20000 in
theorem gX10_init_X5_init : GoodIn wsX10_init (wsX5_init) := ggX10_init_X5_init
set_option maxRecDepth 20000 in
theorem ggX10_init_X4_init : GoodIn wsX10_init wsX4_init := goodIn_r _ [95, 96, 2, 3, 97, 98, 99, 44, 45, 100, 101, 102, 56, 57, 58, 59, 60, 36, 61, 386, 387, 388, 389, 390, 391, 392] (by decide +kernel) (by decide +kernel)
set_option maxRecDepth 20000 in
theorem gX10_init_X4_init : GoodIn wsX10_init (wsX4_init) := ggX10_init_X4_init
set_option maxRecDepth 20000 in
theorem ggX10_init_X0_addText : GoodIn wsX10_init wsX0_addText := goodIn_r _ [106, 107, 108, 109, 110, 111, 112, 113, 114, 115, 116, 117, 118, 119, 120, 121, 122, 123, 124, 125, 126, 127, 128, 129, 130, 131, 132, 133, 134, 135, 136, 137, 138, 139, 140, 141, 142, 143, 144, 145, 146, 147, 148, 149, 150, 151, 152, 153, 154, 155, 156, 157, 158, 6, 159, 38, 37, 352, 353] (by decide +kernel) (by decide +kernel)
set_option maxRecDepth 20000 in
theorem gX10_init_X0_addText : GoodIn wsX10_init (wsV RX10 72 RX0 yX0_addText wsX0_addText) := goodIn_app (goodIn_of _ (by decide +kernel)) ggX10_init_X0_addText
set_option maxRecDepth 20000 in
theorem ggX10_init_X5_isRead : GoodIn wsX10_init wsX5_isRead := goodIn_r _ [163, 92, 91, 164, 165, 166, 167, 168, 169, 11, 170, 171, 172, 173, 174, 50, 175, 176, 177, 178, 49, 179, 180, 181, 45, 182, 59, 60, 61, 183, 184, 185, 186, 187, 188, 189, 21, 190, 85, 86, 191, 192, 193, 194, 195, 196, 84, 197, 198, 199, 200, 201, 6, 202, 38, 203, 204, 205, 206, 37, 207, 208, 209, 210, 211, 212, 25, 213, 214, 215, 216, 217, 218, 108, 109, 110, 111, 112, 113, 114, 115, 116, 117, 118, 219, 120, 121, 122, 123, 124, 125, 126, 127, 128, 129, 130, 131, 132, 133, 134, 135, 136, 137, 138, 139, 140, 141, 142, 143, 144, 145, 146, 147, 148, 149, 150, 151, 152, 153, 154, 155, 220, 221, 222, 223, 224, 225, 226, 227, 228, 229, 230, 231, 232, 233, 234, 235, 236, 237, 46, 238, 239, 240, 241, 242, 243, 244, 245, 246, 247, 248, 249, 250, 251, 252, 253, 254, 255, 256, 257, 258, 259, 260, 261, 262, 263, 264, 265, 266, 267, 268, 269, 270, 271, 272, 273, 274, 275, 276, 47, 277, 278, 279, 280, 281, 282, 283, 284, 285, 286, 287, 288, 289, 290, 291, 292, 293, 294, 295, 296, 297, 298, 299, 53, 300, 301, 302, 303, 68, 304, 305, 306, 307, 67, 69, 308, 309, 310, 311, 312, 313, 314, 315, 316, 317, 318, 319, 320, 321, 322, 323, 324, 325, 326, 384, 385, 377, 378, 379, 380, 381, 382, 383, 364, 365, 366, 367, 368, 369, 370, 371, 372, 373, 390, 391, 392, 352, 353, 393, 394, 395] (by decide +kernel) (by decide +kernel)
set_option maxRecDepth 20000 in
theorem gX10_init_X5_isRead : GoodIn wsX10_init (wsV RX10 76 RX5 yX5_isRead wsX5_isRead) := goodIn_app (goodIn_of _ (by decide +kernel)) ggX10_init_X5_isRead
set_option maxRecDepth 20000 in
theorem ggX10_init_X2_copyFrom : GoodIn wsX10_init wsX2_copyFrom := goodIn_r _ [330, 171, 172, 173, 174, 46, 47, 48, 49, 50, 54, 331, 332, 333, 45, 334, 61, 335, 336, 337, 338, 339, 340, 341, 342, 343, 344, 345, 53, 346, 67, 68, 69, 347, 364, 365, 366, 367, 368, 369, 370, 371, 372, 373, 390, 391, 392, 393, 394, 395] (by decide +kernel) (by decide +kernel)
set_option maxRecDepth 20000 in
theorem gX10_init_X2_copyFrom : GoodIn wsX10_init (wsV RX10 80 RX2 yX2_copyFrom wsX2_copyFrom) := goodIn_app (goodIn_of _ (by decide +kernel)) ggX10_init_X2_copyFrom
set_option maxRecDepth 20000 in
theorem ggX10_init_X0_clear : GoodIn wsX10_init wsX0_clear := goodIn_r _ [351, 38, 352, 353] (by decide +kernel) (by decide +kernel)
set_option maxRecDepth 20000 in
theorem gX10_init_X0_clear : GoodIn wsX10_init (wsV RX10 84 RX0 yX0_clear wsX0_clear) := goodIn_app (goodIn_of _ (by decide +kernel)) ggX10_init_X0_clear
set_option maxRecDepth 20000 in
theorem ggX10_appendInput_X0_size : GoodIn wsX10_appendInput wsX0_size := goodIn_r _ [6, 7, 28, 29] (by decide +kernel) (by decide +kernel)
set_option maxRecDepth 20000 in
theorem gX10_appendInput_X0_size : GoodIn wsX10_appendInput (wsV RX10 87 RX0 yX0_size wsX0_size) := goodIn_app (goodIn_of _ (by decide +kernel)) ggX10_appendInput_X0_size
set_option maxRecDepth 20000 in
theorem ggX10_appendInput_X10_appendFour : GoodIn wsX10_appendInput wsX10_appendFour := goodIn_r _ [12, 1, 13, 14, 15, 5, 16, 7, 17, 18, 19, 20, 21, 22, 23, 24, 25, 26, 27, 28, 29] (by decide +kernel) (by decide +kernel)
set_option maxRecDepth 20000 in
theorem gX10_appendInput_X10_appendFour : GoodIn wsX10_appendInput (wsV RX10 91 RX10 yX10_appendFour wsX10_appendFour) := goodIn_app (goodIn_of _ (by decide +kernel)) ggX10_appendInput_X10_appendFour
set_option maxRecDepth 20000 in
theorem ggX10_appendFour_X0_add : GoodIn wsX10_appendFour wsX0_add := goodIn_r _ [6, 7, 8, 19, 20] (by decide +kernel) (by decide +kernel)
set_option maxRecDepth 20000 in
theorem gX10_appendFour_X0_add : GoodIn wsX10_appendFour (wsV RX10 94 RX0 yX0_add wsX0_add) := goodIn_app (goodIn_of _ (by decide +kernel)) ggX10_appendFour_X0_add
set_option maxRecDepth 20000 in
theorem ggX10_truncateInput_X0_cutTo : GoodIn wsX10_truncateInput wsX0_cutTo := goodIn_r _ [6, 7, 18, 19] (by decide +kernel) (by decide +kernel)
set_option maxRecDepth 20000 in
theorem gX10_truncateInput_X0_cutTo : GoodIn wsX10_truncateInput (wsV RX10 97 RX0 yX0_cutTo wsX0_cutTo) := goodIn_app (goodIn_of _ (by decide +kernel)) ggX10_truncateInput_X0_cutTo
set_option maxRecDepth 20000 in
theorem ggX10_loadPost_X5_isRead : GoodIn wsX10_loadPost wsX5_isRead := goodIn_r _ [12, 13, 14, 15, 16, 17, 18, 19, 20, 21, 22, 23, 24, 25, 26, 27, 28, 29, 30, 31, 32, 33, 34, 35, 36, 37, 38, 39, 40, 41, 42, 43, 44, 45, 46, 47, 48, 49, 50, 51, 52, 53, 54, 55, 56, 57, 58, 59, 60, 61, 62, 63, 64, 65, 66, 67, 68, 69, 70, 71, 72, 73, 74, 75, 76, 77, 11, 78, 79, 80, 81, 82, 83, 84, 85, 86, 87, 88, 89, 90, 91, 92, 93, 94, 95, 96, 97, 98, 99, 100, 101, 102, 103, 104, 105, 106, 107, 108, 109, 110, 111, 112, 113, 114, 115, 116, 117, 118, 119, 120, 121, 122, 123, 124, 125, 126, 127, 128, 129, 130, 131, 132, 133, 134, 135, 136, 137, 138, 139, 140, 141, 142, 143, 144, 145, 146, 147, 148, 149, 150, 151, 152, 153, 154, 155, 156, 157, 158, 159, 160, 161, 162, 163, 164, 165, 166, 167, 168, 169, 170, 171, 172, 173, 174, 175, 176, 177, 178, 179, 180, 181, 182, 183, 184, 185, 186, 187, 188, 189, 190, 191, 192, 193, 194, 195, 196, 197, 198, 199, 200, 201, 202, 203, 204, 205, 206, 207, 208, 209, 210, 211, 212, 213, 214, 215, 216, 217, 218, 219, 220, 221, 222, 223, 224, 225, 226, 227, 228, 229, 230, 231, 232, 233, 234, 235, 236, 237, 238, 239, 240, 241, 242, 243, 244, 298, 299, 300, 301, 302, 303, 304, 305, 306, 288, 289, 290, 291, 292, 293, 294, 295, 296, 297, 307, 308, 309, 310, 311, 312, 313, 314] (by decide +kernel) (by decide +kernel)
set_option maxRecDepth 20000 in
theorem gX10_loadPost_X5_isRead : GoodIn wsX10_loadPost (wsV RX10 76 RX5 yX5_isRead wsX5_isRead) := goodIn_app (goodIn_of _ (by decide +kernel)) ggX10_loadPost_X5_isRead
set_option maxRecDepth 20000 in
theorem ggX10_loadPost_X0_clear : GoodIn wsX10_loadPost wsX0_clear := goodIn_r _ [248, 66, 310, 311] (by decide +kernel) (by decide +kernel)
set_option maxRecDepth 20000 in
theorem gX10_loadPost_X0_clear : GoodIn wsX10_loadPost (wsV RX10 84 RX0 yX0_clear wsX0_clear) := goodIn_app (goodIn_of _ (by decide +kernel)) ggX10_loadPost_X0_clear
set_option maxRecDepth 20000 in
theorem ggX10_loadPost_X2_copyFrom : GoodIn wsX10_loadPost wsX2_copyFrom := goodIn_r _ [252, 23, 24, 25, 26, 150, 190, 253, 32, 27, 254, 255, 256, 257, 36, 258, 40, 259, 260, 261, 262, 263, 264, 265, 266, 267, 268, 269, 214, 270, 224, 219, 225, 271, 288, 289, 290, 291, 292, 293, 294, 295, 296, 297, 307, 308, 309, 312, 313, 314] (by decide +kernel) (by decide +kernel)
set_option maxRecDepth 20000 in
theorem gX10_loadPost_X2_copyFrom : GoodIn wsX10_loadPost (wsV RX10 80 RX2 yX2_copyFrom wsX2_copyFrom) := goodIn_app (goodIn_of _ (by decide +kernel)) ggX10_loadPost_X2_copyFrom
set_option maxRecDepth 20000 in
theorem ggX10_loadPost_X1_forget : GoodIn wsX10_loadPost wsX1_forget := goodIn_r _ [276, 277, 315, 316, 317] (by decide +kernel) (by decide +kernel)
set_option maxRecDepth 20000 in
theorem gX10_loadPost_X1_forget : GoodIn wsX10_loadPost (wsV RX10 101 RX1 yX1_forget wsX1_forget) := goodIn_app (goodIn_of _ (by decide +kernel)) ggX10_loadPost_X1_forget
set_option maxRecDepth 20000 in
theorem ggX10_playScript_X4_isRead : GoodIn wsX10_playScript wsX4_isRead := goodIn_r _ [10, 11, 12, 13, 14, 15, 16, 17, 18, 19, 20, 21, 22, 23, 24, 25, 26, 27, 28, 29, 30, 31, 32, 33, 34, 35, 36, 37, 38, 39, 40, 41, 42, 43, 44, 45, 46, 9, 47, 48, 49, 50, 51, 52, 53, 54, 55, 56, 57, 58, 59, 60, 61, 62, 63, 64, 65, 66, 67, 68, 69, 70, 71, 72, 73, 74, 75, 76, 77, 78, 79, 80, 81, 82, 83, 84, 85, 86, 87, 88, 89, 90, 91, 92, 93, 94, 95, 96, 97, 98, 99, 100, 101, 102, 103, 104, 105, 106, 107, 108, 109, 110, 111, 112, 113, 114, 115, 116, 117, 118, 119, 120, 121, 122, 123, 124, 125, 126, 127, 128, 129, 130, 131, 132, 133, 134, 135, 136, 137, 138, 139, 140, 141, 142, 143, 144, 145, 146, 147, 148, 149, 150, 151, 152, 153, 154, 155, 156, 157, 158, 159, 160, 161, 162, 163, 164, 165, 166, 167, 168, 169, 170, 171, 172, 173, 174, 175, 176, 177, 420, 421, 422, 423, 424, 425, 426, 427, 428, 429, 430, 431, 432, 433, 434, 435, 436, 437, 438, 439, 440, 441, 442, 443, 444, 445] (by decide +kernel) (by decide +kernel)
set_option maxRecDepth 20000 in
theorem gX10_playScript_X4_isRead : GoodIn wsX10_playScript (wsV RX10 108 RX4 yX4_isRead wsX4_isRead) := goodIn_app (goodIn_of _ (by decide +kernel)) ggX10_playScript_X4_isRead
set_option maxRecDepth 20000 in
theorem ggX10_playScript_X0_clear : GoodIn wsX10_playScript wsX0_clear := goodIn_r _ [181, 35, 431, 432] (by decide +kernel) (by decide +kernel)
set_option maxRecDepth 20000 in
theorem gX10_playScript_X0_clear : GoodIn wsX10_playScript (wsV RX10 84 RX0 yX0_clear wsX0_clear) := goodIn_app (goodIn_of _ (by decide +kernel)) ggX10_playScript_X0_clear
set_option maxRecDepth 20000 in
theorem ggX10_playScript_X1_keep : GoodIn wsX10_playScript wsX1_keep := goodIn_r _ [186, 187, 188, 189, 190, 191, 185, 192, 193, 194, 195, 196, 141, 197, 198, 143, 199, 200, 144, 201, 202, 203, 204, 205, 206, 207, 208, 118, 209, 122, 210, 211, 212, 213, 214, 215, 216, 217, 218, 219, 220, 221, 222, 223, 224, 225, 226, 446, 447, 448, 436, 437, 438, 439, 440, 441, 442, 443, 444, 445, 433, 434, 435, 449, 450, 451] (by decide +kernel) (by decide +kernel)
set_option maxRecDepth 20000 in
theorem gX10_playScript_X1_keep : GoodIn wsX10_playScript (wsV RX10 109 RX1 yX1_keep wsX1_keep) := goodIn_app (goodIn_of _ (by decide +kernel)) ggX10_playScript_X1_keep
set_option maxRecDepth 20000 in
theorem ggX10_playScript_X10_isPlayed : GoodIn wsX10_playScript wsX10_isPlayed := goodIn_r _ [231, 1, 232, 4, 233, 146, 147, 118, 148, 120, 121, 122, 234, 235, 236, 230, 237, 238, 239, 240, 241, 141, 242, 200, 202, 243, 116, 117, 119, 244, 245, 246, 247, 204, 248, 249, 250, 251, 252, 253, 254, 255, 198, 256, 257, 258, 259, 260, 261, 262, 263, 264, 265, 266, 267, 268, 269, 270, 271, 272, 273, 274, 203, 145, 275, 276, 277, 278, 144, 279, 280, 212, 281, 282, 211, 213, 283, 284, 285, 286, 287, 288, 289, 290, 291, 292, 293, 294, 295, 296, 297, 298, 299, 300, 301, 302, 303, 304, 305, 306, 307, 308, 309, 310, 311, 312, 313, 314, 315, 316, 317, 318, 319, 205, 320, 321, 322, 323, 324, 325, 326, 327, 328, 329, 330, 331, 332, 333, 334, 335, 336, 337, 338, 339, 340, 341, 342, 343, 344, 345, 346, 347, 348, 349, 350, 351, 352, 353, 354, 355, 356, 357, 358, 201, 199, 359, 360, 361, 362, 363, 364, 365, 366, 367, 368, 369, 370, 371, 372, 373, 374, 375, 221, 376, 377, 378, 379, 224, 380, 381, 382, 383, 223, 225, 384, 385, 386, 387, 388, 389, 390, 391, 392, 393, 394, 395, 396, 397, 398, 399, 400, 401, 402, 403, 404, 405, 406, 407, 408, 409, 410, 411, 412, 413, 414, 415, 416, 417, 418, 419, 420, 421, 422, 423, 433, 434, 435, 436, 437, 438, 439, 440, 441, 442, 443, 444, 445, 449, 450, 451] (by decide +kernel) (by decide +kernel)
set_option maxRecDepth 20000 in
theorem gX10_playScript_X10_isPlayed : GoodIn wsX10_playScript (wsV RX10 115 RX10 yX10_isPlayed wsX10_isPlayed) := goodIn_app (goodIn_of _ (by decide +kernel)) ggX10_playScript_X10_isPlayed
set_option maxRecDepth 20000 in
theorem ggX10_isPlayed_X7_get : GoodIn wsX10_isPlayed wsX7_get := goodIn_r _ [8, 9, 10, 11, 224, 225, 226] (by decide +kernel) (by decide +kernel)
set_option maxRecDepth 20000 in
theorem gX10_isPlayed_X7_get : GoodIn wsX10_isPlayed (wsV RX10 122 RX7 yX7_get wsX7_get) := goodIn_app (goodIn_of _ (by decide +kernel)) ggX10_isPlayed_X7_get
set_option maxRecDepth 20000 in
theorem ggX10_isPlayed_X10_isSent : GoodIn wsX10_isPlayed wsX10_isSent := goodIn_r _ [16, 3, 17, 1, 2, 4, 5, 6, 7, 8, 9, 10, 11, 18, 19, 20, 21, 22, 23, 24, 25, 26, 27, 28, 29, 30, 31, 32, 33, 34, 35, 36, 37, 210, 211, 212, 213, 214, 215, 216, 217, 218, 219, 227, 228, 229, 230, 231, 232, 233, 234, 235, 236, 220, 221, 222, 223, 224, 225, 226] (by decide +kernel) (by decide +kernel)
set_option maxRecDepth 20000 in
theorem gX10_isPlayed_X10_isSent : GoodIn wsX10_isPlayed (wsV RX10 128 RX10 yX10_isSent wsX10_isSent) := goodIn_app (goodIn_of _ (by decide +kernel)) ggX10_isPlayed_X10_isSent
set_option maxRecDepth 20000 in
theorem ggX10_isPlayed_X2_hasTimeFor : GoodIn wsX10_isPlayed wsX2_hasTimeFor := goodIn_r _ [41, 42, 227, 228, 229, 230, 231, 232, 233, 234, 235, 236] (by decide +kernel) (by decide +kernel)
set_option maxRecDepth 20000 in
theorem gX10_isPlayed_X2_hasTimeFor : GoodIn wsX10_isPlayed (wsV RX10 132 RX2 yX2_hasTimeFor wsX2_hasTimeFor) := goodIn_app (goodIn_of _ (by decide +kernel)) ggX10_isPlayed_X2_hasTimeFor
set_option maxRecDepth 20000 in
theorem ggX10_isPlayed_X8_run : GoodIn wsX10_isPlayed wsX8_run := goodIn_r _ [46, 47, 48, 30, 31, 21, 32, 33, 34, 35, 36, 7, 37, 9, 10, 11, 49, 50, 45, 51, 52, 53, 54, 5, 6, 8, 55, 56, 57, 58, 59, 60, 61, 62, 63, 64, 65, 66, 67, 68, 69, 70, 71, 72, 73, 74, 75, 76, 77, 78, 79, 15, 80, 81, 26, 27, 28, 82, 83, 84, 85, 86, 87, 88, 89, 19, 20, 22, 23, 24, 25, 29, 90, 91, 92, 93, 94, 95, 96, 97, 98, 99, 100, 101, 102, 103, 104, 105, 106, 107, 108, 109, 110, 111, 112, 113, 114, 115, 116, 117, 118, 119, 120, 121, 122, 123, 124, 125, 126, 127, 128, 129, 130, 131, 132, 133, 134, 135, 136, 137, 138, 139, 140, 227, 228, 229, 230, 231, 232, 233, 234, 235, 236, 224, 225, 226, 237, 238, 239] (by decide +kernel) (by decide +kernel)
set_option maxRecDepth 20000 in
theorem gX10_isPlayed_X8_run : GoodIn wsX10_isPlayed (va_wsS RX10 135 yX8_run wsX8_run) := goodIn_app (goodIn_of _ (by decide +kernel)) ggX10_isPlayed_X8_run
set_option maxRecDepth 20000 in
theorem ggX10_isPlayed_X2_hasRoomFor : GoodIn wsX10_isPlayed wsX2_hasRoomFor := goodIn_r _ [144, 68, 63, 5, 6, 7, 8, 9, 10, 11, 227, 228, 229, 230, 231, 232, 233, 234, 235, 236, 224, 225, 226] (by decide +kernel) (by decide +kernel)
set_option maxRecDepth 20000 in
theorem gX10_isPlayed_X2_hasRoomFor : GoodIn wsX10_isPlayed (wsV RX10 141 RX2 yX2_hasRoomFor wsX2_hasRoomFor) := goodIn_app (goodIn_of _ (by decide +kernel)) ggX10_isPlayed_X2_hasRoomFor
set_option maxRecDepth 20000 in
theorem ggX10_isPlayed_X2_takeCoins : GoodIn wsX10_isPlayed wsX2_takeCoins := goodIn_r _ [148, 68, 34, 35, 36, 7, 37, 9, 10, 11, 29, 30, 31, 21, 32, 33, 227, 228, 229, 230, 231, 232, 233, 234, 235, 236, 224, 225, 226] (by decide +kernel) (by decide +kernel)
set_option maxRecDepth 20000 in
theorem gX10_isPlayed_X2_takeCoins : GoodIn wsX10_isPlayed (wsV RX10 145 RX2 yX2_takeCoins wsX2_takeCoins) := goodIn_app (goodIn_of _ (by decide +kernel)) ggX10_isPlayed_X2_takeCoins
set_option maxRecDepth 20000 in
theorem ggX10_isPlayed_X2_cutWay : GoodIn wsX10_isPlayed wsX2_cutWay := goodIn_r _ [152, 153, 154, 113, 155, 156, 157, 21, 158, 159, 160, 161, 162, 63, 5, 6, 7, 8, 9, 10, 11, 163, 164, 165, 166, 167, 168, 26, 27, 28, 169, 170, 171, 172, 173, 174, 175, 176, 177, 178, 179, 180, 181, 182, 183, 184, 185, 186, 187, 188, 189, 190, 191, 192, 193, 194, 195, 196, 197, 198, 199, 200, 201, 202, 203, 204, 205, 227, 228, 229, 230, 231, 232, 233, 234, 235, 236, 224, 225, 226, 237, 238, 239] (by decide +kernel) (by decide +kernel)
set_option maxRecDepth 20000 in
theorem gX10_isPlayed_X2_cutWay : GoodIn wsX10_isPlayed (wsV RX10 149 RX2 yX2_cutWay wsX2_cutWay) := goodIn_app (goodIn_of _ (by decide +kernel)) ggX10_isPlayed_X2_cutWay
set_option maxRecDepth 20000 in
theorem ggX10_isPlayed_X2_settle : GoodIn wsX10_isPlayed wsX2_settle := goodIn_r _ [209, 62, 25, 26, 27, 7, 28, 9, 10, 11, 227, 228, 229, 230, 231, 232, 233, 234, 235, 236, 224, 225, 226] (by decide +kernel) (by decide +kernel)
set_option maxRecDepth 20000 in
theorem gX10_isPlayed_X2_settle : GoodIn wsX10_isPlayed (wsV RX10 152 RX2 yX2_settle wsX2_settle) := goodIn_app (goodIn_of _ (by decide +kernel)) ggX10_isPlayed_X2_settle
set_option maxRecDepth 20000 in
theorem ggX10_isSent_X7_get : GoodIn wsX10_isSent wsX7_get := goodIn_r _ [9, 10, 11, 12, 57, 58, 59] (by decide +kernel) (by decide +kernel)
set_option maxRecDepth 20000 in
theorem gX10_isSent_X7_get : GoodIn wsX10_isSent (wsV RX10 122 RX7 yX7_get wsX7_get) := goodIn_app (goodIn_of _ (by decide +kernel)) ggX10_isSent_X7_get
set_option maxRecDepth 20000 in
theorem ggX10_isSent_X2_addTune : GoodIn wsX10_isSent wsX2_addTune := goodIn_r _ [17, 18, 19, 20, 21, 22, 8, 23, 10, 11, 12, 24, 25, 26, 16, 27, 28, 29, 30, 31, 32, 43, 44, 45, 46, 47, 48, 49, 50, 51, 52, 57, 58, 59] (by decide +kernel) (by decide +kernel)
set_option maxRecDepth 20000 in
theorem gX10_isSent_X2_addTune : GoodIn wsX10_isSent (wsV RX10 158 RX2 yX2_addTune wsX2_addTune) := goodIn_app (goodIn_of _ (by decide +kernel)) ggX10_isSent_X2_addTune
set_option maxRecDepth 20000 in
theorem ggX10_count_X10_needNumber : GoodIn wsX10_count wsX10_needNumber := goodIn_ca (goodIn_r _ [7, 8, 9] (by decide +kernel) (by decide +kernel)) (goodIn_sub (fun _ h => List.mem_cons_of_mem _ (List.mem_append_right _ h)) (by decide +kernel))
set_option maxRecDepth 20000 in
theorem gX10_count_X10_needNumber : GoodIn wsX10_count (wsV RX10 168 RX10 yX10_needNumber wsX10_needNumber) := goodIn_app (goodIn_of _ (by decide +kernel)) ggX10_count_X10_needNumber
set_option maxRecDepth 20000 in
theorem ggX10_count_X1_size : GoodIn wsX10_count wsX1_size := goodIn_r _ [14, 15, 66, 67, 68] (by decide +kernel) (by decide +kernel)
set_option maxRecDepth 20000 in
theorem gX10_count_X1_size : GoodIn wsX10_count (wsV RX10 172 RX1 yX1_size wsX1_size) := goodIn_app (goodIn_of _ (by decide +kernel)) ggX10_count_X1_size
set_option maxRecDepth 20000 in
theorem ggX10_count_X2_numberOfAll : GoodIn wsX10_count wsX2_numberOfAll := goodIn_r _ [20, 21, 22, 23, 24, 25, 26, 27, 19, 28, 29, 30, 31, 32, 33, 34, 35, 36, 37, 38, 39, 40, 41, 42, 43, 44, 45, 46, 47, 48, 49, 50, 51, 52, 53, 54, 55, 69, 70, 71, 72, 73, 74, 75, 76, 77, 78, 79, 80, 81] (by decide +kernel) (by decide +kernel)
set_option maxRecDepth 20000 in
theorem gX10_count_X2_numberOfAll : GoodIn wsX10_count (wsV RX10 173 RX2 yX2_numberOfAll wsX2_numberOfAll) := goodIn_app (goodIn_of _ (by decide +kernel)) ggX10_count_X2_numberOfAll
set_option maxRecDepth 20000 in
theorem ggX10_account_X10_needNumber : GoodIn wsX10_account wsX10_needNumber := goodIn_ca (goodIn_r _ [7, 8, 9] (by decide +kernel) (by decide +kernel)) (goodIn_sub (fun _ h => List.mem_cons_of_mem _ (List.mem_append_right _ h)) (by decide +kernel))
set_option maxRecDepth 20000 in
theorem gX10_account_X10_needNumber : GoodIn wsX10_account (wsV RX10 168 RX10 yX10_needNumber wsX10_needNumber) := goodIn_app (goodIn_of _ (by decide +kernel)) ggX10_account_X10_needNumber
set_option maxRecDepth 20000 in
theorem ggX10_account_X7_get : GoodIn wsX10_account wsX7_get := goodIn_r _ [14, 15, 16, 17, 38, 39, 40] (by decide +kernel) (by decide +kernel)
set_option maxRecDepth 20000 in
theorem gX10_account_X7_get : GoodIn wsX10_account (wsV RX10 122 RX7 yX7_get wsX7_get) := goodIn_app (goodIn_of _ (by decide +kernel)) ggX10_account_X7_get
set_option maxRecDepth 20000 in
theorem ggX10_nameByte_X10_needRoof : GoodIn wsX10_nameByte wsX10_needRoof := goodIn_ca (goodIn_r _ [6, 7, 8, 1, 9, 24, 25, 26, 27, 28, 29, 30, 31, 32, 33, 34, 35, 36, 37, 38, 39, 40, 41, 42, 43] (by decide +kernel) (by decide +kernel)) (goodIn_sub (fun _ h => List.mem_cons_of_mem _ (List.mem_append_right _ h)) (by decide +kernel))
set_option maxRecDepth 20000 in
theorem gX10_nameByte_X10_needRoof : GoodIn wsX10_nameByte (wsV RX10 180 RX10 yX10_needRoof wsX10_needRoof) := goodIn_app (goodIn_of _ (by decide +kernel)) ggX10_nameByte_X10_needRoof
set_option maxRecDepth 20000 in
theorem ggX10_nameByte_X2_letterOf : GoodIn wsX10_nameByte wsX2_letterOf := goodIn_r _ [14, 15, 16, 17, 18, 19, 20, 21, 22, 23, 34, 35, 36, 37, 38, 39, 40, 41, 42, 43, 44, 45, 46] (by decide +kernel) (by decide +kernel)
set_option maxRecDepth 20000 in
theorem gX10_nameByte_X2_letterOf : GoodIn wsX10_nameByte (wsV RX10 183 RX2 yX2_letterOf wsX2_letterOf) := goodIn_app (goodIn_of _ (by decide +kernel)) ggX10_nameByte_X2_letterOf
set_option maxRecDepth 20000 in
theorem ggX10_roof_X10_needRoof : GoodIn wsX10_roof wsX10_needRoof := goodIn_ca (goodIn_r _ [6, 7, 8, 1, 9, 55, 56, 57, 58, 59, 60, 61, 62, 63, 64, 65, 66, 67, 68, 69, 70, 71, 72, 73, 74] (by decide +kernel) (by decide +kernel)) (goodIn_sub (fun _ h => List.mem_cons_of_mem _ (List.mem_append_left _ (List.mem_append_right _ h))) (by decide +kernel))
set_option maxRecDepth 20000 in
theorem gX10_roof_X10_needRoof : GoodIn wsX10_roof (wsV RX10 180 RX10 yX10_needRoof wsX10_needRoof) := goodIn_app (goodIn_of _ (by decide +kernel)) ggX10_roof_X10_needRoof
set_option maxRecDepth 20000 in
theorem ggX10_roof_X10_needNumber : GoodIn wsX10_roof wsX10_needNumber := goodIn_ca (goodIn_r _ [13, 14, 15] (by decide +kernel) (by decide +kernel)) (goodIn_sub (fun _ h => List.mem_cons_of_mem _ (List.mem_append_right _ h)) (by decide +kernel))
set_option maxRecDepth 20000 in
theorem gX10_roof_X10_needNumber : GoodIn wsX10_roof (wsV RX10 168 RX10 yX10_needNumber wsX10_needNumber) := goodIn_app (goodIn_of _ (by decide +kernel)) ggX10_roof_X10_needNumber
set_option maxRecDepth 20000 in
theorem ggX10_roof_X2_numberOfRoof : GoodIn wsX10_roof wsX2_numberOfRoof := goodIn_r _ [20, 21, 22, 23, 24, 25, 26, 27, 28, 29, 30, 31, 32, 33, 34, 35, 36, 37, 19, 38, 39, 40, 41, 42, 43, 44, 45, 46, 47, 48, 49, 50, 51, 52, 53, 54, 65, 66, 67, 68, 69, 70, 71, 72, 73, 74, 75, 76, 77] (by decide +kernel) (by decide +kernel)
set_option maxRecDepth 20000 in
theorem gX10_roof_X2_numberOfRoof : GoodIn wsX10_roof (wsV RX10 186 RX2 yX2_numberOfRoof wsX2_numberOfRoof) := goodIn_app (goodIn_of _ (by decide +kernel)) ggX10_roof_X2_numberOfRoof
set_option maxRecDepth 20000 in
theorem ggX10_way_X10_needNumber : GoodIn wsX10_way wsX10_needNumber := goodIn_ca (goodIn_r _ [10, 11, 12] (by decide +kernel) (by decide +kernel)) (goodIn_sub (fun _ h => List.mem_cons_of_mem _ (List.mem_append_right _ h)) (by decide +kernel))
set_option maxRecDepth 20000 in
theorem gX10_way_X10_needNumber : GoodIn wsX10_way (wsV RX10 168 RX10 yX10_needNumber wsX10_needNumber) := goodIn_app (goodIn_of _ (by decide +kernel)) ggX10_way_X10_needNumber
set_option maxRecDepth 20000 in
theorem ggX10_way_X7_get : GoodIn wsX10_way wsX7_get := goodIn_r _ [17, 18, 19, 20, 41, 42, 43] (by decide +kernel) (by decide +kernel)
set_option maxRecDepth 20000 in
theorem gX10_way_X7_get : GoodIn wsX10_way (wsV RX10 122 RX7 yX7_get wsX7_get) := goodIn_app (goodIn_of _ (by decide +kernel)) ggX10_way_X7_get
set_option maxRecDepth 20000 in
theorem ggX10_route_X10_needRoof : GoodIn wsX10_route wsX10_needRoof := goodIn_ca (goodIn_r _ [8, 9, 10, 1, 11, 20, 21, 22, 23, 24, 25, 26, 27, 28, 29, 30, 31, 32, 33, 34, 35, 36, 37, 38, 39] (by decide +kernel) (by decide +kernel)) (goodIn_sub (fun _ h => List.mem_cons_of_mem _ (List.mem_append_right _ h)) (by decide +kernel))
set_option maxRecDepth 20000 in
theorem gX10_route_X10_needRoof : GoodIn wsX10_route (wsV RX10 180 RX10 yX10_needRoof wsX10_needRoof) := goodIn_app (goodIn_of _ (by decide +kernel)) ggX10_route_X10_needRoof
set_option maxRecDepth 20000 in
theorem ggX10_route_X7_get : GoodIn wsX10_route wsX7_get := goodIn_r _ [16, 17, 18, 19, 43, 44, 45] (by decide +kernel) (by decide +kernel)
set_option maxRecDepth 20000 in
theorem gX10_route_X7_get : GoodIn wsX10_route (wsV RX10 122 RX7 yX7_get wsX7_get) := goodIn_app (goodIn_of _ (by decide +kernel)) ggX10_route_X7_get
set_option maxRecDepth 20000 in
theorem ggX10_next_X10_needRoof : GoodIn wsX10_next wsX10_needRoof := goodIn_ca (goodIn_r _ [8, 9, 10, 1, 11, 20, 21, 22, 23, 24, 25, 26, 27, 28, 29, 30, 31, 32, 33, 34, 35, 36, 37, 38, 39] (by decide +kernel) (by decide +kernel)) (goodIn_sub (fun _ h => List.mem_cons_of_mem _ (List.mem_append_right _ h)) (by decide +kernel))
set_option maxRecDepth 20000 in
theorem gX10_next_X10_needRoof : GoodIn wsX10_next (wsV RX10 180 RX10 yX10_needRoof wsX10_needRoof) := goodIn_app (goodIn_of _ (by decide +kernel)) ggX10_next_X10_needRoof
set_option maxRecDepth 20000 in
theorem ggX10_next_X7_get : GoodIn wsX10_next wsX7_get := goodIn_r _ [16, 17, 18, 19, 43, 44, 45] (by decide +kernel) (by decide +kernel)
set_option maxRecDepth 20000 in
theorem gX10_next_X7_get : GoodIn wsX10_next (wsV RX10 122 RX7 yX7_get wsX7_get) := goodIn_app (goodIn_of _ (by decide +kernel)) ggX10_next_X7_get
set_option maxRecDepth 20000 in
theorem ggX10_tune_X10_needTune : GoodIn wsX10_tune wsX10_needTune := goodIn_ca (goodIn_r _ [6, 7, 8, 1, 9, 43, 44, 45, 46, 47, 48, 49, 50, 51, 52, 53, 54, 55, 56, 57, 58, 59, 60, 61, 62] (by decide +kernel) (by decide +kernel)) (goodIn_sub (fun _ h => List.mem_cons_of_mem _ (List.mem_append_left _ (List.mem_append_right _ h))) (by decide +kernel))
set_option maxRecDepth 20000 in
theorem gX10_tune_X10_needTune : GoodIn wsX10_tune (wsV RX10 210 RX10 yX10_needTune wsX10_needTune) := goodIn_app (goodIn_of _ (by decide +kernel)) ggX10_tune_X10_needTune
set_option maxRecDepth 20000 in
theorem ggX10_tune_X10_needNumber : GoodIn wsX10_tune wsX10_needNumber := goodIn_ca (goodIn_r _ [13, 14, 15] (by decide +kernel) (by decide +kernel)) (goodIn_sub (fun _ h => List.mem_cons_of_mem _ (List.mem_append_right _ h)) (by decide +kernel))
set_option maxRecDepth 20000 in
theorem gX10_tune_X10_needNumber : GoodIn wsX10_tune (wsV RX10 168 RX10 yX10_needNumber wsX10_needNumber) := goodIn_app (goodIn_of _ (by decide +kernel)) ggX10_tune_X10_needNumber
set_option maxRecDepth 20000 in
theorem ggX10_tune_X2_numberOfTune : GoodIn wsX10_tune wsX2_numberOfTune := goodIn_r _ [20, 21, 22, 23, 24, 19, 25, 26, 27, 28, 29, 30, 31, 32, 33, 34, 35, 36, 37, 38, 39, 40, 41, 5, 42, 53, 54, 55, 56, 57, 58, 59, 60, 61, 62, 63, 64, 65] (by decide +kernel) (by decide +kernel)
set_option maxRecDepth 20000 in
theorem gX10_tune_X2_numberOfTune : GoodIn wsX10_tune (wsV RX10 213 RX2 yX2_numberOfTune wsX2_numberOfTune) := goodIn_app (goodIn_of _ (by decide +kernel)) ggX10_tune_X2_numberOfTune
set_option maxRecDepth 20000 in
theorem ggX10_note_X10_needTune : GoodIn wsX10_note wsX10_needTune := goodIn_ca (goodIn_r _ [7, 8, 9, 1, 10, 22, 23, 24, 25, 26, 27, 28, 29, 30, 31, 32, 33, 34, 35, 36, 37, 38, 39, 40, 41] (by decide +kernel) (by decide +kernel)) (goodIn_sub (fun _ h => List.mem_cons_of_mem _ (List.mem_append_right _ h)) (by decide +kernel))
set_option maxRecDepth 20000 in
theorem gX10_note_X10_needTune : GoodIn wsX10_note (wsV RX10 210 RX10 yX10_needTune wsX10_needTune) := goodIn_app (goodIn_of _ (by decide +kernel)) ggX10_note_X10_needTune
set_option maxRecDepth 20000 in
theorem ggX10_note_X7_get : GoodIn wsX10_note wsX7_get := goodIn_r _ [15, 16, 17, 18, 42, 43, 44] (by decide +kernel) (by decide +kernel)
set_option maxRecDepth 20000 in
theorem gX10_note_X7_get : GoodIn wsX10_note (wsV RX10 122 RX7 yX7_get wsX7_get) := goodIn_app (goodIn_of _ (by decide +kernel)) ggX10_note_X7_get
set_option maxRecDepth 20000 in
theorem ggX10_note_X10_noteOf : GoodIn wsX10_note wsX10_noteOf := goodIn_r _ [21] (by decide +kernel) (by decide +kernel)
set_option maxRecDepth 20000 in
theorem gX10_note_X10_noteOf : GoodIn wsX10_note (va_wsS RX10 219 yX10_noteOf wsX10_noteOf) := goodIn_app (goodIn_of _ (by decide +kernel)) ggX10_note_X10_noteOf
set_option maxRecDepth 20000 in
theorem ggX10_waiting_X10_needRoof : GoodIn wsX10_waiting wsX10_needRoof := goodIn_ca (goodIn_r _ [6, 7, 8, 1, 9, 36, 37, 38, 39, 40, 41, 42, 43, 44, 45, 46, 47, 48, 49, 50, 51, 52, 53, 54, 55] (by decide +kernel) (by decide +kernel)) (goodIn_sub (fun _ h => List.mem_cons_of_mem _ (List.mem_append_right _ h)) (by decide +kernel))
set_option maxRecDepth 20000 in
theorem gX10_waiting_X10_needRoof : GoodIn wsX10_waiting (wsV RX10 180 RX10 yX10_needRoof wsX10_needRoof) := goodIn_app (goodIn_of _ (by decide +kernel)) ggX10_waiting_X10_needRoof
set_option maxRecDepth 20000 in
theorem ggX10_waiting_X2_waitingAt : GoodIn wsX10_waiting wsX2_waitingAt := goodIn_r _ [14, 15, 16, 17, 18, 13, 19, 20, 21, 22, 23, 24, 25, 26, 27, 28, 29, 30, 31, 32, 33, 34, 35, 46, 47, 48, 49, 50, 51, 52, 53, 54, 55, 56, 57, 58] (by decide +kernel) (by decide +kernel)
set_option maxRecDepth 20000 in
theorem gX10_waiting_X2_waitingAt : GoodIn wsX10_waiting (wsV RX10 222 RX2 yX2_waitingAt wsX2_waitingAt) := goodIn_app (goodIn_of _ (by decide +kernel)) ggX10_waiting_X2_waitingAt
set_option maxRecDepth 20000 in
theorem ggX10_why_X10_needTune : GoodIn wsX10_why wsX10_needTune := goodIn_ca (goodIn_r _ [6, 7, 8, 1, 9, 72, 73, 74, 75, 76, 77, 78, 79, 80, 81, 82, 83, 84, 85, 86, 87, 88, 89, 90, 91] (by decide +kernel) (by decide +kernel)) (goodIn_sub (fun _ h => List.mem_cons_of_mem _ (List.mem_append_left _ (List.mem_append_right _ h))) (by decide +kernel))
set_option maxRecDepth 20000 in
theorem gX10_why_X10_needTune : GoodIn wsX10_why (wsV RX10 210 RX10 yX10_needTune wsX10_needTune) := goodIn_app (goodIn_of _ (by decide +kernel)) ggX10_why_X10_needTune
set_option maxRecDepth 20000 in
theorem ggX10_why_X10_needNumber : GoodIn wsX10_why wsX10_needNumber := goodIn_ca (goodIn_r _ [13, 14, 15] (by decide +kernel) (by decide +kernel)) (goodIn_sub (fun _ h => List.mem_cons_of_mem _ (List.mem_append_right _ h)) (by decide +kernel))
set_option maxRecDepth 20000 in
theorem gX10_why_X10_needNumber : GoodIn wsX10_why (wsV RX10 168 RX10 yX10_needNumber wsX10_needNumber) := goodIn_app (goodIn_of _ (by decide +kernel)) ggX10_why_X10_needNumber
set_option maxRecDepth 20000 in
theorem ggX10_why_X6_causeOf : GoodIn wsX10_why wsX6_causeOf := goodIn_r _ [19, 20, 21, 22, 23, 24, 25, 26, 27, 28, 29, 30, 31, 32, 33, 34, 35, 36, 37, 38, 39, 40, 41, 42, 43, 44, 45, 46, 47, 48, 49, 50, 51, 52, 53, 54, 55, 56, 57, 58, 59, 60, 61, 62, 63, 64, 65, 66, 67, 68, 69, 70, 71, 82, 83, 84, 85, 86, 87, 88, 89, 90, 91, 92, 93, 94, 95, 96, 97] (by decide +kernel) (by decide +kernel)
set_option maxRecDepth 20000 in
theorem gX10_why_X6_causeOf : GoodIn wsX10_why (va_wsS RX10 225 yX6_causeOf wsX6_causeOf) := goodIn_app (goodIn_of _ (by decide +kernel)) ggX10_why_X6_causeOf
set_option maxRecDepth 20000 in
theorem ggX10_costOf_X10_needRoof : GoodIn wsX10_costOf wsX10_needRoof := goodIn_ca (goodIn_r _ [6, 7, 8, 1, 9, 35, 36, 37, 38, 39, 40, 41, 42, 43, 44, 45, 46, 47, 48, 49, 50, 51, 52, 53, 54] (by decide +kernel) (by decide +kernel)) (goodIn_sub (fun _ h => List.mem_cons_of_mem _ (List.mem_append_left _ (List.mem_append_right _ h))) (by decide +kernel))
set_option maxRecDepth 20000 in
theorem gX10_costOf_X10_needRoof : GoodIn wsX10_costOf (wsV RX10 180 RX10 yX10_needRoof wsX10_needRoof) := goodIn_app (goodIn_of _ (by decide +kernel)) ggX10_costOf_X10_needRoof
set_option maxRecDepth 20000 in
theorem ggX10_costOf_X10_needNumber : GoodIn wsX10_costOf wsX10_needNumber := goodIn_ca (goodIn_r _ [13, 14, 15] (by decide +kernel) (by decide +kernel)) (goodIn_sub (fun _ h => List.mem_cons_of_mem _ (List.mem_append_right _ h)) (by decide +kernel))
set_option maxRecDepth 20000 in
theorem gX10_costOf_X10_needNumber : GoodIn wsX10_costOf (wsV RX10 168 RX10 yX10_needNumber wsX10_needNumber) := goodIn_app (goodIn_of _ (by decide +kernel)) ggX10_costOf_X10_needNumber
set_option maxRecDepth 20000 in
theorem ggX10_costOf_X6_feesOn : GoodIn wsX10_costOf wsX6_feesOn := goodIn_r _ [19, 20, 21, 22, 23, 24, 25, 26, 27, 28, 29, 30, 31, 32, 33, 34, 45, 46, 47, 48, 49, 50, 51, 52, 53, 54, 55, 56, 57, 58, 59, 60] (by decide +kernel) (by decide +kernel)
set_option maxRecDepth 20000 in
theorem gX10_costOf_X6_feesOn : GoodIn wsX10_costOf (va_wsS RX10 231 yX6_feesOn wsX6_feesOn) := goodIn_app (goodIn_of _ (by decide +kernel)) ggX10_costOf_X6_feesOn
set_option maxRecDepth 20000 in
theorem ggX10_wrongOn_X10_needRoof : GoodIn wsX10_wrongOn wsX10_needRoof := goodIn_ca (goodIn_r _ [6, 7, 8, 1, 9, 50, 51, 52, 53, 54, 55, 56, 57, 58, 59, 60, 61, 62, 63, 64, 65, 66, 67, 68, 69] (by decide +kernel) (by decide +kernel)) (goodIn_sub (fun _ h => List.mem_cons_of_mem _ (List.mem_append_left _ (List.mem_append_right _ h))) (by decide +kernel))
set_option maxRecDepth 20000 in
theorem gX10_wrongOn_X10_needRoof : GoodIn wsX10_wrongOn (wsV RX10 180 RX10 yX10_needRoof wsX10_needRoof) := goodIn_app (goodIn_of _ (by decide +kernel)) ggX10_wrongOn_X10_needRoof
set_option maxRecDepth 20000 in
theorem ggX10_wrongOn_X10_needNumber : GoodIn wsX10_wrongOn wsX10_needNumber := goodIn_ca (goodIn_r _ [13, 14, 15] (by decide +kernel) (by decide +kernel)) (goodIn_sub (fun _ h => List.mem_cons_of_mem _ (List.mem_append_right _ h)) (by decide +kernel))
set_option maxRecDepth 20000 in
theorem gX10_wrongOn_X10_needNumber : GoodIn wsX10_wrongOn (wsV RX10 168 RX10 yX10_needNumber wsX10_needNumber) := goodIn_app (goodIn_of _ (by decide +kernel)) ggX10_wrongOn_X10_needNumber
set_option maxRecDepth 20000 in
theorem ggX10_wrongOn_X2_setting : GoodIn wsX10_wrongOn wsX2_setting := goodIn_r _ [20, 21, 22, 23, 24, 25, 26, 27, 28, 29, 60, 61, 62, 63, 64, 65, 66, 67, 68, 69, 70, 71, 72] (by decide +kernel) (by decide +kernel)
set_option maxRecDepth 20000 in
theorem gX10_wrongOn_X2_setting : GoodIn wsX10_wrongOn (wsV RX10 235 RX2 yX2_setting wsX2_setting) := goodIn_app (goodIn_of _ (by decide +kernel)) ggX10_wrongOn_X2_setting
set_option maxRecDepth 20000 in
theorem ggX10_wrongOn_X6_wrongNotesOn : GoodIn wsX10_wrongOn wsX6_wrongNotesOn := goodIn_r _ [33, 34, 35, 36, 37, 23, 24, 25, 26, 27, 28, 29, 38, 39, 40, 19, 41, 42, 43, 44, 45, 46, 47, 48, 49, 22, 60, 61, 62, 63, 64, 65, 66, 67, 68, 69, 73, 74, 75, 70, 71, 72] (by decide +kernel) (by decide +kernel)
set_option maxRecDepth 20000 in
theorem gX10_wrongOn_X6_wrongNotesOn : GoodIn wsX10_wrongOn (va_wsS RX10 238 yX6_wrongNotesOn wsX6_wrongNotesOn) := goodIn_app (goodIn_of _ (by decide +kernel)) ggX10_wrongOn_X6_wrongNotesOn
set_option maxRecDepth 20000 in
theorem ggX10_calmest_X10_needRoof : GoodIn wsX10_calmest wsX10_needRoof := goodIn_ca (goodIn_r _ [6, 7, 8, 1, 9, 39, 40, 41, 42, 43, 44, 45, 46, 47, 48, 49, 50, 51, 52, 53, 54, 55, 56, 57, 58] (by decide +kernel) (by decide +kernel)) (goodIn_sub (fun _ h => List.mem_cons_of_mem _ (List.mem_append_right _ h)) (by decide +kernel))
set_option maxRecDepth 20000 in
theorem gX10_calmest_X10_needRoof : GoodIn wsX10_calmest (wsV RX10 180 RX10 yX10_needRoof wsX10_needRoof) := goodIn_app (goodIn_of _ (by decide +kernel)) ggX10_calmest_X10_needRoof
set_option maxRecDepth 20000 in
theorem ggX10_calmest_X6_wrongNotesOn : GoodIn wsX10_calmest wsX6_wrongNotesOn := goodIn_r _ [13, 14, 15, 16, 17, 18, 19, 20, 21, 22, 23, 24, 25, 26, 27, 28, 29, 30, 31, 32, 33, 34, 35, 36, 37, 38, 49, 50, 51, 52, 53, 54, 55, 56, 57, 58, 59, 60, 61, 62, 63, 64] (by decide +kernel) (by decide +kernel)
set_option maxRecDepth 20000 in
theorem gX10_calmest_X6_wrongNotesOn : GoodIn wsX10_calmest (va_wsS RX10 238 yX6_wrongNotesOn wsX6_wrongNotesOn) := goodIn_app (goodIn_of _ (by decide +kernel)) ggX10_calmest_X6_wrongNotesOn
set_option maxRecDepth 20000 in
theorem ggX10_arrivesIn_X10_needTune : GoodIn wsX10_arrivesIn wsX10_needTune := goodIn_ca (goodIn_r _ [8, 9, 10, 2, 11, 163, 164, 165, 166, 167, 168, 169, 170, 171, 172, 173, 174, 175, 176, 177, 178, 179, 180, 181, 182] (by decide +kernel) (by decide +kernel)) (goodIn_sub (fun _ h => List.mem_cons_of_mem _ (List.mem_append_right _ h)) (by decide +kernel))
set_option maxRecDepth 20000 in
theorem gX10_arrivesIn_X10_needTune : GoodIn wsX10_arrivesIn (wsV RX10 210 RX10 yX10_needTune wsX10_needTune) := goodIn_app (goodIn_of _ (by decide +kernel)) ggX10_arrivesIn_X10_needTune
set_option maxRecDepth 20000 in
theorem ggX10_arrivesIn_X2_copyFrom : GoodIn wsX10_arrivesIn wsX2_copyFrom := goodIn_r _ [16, 17, 18, 19, 20, 21, 22, 23, 24, 25, 26, 27, 28, 29, 30, 31, 32, 33, 34, 35, 36, 37, 38, 39, 40, 41, 42, 43, 44, 45, 46, 47, 48, 49, 173, 174, 175, 176, 177, 178, 179, 180, 181, 182, 183, 184, 185, 186, 187, 188] (by decide +kernel) (by decide +kernel)
set_option maxRecDepth 20000 in
theorem gX10_arrivesIn_X2_copyFrom : GoodIn wsX10_arrivesIn (wsV RX10 80 RX2 yX2_copyFrom wsX2_copyFrom) := goodIn_app (goodIn_of _ (by decide +kernel)) ggX10_arrivesIn_X2_copyFrom
set_option maxRecDepth 20000 in
theorem ggX10_arrivesIn_X7_get : GoodIn wsX10_arrivesIn wsX7_get := goodIn_r _ [53, 54, 55, 32, 183, 184, 185] (by decide +kernel) (by decide +kernel)
set_option maxRecDepth 20000 in
theorem gX10_arrivesIn_X7_get : GoodIn wsX10_arrivesIn (wsV RX10 122 RX7 yX7_get wsX7_get) := goodIn_app (goodIn_of _ (by decide +kernel)) ggX10_arrivesIn_X7_get
set_option maxRecDepth 20000 in
theorem ggX10_arrivesIn_X8_run : GoodIn wsX10_arrivesIn wsX8_run := goodIn_r _ [59, 60, 61, 62, 63, 15, 64, 25, 65, 66, 67, 30, 68, 54, 55, 32, 69, 70, 58, 71, 72, 73, 74, 51, 52, 53, 75, 76, 77, 78, 79, 80, 81, 24, 82, 83, 84, 85, 86, 21, 87, 88, 35, 89, 90, 34, 36, 91, 92, 93, 94, 7, 95, 96, 97, 98, 99, 100, 101, 102, 103, 104, 105, 106, 107, 108, 109, 110, 20, 23, 111, 112, 113, 114, 115, 116, 117, 118, 119, 120, 121, 122, 123, 124, 125, 126, 127, 128, 129, 130, 131, 132, 133, 134, 135, 26, 136, 137, 138, 139, 140, 141, 142, 143, 144, 145, 146, 147, 148, 149, 150, 151, 152, 153, 154, 155, 156, 157, 158, 159, 160, 161, 162, 173, 174, 175, 176, 177, 178, 179, 180, 181, 182, 183, 184, 185, 186, 187, 188] (by decide +kernel) (by decide +kernel)
set_option maxRecDepth 20000 in
theorem gX10_arrivesIn_X8_run : GoodIn wsX10_arrivesIn (va_wsS RX10 135 yX8_run wsX8_run) := goodIn_app (goodIn_of _ (by decide +kernel)) ggX10_arrivesIn_X8_run
set_option maxRecDepth 20000 in
theorem ggX10_growsBy_X10_needNumber : GoodIn wsX10_growsBy wsX10_needNumber := goodIn_ca (goodIn_r _ [8, 9, 10] (by decide +kernel) (by decide +kernel)) (goodIn_sub (fun _ h => List.mem_cons_of_mem _ (List.mem_append_right _ h)) (by decide +kernel))
set_option maxRecDepth 20000 in
theorem gX10_growsBy_X10_needNumber : GoodIn wsX10_growsBy (wsV RX10 168 RX10 yX10_needNumber wsX10_needNumber) := goodIn_app (goodIn_of _ (by decide +kernel)) ggX10_growsBy_X10_needNumber
set_option maxRecDepth 20000 in
theorem ggX10_growsBy_X2_copyFrom : GoodIn wsX10_growsBy wsX2_copyFrom := goodIn_r _ [15, 16, 17, 18, 19, 20, 21, 22, 23, 24, 25, 26, 27, 28, 29, 30, 31, 32, 33, 34, 35, 36, 37, 38, 39, 40, 41, 42, 43, 44, 45, 46, 47, 48, 172, 173, 174, 175, 176, 177, 178, 179, 180, 181, 182, 183, 184, 185, 186, 187] (by decide +kernel) (by decide +kernel)
set_option maxRecDepth 20000 in
theorem gX10_growsBy_X2_copyFrom : GoodIn wsX10_growsBy (wsV RX10 80 RX2 yX2_copyFrom wsX2_copyFrom) := goodIn_app (goodIn_of _ (by decide +kernel)) ggX10_growsBy_X2_copyFrom
set_option maxRecDepth 20000 in
theorem ggX10_growsBy_X8_run : GoodIn wsX10_growsBy wsX8_run := goodIn_r _ [52, 53, 54, 55, 56, 14, 57, 24, 58, 59, 60, 29, 61, 62, 63, 31, 64, 65, 51, 66, 67, 68, 69, 70, 71, 72, 73, 74, 75, 76, 77, 78, 79, 23, 80, 81, 82, 83, 84, 20, 85, 86, 34, 87, 88, 33, 35, 89, 90, 91, 92, 7, 93, 94, 95, 96, 97, 98, 99, 100, 101, 102, 103, 104, 105, 106, 107, 108, 19, 22, 109, 110, 111, 112, 113, 114, 115, 116, 117, 118, 119, 120, 121, 122, 123, 124, 125, 126, 127, 128, 129, 130, 131, 132, 133, 25, 134, 135, 136, 137, 138, 139, 140, 141, 142, 143, 144, 145, 146, 147, 148, 149, 150, 151, 152, 153, 154, 155, 156, 157, 158, 159, 160, 172, 173, 174, 175, 176, 177, 178, 179, 180, 181, 182, 183, 184, 185, 186, 187] (by decide +kernel) (by decide +kernel)
set_option maxRecDepth 20000 in
theorem gX10_growsBy_X8_run : GoodIn wsX10_growsBy (va_wsS RX10 135 yX8_run wsX8_run) := goodIn_app (goodIn_of _ (by decide +kernel)) ggX10_growsBy_X8_run
set_option maxRecDepth 20000 in
theorem ggX10_growsBy_X7_get : GoodIn wsX10_growsBy wsX7_get := goodIn_r _ [72, 62, 63, 31, 182, 183, 184] (by decide +kernel) (by decide +kernel)
set_option maxRecDepth 20000 in
theorem gX10_growsBy_X7_get : GoodIn wsX10_growsBy (wsV RX10 122 RX7 yX7_get wsX7_get) := goodIn_app (goodIn_of _ (by decide +kernel)) ggX10_growsBy_X7_get
set_option maxRecDepth 20000 in
theorem ggX10_dearestWay_X6_mostNeededWay : GoodIn wsX10_dearestWay wsX6_mostNeededWay := goodIn_r _ [5, 6, 7, 8, 4, 9, 10, 11, 12, 13, 14, 15, 16, 17, 18, 19, 20, 21, 22, 23, 24, 25, 26, 27, 28, 29, 40, 41, 42, 43, 44, 45, 46, 47, 48, 49, 50, 51, 52] (by decide +kernel) (by decide +kernel)
set_option maxRecDepth 20000 in
theorem gX10_dearestWay_X6_mostNeededWay : GoodIn wsX10_dearestWay (va_wsS RX10 242 yX6_mostNeededWay wsX6_mostNeededWay) := goodIn_app (goodIn_of _ (by decide +kernel)) ggX10_dearestWay_X6_mostNeededWay
set_option maxRecDepth 20000 in
theorem ggX10_agree_X3_sumByWays : GoodIn wsX10_agree wsX3_sumByWays := goodIn_r _ [9, 10, 11, 12, 13, 14, 15, 16, 8, 17, 18, 19, 20, 21, 22, 23, 24, 25, 26, 27, 28, 29, 30, 31, 32, 33, 34, 35, 36, 37, 38, 39, 81, 82, 83, 84, 85, 86, 87, 88, 89, 90, 91, 92, 93, 94, 95, 96] (by decide +kernel) (by decide +kernel)
set_option maxRecDepth 20000 in
theorem gX10_agree_X3_sumByWays : GoodIn wsX10_agree (wsV RX10 246 RX3 yX3_sumByWays wsX3_sumByWays) := goodIn_app (goodIn_of _ (by decide +kernel)) ggX10_agree_X3_sumByWays
set_option maxRecDepth 20000 in
theorem ggX10_agree_X3_hasSameSums : GoodIn wsX10_agree wsX3_hasSameSums := goodIn_r _ [43, 13, 32, 33, 34, 23, 35, 30, 31, 25, 91, 92, 93, 94, 95, 96] (by decide +kernel) (by decide +kernel)
set_option maxRecDepth 20000 in
theorem gX10_agree_X3_hasSameSums : GoodIn wsX10_agree (wsV RX10 252 RX3 yX3_hasSameSums wsX3_hasSameSums) := goodIn_app (goodIn_of _ (by decide +kernel)) ggX10_agree_X3_hasSameSums
set_option maxRecDepth 20000 in
theorem ggX10_agree_X6_areTunesRight : GoodIn wsX10_agree wsX6_areTunesRight := goodIn_r _ [47, 48, 49, 50, 51, 33, 34, 23, 35, 30, 31, 25, 81, 82, 83, 84, 85, 86, 87, 88, 89, 90, 94, 95, 96] (by decide +kernel) (by decide +kernel)
set_option maxRecDepth 20000 in
theorem gX10_agree_X6_areTunesRight : GoodIn wsX10_agree (va_wsS RX10 256 yX6_areTunesRight wsX6_areTunesRight) := goodIn_app (goodIn_of _ (by decide +kernel)) ggX10_agree_X6_areTunesRight
set_option maxRecDepth 20000 in
theorem ggX10_agree_X6_areAccountsRight : GoodIn wsX10_agree wsX6_areAccountsRight := goodIn_r _ [54, 50, 55, 48, 49, 56, 51, 33, 34, 23, 35, 30, 31, 25, 57, 58, 59, 60, 61, 62, 63, 64, 65, 66, 67, 68, 69, 70, 81, 82, 83, 84, 85, 86, 87, 88, 89, 90, 94, 95, 96] (by decide +kernel) (by decide +kernel)
set_option maxRecDepth 20000 in
theorem gX10_agree_X6_areAccountsRight : GoodIn wsX10_agree (va_wsS RX10 260 yX6_areAccountsRight wsX6_areAccountsRight) := goodIn_app (goodIn_of _ (by decide +kernel)) ggX10_agree_X6_areAccountsRight
set_option maxRecDepth 20000 in
theorem ggX10_meanPurse_X2_pursesTogether : GoodIn wsX10_meanPurse wsX2_pursesTogether := goodIn_r _ [7, 8, 9, 10, 11, 12, 13, 14, 15, 16, 17, 28, 29, 30, 31, 32, 33, 34, 35, 36, 37, 38, 39, 40] (by decide +kernel) (by decide +kernel)
set_option maxRecDepth 20000 in
theorem gX10_meanPurse_X2_pursesTogether : GoodIn wsX10_meanPurse (wsV RX10 263 RX2 yX2_pursesTogether wsX2_pursesTogether) := goodIn_app (goodIn_of _ (by decide +kernel)) ggX10_meanPurse_X2_pursesTogether
set_option maxRecDepth 20000 in
theorem ggX10_rightPart_X7_get : GoodIn wsX10_rightPart wsX7_get := goodIn_r _ [7, 8, 9, 10, 31, 32, 33] (by decide +kernel) (by decide +kernel)
set_option maxRecDepth 20000 in
theorem gX10_rightPart_X7_get : GoodIn wsX10_rightPart (wsV RX10 122 RX7 yX7_get wsX7_get) := goodIn_app (goodIn_of _ (by decide +kernel)) ggX10_rightPart_X7_get
set_option maxRecDepth 20000 in
theorem ggX10_send_X10_needRoof : GoodIn wsX10_send wsX10_needRoof := goodIn_ca (goodIn_r _ [13, 14, 15, 6, 16, 98, 99, 100, 101, 102, 103, 104, 105, 106, 107, 108, 109, 110, 111, 112, 113, 114, 115, 116, 117] (by decide +kernel) (by decide +kernel)) (goodIn_sub (fun _ h => List.mem_cons_of_mem _ (List.mem_append_right _ h)) (by decide +kernel))
set_option maxRecDepth 20000 in
theorem gX10_send_X10_needRoof : GoodIn wsX10_send (wsV RX10 180 RX10 yX10_needRoof wsX10_needRoof) := goodIn_app (goodIn_of _ (by decide +kernel)) ggX10_send_X10_needRoof
set_option maxRecDepth 20000 in
theorem ggX10_send_X10_needNumber : GoodIn wsX10_send wsX10_needNumber := goodIn_ca (goodIn_r _ [20, 1, 2] (by decide +kernel) (by decide +kernel)) (goodIn_sub (fun _ h => List.mem_cons_of_mem _ (List.mem_append_left _ (List.mem_append_left _ (List.mem_append_right _ h)))) (by decide +kernel))
set_option maxRecDepth 20000 in
theorem gX10_send_X10_needNumber : GoodIn wsX10_send (wsV RX10 168 RX10 yX10_needNumber wsX10_needNumber) := goodIn_app (goodIn_of _ (by decide +kernel)) ggX10_send_X10_needNumber
set_option maxRecDepth 20000 in
theorem ggX10_send_X10_areDigitsNotes : GoodIn wsX10_send wsX10_areDigitsNotes := goodIn_r _ [23] (by decide +kernel) (by decide +kernel)
set_option maxRecDepth 20000 in
theorem gX10_send_X10_areDigitsNotes : GoodIn wsX10_send (va_wsS RX10 272 yX10_areDigitsNotes wsX10_areDigitsNotes) := goodIn_app (goodIn_of _ (by decide +kernel)) ggX10_send_X10_areDigitsNotes
set_option maxRecDepth 20000 in
theorem ggX10_send_X1_keep : GoodIn wsX10_send wsX1_keep := goodIn_r _ [28, 29, 30, 31, 32, 33, 27, 34, 35, 36, 37, 38, 39, 40, 41, 42, 43, 44, 45, 46, 47, 48, 49, 50, 51, 52, 53, 54, 55, 56, 57, 58, 59, 60, 61, 62, 63, 64, 65, 66, 67, 68, 69, 70, 71, 72, 73, 118, 119, 120, 108, 109, 110, 111, 112, 113, 114, 115, 116, 117, 121, 122, 123, 124, 125, 126] (by decide +kernel) (by decide +kernel)
set_option maxRecDepth 20000 in
theorem gX10_send_X1_keep : GoodIn wsX10_send (wsV RX10 109 RX1 yX1_keep wsX1_keep) := goodIn_app (goodIn_of _ (by decide +kernel)) ggX10_send_X1_keep
set_option maxRecDepth 20000 in
theorem ggX10_send_X10_digitsOf : GoodIn wsX10_send wsX10_digitsOf := goodIn_r _ [76] (by decide +kernel) (by decide +kernel)
set_option maxRecDepth 20000 in
theorem gX10_send_X10_digitsOf : GoodIn wsX10_send (va_wsS RX10 282 yX10_digitsOf wsX10_digitsOf) := goodIn_app (goodIn_of _ (by decide +kernel)) ggX10_send_X10_digitsOf
set_option maxRecDepth 20000 in
theorem ggX10_send_X10_notesOfDigits : GoodIn wsX10_send wsX10_notesOfDigits := goodIn_r _ [79] (by decide +kernel) (by decide +kernel)
set_option maxRecDepth 20000 in
theorem gX10_send_X10_notesOfDigits : GoodIn wsX10_send (va_wsS RX10 285 yX10_notesOfDigits wsX10_notesOfDigits) := goodIn_app (goodIn_of _ (by decide +kernel)) ggX10_send_X10_notesOfDigits
set_option maxRecDepth 20000 in
theorem ggX10_send_X2_addTune : GoodIn wsX10_send wsX2_addTune := goodIn_r _ [83, 44, 47, 84, 85, 86, 54, 87, 88, 89, 56, 90, 91, 92, 39, 93, 49, 94, 95, 96, 97, 108, 109, 110, 111, 112, 113, 114, 115, 116, 117, 121, 122, 123] (by decide +kernel) (by decide +kernel)
set_option maxRecDepth 20000 in
theorem gX10_send_X2_addTune : GoodIn wsX10_send (wsV RX10 158 RX2 yX2_addTune wsX2_addTune) := goodIn_app (goodIn_of _ (by decide +kernel)) ggX10_send_X2_addTune
set_option maxRecDepth 20000 in
theorem ggX10_tick_X10_needNumber : GoodIn wsX10_tick wsX10_needNumber := goodIn_ca (goodIn_r _ [10, 11, 12] (by decide +kernel) (by decide +kernel)) (goodIn_sub (fun _ h => List.mem_cons_of_mem _ (List.mem_append_right _ h)) (by decide +kernel))
set_option maxRecDepth 20000 in
theorem gX10_tick_X10_needNumber : GoodIn wsX10_tick (wsV RX10 168 RX10 yX10_needNumber wsX10_needNumber) := goodIn_app (goodIn_of _ (by decide +kernel)) ggX10_tick_X10_needNumber
set_option maxRecDepth 20000 in
theorem ggX10_tick_X2_hasTimeFor : GoodIn wsX10_tick wsX2_hasTimeFor := goodIn_r _ [17, 18, 190, 191, 192, 193, 194, 195, 196, 197, 198, 199] (by decide +kernel) (by decide +kernel)
set_option maxRecDepth 20000 in
theorem gX10_tick_X2_hasTimeFor : GoodIn wsX10_tick (wsV RX10 132 RX2 yX2_hasTimeFor wsX2_hasTimeFor) := goodIn_app (goodIn_of _ (by decide +kernel)) ggX10_tick_X2_hasTimeFor
set_option maxRecDepth 20000 in
theorem ggX10_tick_X1_keep : GoodIn wsX10_tick wsX1_keep := goodIn_r _ [23, 24, 25, 26, 27, 28, 22, 29, 30, 31, 32, 33, 16, 34, 18, 35, 36, 37, 38, 39, 40, 41, 42, 43, 44, 45, 46, 47, 48, 49, 50, 51, 52, 53, 54, 55, 56, 57, 58, 59, 60, 61, 62, 63, 64, 65, 66, 200, 201, 202, 190, 191, 192, 193, 194, 195, 196, 197, 198, 199, 203, 204, 205, 206, 207, 208] (by decide +kernel) (by decide +kernel)
set_option maxRecDepth 20000 in
theorem gX10_tick_X1_keep : GoodIn wsX10_tick (wsV RX10 109 RX1 yX1_keep wsX1_keep) := goodIn_app (goodIn_of _ (by decide +kernel)) ggX10_tick_X1_keep
set_option maxRecDepth 20000 in
theorem ggX10_tick_X7_get : GoodIn wsX10_tick wsX7_get := goodIn_r _ [70, 71, 72, 49, 203, 204, 205] (by decide +kernel) (by decide +kernel)
set_option maxRecDepth 20000 in
theorem gX10_tick_X7_get : GoodIn wsX10_tick (wsV RX10 122 RX7 yX7_get wsX7_get) := goodIn_app (goodIn_of _ (by decide +kernel)) ggX10_tick_X7_get
set_option maxRecDepth 20000 in
theorem ggX10_tick_X8_run : GoodIn wsX10_tick wsX8_run := goodIn_r _ [76, 77, 78, 79, 80, 16, 81, 42, 82, 83, 84, 47, 85, 71, 72, 49, 86, 87, 75, 88, 89, 90, 91, 68, 69, 70, 92, 93, 94, 95, 96, 97, 98, 41, 99, 100, 101, 102, 103, 38, 104, 105, 52, 106, 107, 51, 53, 108, 109, 110, 111, 9, 112, 113, 114, 115, 116, 117, 118, 119, 120, 121, 122, 123, 124, 125, 126, 127, 37, 40, 128, 129, 130, 131, 132, 133, 134, 135, 136, 137, 138, 139, 140, 141, 142, 143, 144, 145, 146, 147, 148, 149, 150, 151, 152, 43, 153, 154, 155, 156, 157, 158, 159, 160, 161, 162, 163, 164, 165, 166, 167, 168, 169, 170, 171, 172, 173, 174, 175, 176, 177, 178, 179, 190, 191, 192, 193, 194, 195, 196, 197, 198, 199, 203, 204, 205, 206, 207, 208] (by decide +kernel) (by decide +kernel)
set_option maxRecDepth 20000 in
theorem gX10_tick_X8_run : GoodIn wsX10_tick (va_wsS RX10 135 yX8_run wsX8_run) := goodIn_app (goodIn_of _ (by decide +kernel)) ggX10_tick_X8_run
set_option maxRecDepth 20000 in
theorem ggX10_give_X10_needRoof : GoodIn wsX10_give wsX10_needRoof := goodIn_ca (goodIn_r _ [10, 11, 12, 3, 13, 93, 94, 95, 96, 97, 98, 99, 100, 101, 102, 103, 104, 105, 106, 107, 108, 109, 110, 111, 112] (by decide +kernel) (by decide +kernel)) (goodIn_sub (fun _ h => List.mem_cons_of_mem _ (List.mem_append_left _ (List.mem_append_right _ h))) (by decide +kernel))
set_option maxRecDepth 20000 in
theorem gX10_give_X10_needRoof : GoodIn wsX10_give (wsV RX10 180 RX10 yX10_needRoof wsX10_needRoof) := goodIn_app (goodIn_of _ (by decide +kernel)) ggX10_give_X10_needRoof
set_option maxRecDepth 20000 in
theorem ggX10_give_X10_needNumber : GoodIn wsX10_give wsX10_needNumber := goodIn_ca (goodIn_r _ [17, 18, 19] (by decide +kernel) (by decide +kernel)) (goodIn_sub (fun _ h => List.mem_cons_of_mem _ (List.mem_append_right _ h)) (by decide +kernel))
set_option maxRecDepth 20000 in
theorem gX10_give_X10_needNumber : GoodIn wsX10_give (wsV RX10 168 RX10 yX10_needNumber wsX10_needNumber) := goodIn_app (goodIn_of _ (by decide +kernel)) ggX10_give_X10_needNumber
set_option maxRecDepth 20000 in
theorem ggX10_give_X2_hasRoomFor : GoodIn wsX10_give wsX2_hasRoomFor := goodIn_r _ [24, 25, 26, 27, 28, 29, 30, 31, 32, 33, 103, 104, 105, 106, 107, 108, 109, 110, 111, 112, 113, 114, 115] (by decide +kernel) (by decide +kernel)
set_option maxRecDepth 20000 in
theorem gX10_give_X2_hasRoomFor : GoodIn wsX10_give (wsV RX10 141 RX2 yX2_hasRoomFor wsX2_hasRoomFor) := goodIn_app (goodIn_of _ (by decide +kernel)) ggX10_give_X2_hasRoomFor
set_option maxRecDepth 20000 in
theorem ggX10_give_X1_keep : GoodIn wsX10_give wsX1_keep := goodIn_r _ [38, 39, 40, 41, 42, 43, 37, 44, 45, 46, 47, 48, 23, 49, 50, 51, 52, 53, 25, 54, 55, 56, 57, 58, 59, 60, 61, 29, 62, 33, 63, 64, 65, 66, 67, 68, 69, 70, 71, 72, 73, 74, 75, 76, 77, 78, 79, 116, 117, 118, 103, 104, 105, 106, 107, 108, 109, 110, 111, 112, 113, 114, 115, 119, 120, 121] (by decide +kernel) (by decide +kernel)
set_option maxRecDepth 20000 in
theorem gX10_give_X1_keep : GoodIn wsX10_give (wsV RX10 109 RX1 yX1_keep wsX1_keep) := goodIn_app (goodIn_of _ (by decide +kernel)) ggX10_give_X1_keep
set_option maxRecDepth 20000 in
theorem ggX10_give_X2_takeCoins : GoodIn wsX10_give wsX2_takeCoins := goodIn_r _ [83, 25, 84, 85, 86, 29, 87, 31, 32, 33, 88, 89, 90, 23, 91, 57, 103, 104, 105, 106, 107, 108, 109, 110, 111, 112, 113, 114, 115] (by decide +kernel) (by decide +kernel)
set_option maxRecDepth 20000 in
theorem gX10_give_X2_takeCoins : GoodIn wsX10_give (wsV RX10 145 RX2 yX2_takeCoins wsX2_takeCoins) := goodIn_app (goodIn_of _ (by decide +kernel)) ggX10_give_X2_takeCoins
set_option maxRecDepth 20000 in
theorem ggX10_give_X7_get : GoodIn wsX10_give wsX7_get := goodIn_r _ [30, 31, 32, 33, 113, 114, 115] (by decide +kernel) (by decide +kernel)
set_option maxRecDepth 20000 in
theorem gX10_give_X7_get : GoodIn wsX10_give (wsV RX10 122 RX7 yX7_get wsX7_get) := goodIn_app (goodIn_of _ (by decide +kernel)) ggX10_give_X7_get
set_option maxRecDepth 20000 in
theorem ggX10_cut_X10_needRoof : GoodIn wsX10_cut wsX10_needRoof := goodIn_ca (goodIn_r _ [10, 11, 12, 3, 13, 125, 126, 127, 128, 129, 130, 131, 132, 133, 134, 135, 136, 137, 138, 139, 140, 141, 142, 143, 144] (by decide +kernel) (by decide +kernel)) (goodIn_sub (fun _ h => List.mem_cons_of_mem _ (List.mem_append_right _ h)) (by decide +kernel))
set_option maxRecDepth 20000 in
theorem gX10_cut_X10_needRoof : GoodIn wsX10_cut (wsV RX10 180 RX10 yX10_needRoof wsX10_needRoof) := goodIn_app (goodIn_of _ (by decide +kernel)) ggX10_cut_X10_needRoof
set_option maxRecDepth 20000 in
theorem ggX10_cut_X2_wayBetween : GoodIn wsX10_cut wsX2_wayBetween := goodIn_r _ [18, 19, 20, 21, 22, 17, 23, 24, 25, 26, 27, 28, 29, 30, 31, 32, 135, 136, 137, 138, 139, 140, 141, 142, 143, 144, 145, 146, 147] (by decide +kernel) (by decide +kernel)
set_option maxRecDepth 20000 in
theorem gX10_cut_X2_wayBetween : GoodIn wsX10_cut (wsV RX10 295 RX2 yX2_wayBetween wsX2_wayBetween) := goodIn_app (goodIn_of _ (by decide +kernel)) ggX10_cut_X2_wayBetween
set_option maxRecDepth 20000 in
theorem ggX10_cut_X1_keep : GoodIn wsX10_cut wsX1_keep := goodIn_r _ [37, 38, 39, 40, 41, 42, 36, 43, 44, 45, 46, 47, 17, 48, 49, 50, 19, 51, 52, 24, 53, 54, 55, 56, 57, 58, 59, 28, 60, 32, 61, 62, 63, 64, 65, 66, 67, 68, 69, 70, 71, 72, 73, 74, 75, 76, 77, 148, 149, 150, 135, 136, 137, 138, 139, 140, 141, 142, 143, 144, 145, 146, 147, 151, 152, 153] (by decide +kernel) (by decide +kernel)
set_option maxRecDepth 20000 in
theorem gX10_cut_X1_keep : GoodIn wsX10_cut (wsV RX10 109 RX1 yX1_keep wsX1_keep) := goodIn_app (goodIn_of _ (by decide +kernel)) ggX10_cut_X1_keep
set_option maxRecDepth 20000 in
theorem ggX10_cut_X2_cutWay : GoodIn wsX10_cut wsX2_cutWay := goodIn_r _ [81, 24, 19, 56, 82, 15, 16, 17, 18, 20, 21, 22, 23, 25, 26, 27, 28, 29, 30, 31, 32, 83, 84, 85, 86, 87, 88, 89, 90, 91, 92, 93, 94, 72, 95, 96, 97, 98, 75, 99, 100, 101, 102, 74, 76, 103, 104, 105, 106, 107, 108, 109, 110, 111, 112, 113, 114, 115, 116, 117, 118, 119, 120, 121, 122, 123, 124, 135, 136, 137, 138, 139, 140, 141, 142, 143, 144, 145, 146, 147, 151, 152, 153] (by decide +kernel) (by decide +kernel)
set_option maxRecDepth 20000 in
theorem gX10_cut_X2_cutWay : GoodIn wsX10_cut (wsV RX10 149 RX2 yX2_cutWay wsX2_cutWay) := goodIn_app (goodIn_of _ (by decide +kernel)) ggX10_cut_X2_cutWay
set_option maxRecDepth 20000 in
theorem ggX10_set_X10_needNumber : GoodIn wsX10_set wsX10_needNumber := goodIn_ca (goodIn_r _ [7, 8, 9] (by decide +kernel) (by decide +kernel)) (goodIn_sub (fun _ h => List.mem_cons_of_mem _ (List.mem_append_right _ h)) (by decide +kernel))
set_option maxRecDepth 20000 in
theorem gX10_set_X10_needNumber : GoodIn wsX10_set (wsV RX10 168 RX10 yX10_needNumber wsX10_needNumber) := goodIn_app (goodIn_of _ (by decide +kernel)) ggX10_set_X10_needNumber
set_option maxRecDepth 20000 in
theorem ggX10_set_X2_leastOf : GoodIn wsX10_set wsX2_leastOf := goodIn_r _ [13] (by decide +kernel) (by decide +kernel)
set_option maxRecDepth 20000 in
theorem gX10_set_X2_leastOf : GoodIn wsX10_set (va_wsS RX10 300 yX2_leastOf wsX2_leastOf) := goodIn_app (goodIn_of _ (by decide +kernel)) ggX10_set_X2_leastOf
set_option maxRecDepth 20000 in
theorem ggX10_set_X2_mostOf : GoodIn wsX10_set wsX2_mostOf := goodIn_r _ [16] (by decide +kernel) (by decide +kernel)
set_option maxRecDepth 20000 in
theorem gX10_set_X2_mostOf : GoodIn wsX10_set (va_wsS RX10 303 yX2_mostOf wsX2_mostOf) := goodIn_app (goodIn_of _ (by decide +kernel)) ggX10_set_X2_mostOf
set_option maxRecDepth 20000 in
theorem ggX10_set_X1_keep : GoodIn wsX10_set wsX1_keep := goodIn_r _ [21, 22, 23, 24, 25, 26, 20, 27, 28, 29, 30, 31, 12, 32, 33, 34, 35, 36, 37, 38, 39, 40, 41, 42, 43, 44, 45, 46, 47, 48, 49, 50, 51, 52, 53, 54, 55, 56, 57, 58, 59, 60, 61, 62, 63, 64, 65, 94, 95, 96, 97, 98, 99, 100, 101, 102, 103, 104, 105, 106, 107, 108, 109, 110, 111, 112] (by decide +kernel) (by decide +kernel)
set_option maxRecDepth 20000 in
theorem gX10_set_X1_keep : GoodIn wsX10_set (wsV RX10 109 RX1 yX1_keep wsX1_keep) := goodIn_app (goodIn_of _ (by decide +kernel)) ggX10_set_X1_keep
set_option maxRecDepth 20000 in
theorem ggX10_set_X2_setting : GoodIn wsX10_set wsX2_setting := goodIn_r _ [69, 40, 70, 71, 72, 46, 73, 74, 75, 48, 97, 98, 99, 100, 101, 102, 103, 104, 105, 106, 107, 108, 109] (by decide +kernel) (by decide +kernel)
set_option maxRecDepth 20000 in
theorem gX10_set_X2_setting : GoodIn wsX10_set (wsV RX10 235 RX2 yX2_setting wsX2_setting) := goodIn_app (goodIn_of _ (by decide +kernel)) ggX10_set_X2_setting
set_option maxRecDepth 20000 in
theorem ggX10_set_X2_settle : GoodIn wsX10_set wsX2_settle := goodIn_r _ [79, 40, 80, 81, 82, 46, 83, 74, 75, 48, 97, 98, 99, 100, 101, 102, 103, 104, 105, 106, 107, 108, 109] (by decide +kernel) (by decide +kernel)
set_option maxRecDepth 20000 in
theorem gX10_set_X2_settle : GoodIn wsX10_set (wsV RX10 152 RX2 yX2_settle wsX2_settle) := goodIn_app (goodIn_of _ (by decide +kernel)) ggX10_set_X2_settle
set_option maxRecDepth 20000 in
theorem ggX10_undo_X1_size : GoodIn wsX10_undo wsX1_size := goodIn_r _ [9, 10, 69, 70, 71] (by decide +kernel) (by decide +kernel)
set_option maxRecDepth 20000 in
theorem gX10_undo_X1_size : GoodIn wsX10_undo (wsV RX10 172 RX1 yX1_size wsX1_size) := goodIn_app (goodIn_of _ (by decide +kernel)) ggX10_undo_X1_size
set_option maxRecDepth 20000 in
theorem ggX10_undo_X1_giveBack : GoodIn wsX10_undo wsX1_giveBack := goodIn_r _ [14, 10, 15, 16, 17, 8, 18, 19, 20, 21, 22, 23, 24, 25, 26, 27, 28, 29, 30, 31, 32, 33, 34, 35, 36, 37, 38, 39, 40, 41, 42, 43, 44, 45, 46, 47, 48, 49, 50, 51, 52, 53, 54, 55, 56, 57, 58, 69, 70, 71, 72, 73, 74, 75, 76, 77, 78, 79, 80, 81, 82, 83, 84, 85, 86, 87] (by decide +kernel) (by decide +kernel)
set_option maxRecDepth 20000 in
theorem gX10_undo_X1_giveBack : GoodIn wsX10_undo (wsV RX10 311 RX1 yX1_giveBack wsX1_giveBack) := goodIn_app (goodIn_of _ (by decide +kernel)) ggX10_undo_X1_giveBack
set_option maxRecDepth 20000 in
theorem ggX10_printRoofs_X0_clear : GoodIn wsX10_printRoofs wsX0_clear := goodIn_r _ [10, 11, 81, 82] (by decide +kernel) (by decide +kernel)
set_option maxRecDepth 20000 in
theorem gX10_printRoofs_X0_clear : GoodIn wsX10_printRoofs (wsV RX10 84 RX0 yX0_clear wsX0_clear) := goodIn_app (goodIn_of _ (by decide +kernel)) ggX10_printRoofs_X0_clear
set_option maxRecDepth 20000 in
theorem ggX10_printRoofs_X0_add : GoodIn wsX10_printRoofs wsX0_add := goodIn_r _ [15, 11, 16, 81, 82] (by decide +kernel) (by decide +kernel)
set_option maxRecDepth 20000 in
theorem gX10_printRoofs_X0_add : GoodIn wsX10_printRoofs (wsV RX10 94 RX0 yX0_add wsX0_add) := goodIn_app (goodIn_of _ (by decide +kernel)) ggX10_printRoofs_X0_add
set_option maxRecDepth 20000 in
theorem ggX10_printRoofs_X10_writeName : GoodIn wsX10_printRoofs wsX10_writeName := goodIn_r _ [21, 2, 1, 22, 23, 24, 25, 26, 27, 28, 29, 30, 31, 32, 33, 34, 35, 12, 13, 14, 9, 15, 11, 16, 61, 62, 63, 64, 65, 66, 67, 68, 69, 70, 71, 72, 73, 74, 75, 76, 77, 78, 79, 80, 83, 84, 85, 81, 82] (by decide +kernel) (by decide +kernel)
set_option maxRecDepth 20000 in
theorem gX10_printRoofs_X10_writeName : GoodIn wsX10_printRoofs (wsV RX10 314 RX10 yX10_writeName wsX10_writeName) := goodIn_app (goodIn_of _ (by decide +kernel)) ggX10_printRoofs_X10_writeName
set_option maxRecDepth 20000 in
theorem ggX10_printRoofs_X7_get : GoodIn wsX10_printRoofs wsX7_get := goodIn_r _ [32, 33, 34, 35, 83, 84, 85] (by decide +kernel) (by decide +kernel)
set_option maxRecDepth 20000 in
theorem gX10_printRoofs_X7_get : GoodIn wsX10_printRoofs (wsV RX10 122 RX7 yX7_get wsX7_get) := goodIn_app (goodIn_of _ (by decide +kernel)) ggX10_printRoofs_X7_get
set_option maxRecDepth 20000 in
theorem ggX10_printRoofs_X0_addNumber : GoodIn wsX10_printRoofs wsX0_addNumber := goodIn_r _ [40, 41, 42, 13, 14, 9, 15, 11, 16, 81, 82] (by decide +kernel) (by decide +kernel)
set_option maxRecDepth 20000 in
theorem gX10_printRoofs_X0_addNumber : GoodIn wsX10_printRoofs (wsV RX10 317 RX0 yX0_addNumber wsX0_addNumber) := goodIn_app (goodIn_of _ (by decide +kernel)) ggX10_printRoofs_X0_addNumber
set_option maxRecDepth 20000 in
theorem ggX10_printRoofs_X2_isBusy : GoodIn wsX10_printRoofs wsX2_isBusy := goodIn_r _ [46, 27, 28, 29, 30, 31, 32, 33, 34, 35, 71, 72, 73, 74, 75, 76, 77, 78, 79, 80, 83, 84, 85] (by decide +kernel) (by decide +kernel)
set_option maxRecDepth 20000 in
theorem gX10_printRoofs_X2_isBusy : GoodIn wsX10_printRoofs (wsV RX10 323 RX2 yX2_isBusy wsX2_isBusy) := goodIn_app (goodIn_of _ (by decide +kernel)) ggX10_printRoofs_X2_isBusy
set_option maxRecDepth 20000 in
theorem ggX10_printRoofs_X2_tunesAt : GoodIn wsX10_printRoofs wsX2_tunesAt := goodIn_r _ [50, 51, 52, 53, 54, 25, 55, 56, 28, 29, 30, 31, 32, 33, 34, 35, 71, 72, 73, 74, 75, 76, 77, 78, 79, 80, 83, 84, 85] (by decide +kernel) (by decide +kernel)
set_option maxRecDepth 20000 in
theorem gX10_printRoofs_X2_tunesAt : GoodIn wsX10_printRoofs (wsV RX10 326 RX2 yX2_tunesAt wsX2_tunesAt) := goodIn_app (goodIn_of _ (by decide +kernel)) ggX10_printRoofs_X2_tunesAt
set_option maxRecDepth 20000 in
theorem ggX10_printRoofs_X0_size : GoodIn wsX10_printRoofs wsX0_size := goodIn_r _ [60, 11, 81, 82] (by decide +kernel) (by decide +kernel)
set_option maxRecDepth 20000 in
theorem gX10_printRoofs_X0_size : GoodIn wsX10_printRoofs (wsV RX10 87 RX0 yX0_size wsX0_size) := goodIn_app (goodIn_of _ (by decide +kernel)) ggX10_printRoofs_X0_size
set_option maxRecDepth 20000 in
theorem ggX10_writeName_X2_letterOf : GoodIn wsX10_writeName wsX2_letterOf := goodIn_r _ [7, 8, 9, 10, 11, 12, 13, 14, 15, 16, 34, 35, 36, 37, 38, 39, 40, 41, 42, 43, 44, 45, 46] (by decide +kernel) (by decide +kernel)
set_option maxRecDepth 20000 in
theorem gX10_writeName_X2_letterOf : GoodIn wsX10_writeName (wsV RX10 183 RX2 yX2_letterOf wsX2_letterOf) := goodIn_app (goodIn_of _ (by decide +kernel)) ggX10_writeName_X2_letterOf
set_option maxRecDepth 20000 in
theorem ggX10_writeName_X0_add : GoodIn wsX10_writeName wsX0_add := goodIn_r _ [21, 22, 23, 47, 48] (by decide +kernel) (by decide +kernel)
set_option maxRecDepth 20000 in
theorem gX10_writeName_X0_add : GoodIn wsX10_writeName (wsV RX10 94 RX0 yX0_add wsX0_add) := goodIn_app (goodIn_of _ (by decide +kernel)) ggX10_writeName_X0_add
set_option maxRecDepth 20000 in
theorem ggX10_printTune_X10_needTune : GoodIn wsX10_printTune wsX10_needTune := goodIn_ca (goodIn_r _ [8, 9, 10, 2, 11, 55, 56, 57, 58, 59, 60, 61, 62, 63, 64, 65, 66, 67, 68, 69, 70, 71, 72, 73, 74] (by decide +kernel) (by decide +kernel)) (goodIn_sub (fun _ h => List.mem_cons_of_mem _ (List.mem_append_right _ h)) (by decide +kernel))
set_option maxRecDepth 20000 in
theorem gX10_printTune_X10_needTune : GoodIn wsX10_printTune (wsV RX10 210 RX10 yX10_needTune wsX10_needTune) := goodIn_app (goodIn_of _ (by decide +kernel)) ggX10_printTune_X10_needTune
set_option maxRecDepth 20000 in
theorem ggX10_printTune_X0_clear : GoodIn wsX10_printTune wsX0_clear := goodIn_r _ [16, 17, 75, 76] (by decide +kernel) (by decide +kernel)
set_option maxRecDepth 20000 in
theorem gX10_printTune_X0_clear : GoodIn wsX10_printTune (wsV RX10 84 RX0 yX0_clear wsX0_clear) := goodIn_app (goodIn_of _ (by decide +kernel)) ggX10_printTune_X0_clear
set_option maxRecDepth 20000 in
theorem ggX10_printTune_X7_get : GoodIn wsX10_printTune wsX7_get := goodIn_r _ [22, 23, 24, 25, 77, 78, 79] (by decide +kernel) (by decide +kernel)
set_option maxRecDepth 20000 in
theorem gX10_printTune_X7_get : GoodIn wsX10_printTune (wsV RX10 122 RX7 yX7_get wsX7_get) := goodIn_app (goodIn_of _ (by decide +kernel)) ggX10_printTune_X7_get
set_option maxRecDepth 20000 in
theorem ggX10_printTune_X10_noteOf : GoodIn wsX10_printTune wsX10_noteOf := goodIn_r _ [28] (by decide +kernel) (by decide +kernel)
set_option maxRecDepth 20000 in
theorem gX10_printTune_X10_noteOf : GoodIn wsX10_printTune (va_wsS RX10 219 yX10_noteOf wsX10_noteOf) := goodIn_app (goodIn_of _ (by decide +kernel)) ggX10_printTune_X10_noteOf
set_option maxRecDepth 20000 in
theorem ggX10_printTune_X0_addNumber : GoodIn wsX10_printTune wsX0_addNumber := goodIn_r _ [32, 33, 34, 35, 36, 15, 37, 17, 38, 75, 76] (by decide +kernel) (by decide +kernel)
set_option maxRecDepth 20000 in
theorem gX10_printTune_X0_addNumber : GoodIn wsX10_printTune (wsV RX10 317 RX0 yX0_addNumber wsX0_addNumber) := goodIn_app (goodIn_of _ (by decide +kernel)) ggX10_printTune_X0_addNumber
set_option maxRecDepth 20000 in
theorem ggX10_printTune_X0_add : GoodIn wsX10_printTune wsX0_add := goodIn_r _ [37, 17, 38, 75, 76] (by decide +kernel) (by decide +kernel)
set_option maxRecDepth 20000 in
theorem gX10_printTune_X0_add : GoodIn wsX10_printTune (wsV RX10 94 RX0 yX0_add wsX0_add) := goodIn_app (goodIn_of _ (by decide +kernel)) ggX10_printTune_X0_add
set_option maxRecDepth 20000 in
theorem ggX10_printTune_X10_writeName : GoodIn wsX10_printTune wsX10_writeName := goodIn_r _ [43, 2, 1, 44, 45, 46, 47, 48, 49, 50, 19, 20, 21, 22, 23, 24, 25, 39, 35, 36, 15, 37, 17, 38, 55, 56, 57, 58, 59, 60, 61, 62, 63, 64, 65, 66, 67, 68, 69, 70, 71, 72, 73, 74, 77, 78, 79, 75, 76] (by decide +kernel) (by decide +kernel)
set_option maxRecDepth 20000 in
theorem gX10_printTune_X10_writeName : GoodIn wsX10_printTune (wsV RX10 314 RX10 yX10_writeName wsX10_writeName) := goodIn_app (goodIn_of _ (by decide +kernel)) ggX10_printTune_X10_writeName
set_option maxRecDepth 20000 in
theorem ggX10_printTune_X0_size : GoodIn wsX10_printTune wsX0_size := goodIn_r _ [54, 17, 75, 76] (by decide +kernel) (by decide +kernel)
set_option maxRecDepth 20000 in
theorem gX10_printTune_X0_size : GoodIn wsX10_printTune (wsV RX10 87 RX0 yX0_size wsX0_size) := goodIn_app (goodIn_of _ (by decide +kernel)) ggX10_printTune_X0_size
set_option maxRecDepth 20000 in
theorem ggX10_outputByte_X0_get : GoodIn wsX10_outputByte wsX0_get := goodIn_r _ [6, 7, 8, 19, 20] (by decide +kernel) (by decide +kernel)
set_option maxRecDepth 20000 in
theorem gX10_outputByte_X0_get : GoodIn wsX10_outputByte (wsV RX10 329 RX0 yX0_get wsX0_get) := goodIn_app (goodIn_of _ (by decide +kernel)) ggX10_outputByte_X0_get
set_option maxRecDepth 20000 in
theorem ggX10_saveState_X2_copyFrom : GoodIn wsX10_saveState wsX2_copyFrom := goodIn_r _ [9, 10, 11, 12, 13, 14, 15, 16, 17, 18, 19, 20, 21, 22, 23, 24, 25, 26, 27, 28, 29, 30, 31, 32, 33, 34, 35, 36, 37, 38, 39, 40, 41, 42, 53, 54, 55, 56, 57, 58, 59, 60, 61, 62, 63, 64, 65, 66, 67, 68] (by decide +kernel) (by decide +kernel)
set_option maxRecDepth 20000 in
theorem gX10_saveState_X2_copyFrom : GoodIn wsX10_saveState (wsV RX10 80 RX2 yX2_copyFrom wsX2_copyFrom) := goodIn_app (goodIn_of _ (by decide +kernel)) ggX10_saveState_X2_copyFrom
