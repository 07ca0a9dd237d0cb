set_option maxRecDepth 20000 in
theorem ggX11_nameByte_X11_isRoof : GoodIn wsX11_nameByte wsX11_isRoof := goodIn_r _ [6, 1, 7, 8, 5, 9, 18, 19, 20, 21, 22, 23, 24, 25, 26, 27, 28, 29, 30, 31, 32, 33, 34, 35, 36, 37, 38, 39, 40, 41, 42, 43, 44, 45] (by decide +kernel) (by decide +kernel)
set_option maxRecDepth 20000 in
theorem gX11_nameByte_X11_isRoof : GoodIn wsX11_nameByte (wsV RX11 380 RX11 yX11_isRoof wsX11_isRoof) := goodIn_app (goodIn_of _ (by decide +kernel)) ggX11_nameByte_X11_isRoof
set_option maxRecDepth 20000 in
theorem ggX11_nameByte_X11_may : GoodIn wsX11_nameByte wsX11_may := goodIn_r _ [13, 14, 18, 19, 20, 21, 22, 23, 24, 25, 26, 27, 28, 29, 30, 31, 32, 33, 34, 35, 36, 37, 38, 39, 40, 41, 42, 43, 44, 45] (by decide +kernel) (by decide +kernel)
set_option maxRecDepth 20000 in
theorem gX11_nameByte_X11_may : GoodIn wsX11_nameByte (wsV RX11 365 RX11 yX11_may wsX11_may) := goodIn_app (goodIn_of _ (by decide +kernel)) ggX11_nameByte_X11_may
set_option maxRecDepth 20000 in
theorem ggX11_nameByte_X11_r : GoodIn wsX11_nameByte wsX11_r := goodIn_r _ [17] (by decide +kernel) (by decide +kernel)
set_option maxRecDepth 20000 in
theorem gX11_nameByte_X11_r : GoodIn wsX11_nameByte (va_wsS RX11 84 yX11_r wsX11_r) := goodIn_app (goodIn_of _ (by decide +kernel)) ggX11_nameByte_X11_r
set_option maxRecDepth 20000 in
theorem ggX11_nameByte_X11_in : GoodIn wsX11_nameByte wsX11_in := goodIn_r _ [9] (by decide +kernel) (by decide +kernel)
set_option maxRecDepth 20000 in
theorem gX11_nameByte_X11_in : GoodIn wsX11_nameByte (va_wsS RX11 199 yX11_in wsX11_in) := goodIn_app (goodIn_of _ (by decide +kernel)) ggX11_nameByte_X11_in
set_option maxRecDepth 20000 in
theorem ggX11_waitingMany_X11_waitsAt : GoodIn wsX11_waitingMany wsX11_waitsAt := goodIn_r _ [6, 1, 7, 8, 5, 9, 13, 14, 15, 16, 17, 18, 19, 20, 21, 22, 23, 24, 25, 26, 27, 28, 29, 30, 31, 32, 33, 34, 35, 36, 37, 38, 39, 40] (by decide +kernel) (by decide +kernel)
set_option maxRecDepth 20000 in
theorem gX11_waitingMany_X11_waitsAt : GoodIn wsX11_waitingMany (wsV RX11 157 RX11 yX11_waitsAt wsX11_waitsAt) := goodIn_app (goodIn_of _ (by decide +kernel)) ggX11_waitingMany_X11_waitsAt
set_option maxRecDepth 20000 in
theorem ggX11_waitingMany_X11_one : GoodIn wsX11_waitingMany wsX11_one := goodIn_r _ [12] (by decide +kernel) (by decide +kernel)
set_option maxRecDepth 20000 in
theorem gX11_waitingMany_X11_one : GoodIn wsX11_waitingMany (va_wsS RX11 115 yX11_one wsX11_one) := goodIn_app (goodIn_of _ (by decide +kernel)) ggX11_waitingMany_X11_one
set_option maxRecDepth 20000 in
theorem ggX11_waysAt_X11_ends : GoodIn wsX11_waysAt wsX11_ends := goodIn_r _ [6, 1, 7, 8, 5, 9, 13, 14, 15, 16, 17, 18, 19, 20, 21, 22, 23, 24, 25, 26, 27, 28, 29, 30, 31, 32, 33, 34, 35, 36, 37, 38, 39, 40] (by decide +kernel) (by decide +kernel)
set_option maxRecDepth 20000 in
theorem gX11_waysAt_X11_ends : GoodIn wsX11_waysAt (wsV RX11 91 RX11 yX11_ends wsX11_ends) := goodIn_app (goodIn_of _ (by decide +kernel)) ggX11_waysAt_X11_ends
set_option maxRecDepth 20000 in
theorem ggX11_waysAt_X11_one : GoodIn wsX11_waysAt wsX11_one := goodIn_r _ [12] (by decide +kernel) (by decide +kernel)
set_option maxRecDepth 20000 in
theorem gX11_waysAt_X11_one : GoodIn wsX11_waysAt (va_wsS RX11 115 yX11_one wsX11_one) := goodIn_app (goodIn_of _ (by decide +kernel)) ggX11_waysAt_X11_one
set_option maxRecDepth 20000 in
theorem ggX11_roof_X11_isRoof : GoodIn wsX11_roof wsX11_isRoof := goodIn_r _ [11, 2, 12, 13, 10, 14, 48, 49, 50, 51, 52, 53, 54, 55, 56, 57, 58, 59, 60, 61, 62, 63, 64, 65, 66, 67, 68, 69, 70, 71, 72, 73, 74, 75] (by decide +kernel) (by decide +kernel)
set_option maxRecDepth 20000 in
theorem gX11_roof_X11_isRoof : GoodIn wsX11_roof (wsV RX11 380 RX11 yX11_isRoof wsX11_isRoof) := goodIn_app (goodIn_of _ (by decide +kernel)) ggX11_roof_X11_isRoof
set_option maxRecDepth 20000 in
theorem ggX11_roof_X11_in : GoodIn wsX11_roof wsX11_in := goodIn_r _ [14] (by decide +kernel) (by decide +kernel)
set_option maxRecDepth 20000 in
theorem gX11_roof_X11_in : GoodIn wsX11_roof (va_wsS RX11 199 yX11_in wsX11_in) := goodIn_app (goodIn_of _ (by decide +kernel)) ggX11_roof_X11_in
set_option maxRecDepth 20000 in
theorem ggX11_roof_X11_may : GoodIn wsX11_roof wsX11_may := goodIn_r _ [18, 19, 48, 49, 50, 51, 52, 53, 54, 55, 56, 57, 58, 59, 60, 61, 62, 63, 64, 65, 66, 67, 68, 69, 70, 71, 72, 73, 74, 75] (by decide +kernel) (by decide +kernel)
set_option maxRecDepth 20000 in
theorem gX11_roof_X11_may : GoodIn wsX11_roof (wsV RX11 365 RX11 yX11_may wsX11_may) := goodIn_app (goodIn_of _ (by decide +kernel)) ggX11_roof_X11_may
set_option maxRecDepth 20000 in
theorem ggX11_roof_X11_r : GoodIn wsX11_roof wsX11_r := goodIn_r _ [22] (by decide +kernel) (by decide +kernel)
set_option maxRecDepth 20000 in
theorem gX11_roof_X11_r : GoodIn wsX11_roof (va_wsS RX11 84 yX11_r wsX11_r) := goodIn_app (goodIn_of _ (by decide +kernel)) ggX11_roof_X11_r
set_option maxRecDepth 20000 in
theorem ggX11_roof_X11_waitingMany : GoodIn wsX11_roof wsX11_waitingMany := goodIn_r _ [26, 2, 27, 28, 29, 10, 30, 31, 32, 33, 34, 35, 36, 48, 49, 50, 51, 52, 53, 54, 55, 56, 57, 58, 59, 60, 61, 62, 63, 64, 65, 66, 67, 68, 69, 70, 71, 72, 73, 74, 75] (by decide +kernel) (by decide +kernel)
set_option maxRecDepth 20000 in
theorem gX11_roof_X11_waitingMany : GoodIn wsX11_roof (wsV RX11 385 RX11 yX11_waitingMany wsX11_waitingMany) := goodIn_app (goodIn_of _ (by decide +kernel)) ggX11_roof_X11_waitingMany
set_option maxRecDepth 20000 in
theorem ggX11_roof_X11_waysAt : GoodIn wsX11_roof wsX11_waysAt := goodIn_r _ [40, 2, 41, 42, 43, 10, 44, 45, 46, 47, 34, 35, 36, 48, 49, 50, 51, 52, 53, 54, 55, 56, 57, 58, 59, 60, 61, 62, 63, 64, 65, 66, 67, 68, 69, 70, 71, 72, 73, 74, 75] (by decide +kernel) (by decide +kernel)
set_option maxRecDepth 20000 in
theorem gX11_roof_X11_waysAt : GoodIn wsX11_roof (wsV RX11 388 RX11 yX11_waysAt wsX11_waysAt) := goodIn_app (goodIn_of _ (by decide +kernel)) ggX11_roof_X11_waysAt
set_option maxRecDepth 20000 in
theorem ggX11_way_X11_in : GoodIn wsX11_way wsX11_in := goodIn_r _ [6] (by decide +kernel) (by decide +kernel)
set_option maxRecDepth 20000 in
theorem gX11_way_X11_in : GoodIn wsX11_way (va_wsS RX11 199 yX11_in wsX11_in) := goodIn_app (goodIn_of _ (by decide +kernel)) ggX11_way_X11_in
set_option maxRecDepth 20000 in
theorem ggX11_way_X11_may : GoodIn wsX11_way wsX11_may := goodIn_r _ [10, 11, 15, 16, 17, 18, 19, 20, 21, 22, 23, 24, 25, 26, 27, 28, 29, 30, 31, 32, 33, 34, 35, 36, 37, 38, 39, 40, 41, 42] (by decide +kernel) (by decide +kernel)
set_option maxRecDepth 20000 in
theorem gX11_way_X11_may : GoodIn wsX11_way (wsV RX11 365 RX11 yX11_may wsX11_may) := goodIn_app (goodIn_of _ (by decide +kernel)) ggX11_way_X11_may
set_option maxRecDepth 20000 in
theorem ggX11_way_X11_w : GoodIn wsX11_way wsX11_w := goodIn_r _ [14] (by decide +kernel) (by decide +kernel)
set_option maxRecDepth 20000 in
theorem gX11_way_X11_w : GoodIn wsX11_way (va_wsS RX11 88 yX11_w wsX11_w) := goodIn_app (goodIn_of _ (by decide +kernel)) ggX11_way_X11_w
set_option maxRecDepth 20000 in
theorem ggX11_route_X11_areRoofs : GoodIn wsX11_route wsX11_areRoofs := goodIn_r _ [5, 6, 7, 8, 4, 9, 10, 11, 12, 13, 39, 40, 41, 42, 43, 44, 45, 46, 47, 48, 49, 50, 51, 52, 53, 54, 55, 56, 57, 58, 59, 60, 61, 62, 63, 64, 65, 66] (by decide +kernel) (by decide +kernel)
set_option maxRecDepth 20000 in
theorem gX11_route_X11_areRoofs : GoodIn wsX11_route (wsV RX11 393 RX11 yX11_areRoofs wsX11_areRoofs) := goodIn_app (goodIn_of _ (by decide +kernel)) ggX11_route_X11_areRoofs
set_option maxRecDepth 20000 in
theorem ggX11_route_X11_may : GoodIn wsX11_route wsX11_may := goodIn_r _ [17, 18, 39, 40, 41, 42, 43, 44, 45, 46, 47, 48, 49, 50, 51, 52, 53, 54, 55, 56, 57, 58, 59, 60, 61, 62, 63, 64, 65, 66] (by decide +kernel) (by decide +kernel)
set_option maxRecDepth 20000 in
theorem gX11_route_X11_may : GoodIn wsX11_route (wsV RX11 365 RX11 yX11_may wsX11_may) := goodIn_app (goodIn_of _ (by decide +kernel)) ggX11_route_X11_may
set_option maxRecDepth 20000 in
theorem ggX11_route_X11_sumTo : GoodIn wsX11_route wsX11_sumTo := goodIn_r _ [22, 23, 24, 25, 26, 4, 27, 10, 28, 29, 30, 31, 32, 33, 34, 35, 36, 37, 38, 39, 40, 41, 42, 43, 44, 45, 46, 47, 48, 49, 50, 51, 52, 53, 54, 55, 56, 57, 58, 59, 60, 61, 62, 63, 64, 65, 66] (by decide +kernel) (by decide +kernel)
set_option maxRecDepth 20000 in
theorem gX11_route_X11_sumTo : GoodIn wsX11_route (wsV RX11 106 RX11 yX11_sumTo wsX11_sumTo) := goodIn_app (goodIn_of _ (by decide +kernel)) ggX11_route_X11_sumTo
set_option maxRecDepth 20000 in
theorem ggX11_next_X11_areRoofs : GoodIn wsX11_next wsX11_areRoofs := goodIn_r _ [5, 6, 7, 8, 4, 9, 10, 11, 12, 13, 47, 48, 49, 50, 51, 52, 53, 54, 55, 56, 57, 58, 59, 60, 61, 62, 63, 64, 65, 66, 67, 68, 69, 70, 71, 72, 73, 74] (by decide +kernel) (by decide +kernel)
set_option maxRecDepth 20000 in
theorem gX11_next_X11_areRoofs : GoodIn wsX11_next (wsV RX11 393 RX11 yX11_areRoofs wsX11_areRoofs) := goodIn_app (goodIn_of _ (by decide +kernel)) ggX11_next_X11_areRoofs
set_option maxRecDepth 20000 in
theorem ggX11_next_X11_may : GoodIn wsX11_next wsX11_may := goodIn_r _ [17, 18, 47, 48, 49, 50, 51, 52, 53, 54, 55, 56, 57, 58, 59, 60, 61, 62, 63, 64, 65, 66, 67, 68, 69, 70, 71, 72, 73, 74] (by decide +kernel) (by decide +kernel)
set_option maxRecDepth 20000 in
theorem gX11_next_X11_may : GoodIn wsX11_next (wsV RX11 365 RX11 yX11_may wsX11_may) := goodIn_app (goodIn_of _ (by decide +kernel)) ggX11_next_X11_may
set_option maxRecDepth 20000 in
theorem ggX11_next_X11_nextTo : GoodIn wsX11_next wsX11_nextTo := goodIn_r _ [22, 10, 23, 24, 25, 26, 4, 27, 28, 29, 30, 31, 32, 33, 34, 35, 36, 37, 38, 39, 40, 41, 42, 43, 44, 45, 46, 47, 48, 49, 50, 51, 52, 53, 54, 55, 56, 57, 58, 59, 60, 61, 62, 63, 64, 65, 66, 67, 68, 69, 70, 71, 72, 73, 74] (by decide +kernel) (by decide +kernel)
set_option maxRecDepth 20000 in
theorem gX11_next_X11_nextTo : GoodIn wsX11_next (wsV RX11 166 RX11 yX11_nextTo wsX11_nextTo) := goodIn_app (goodIn_of _ (by decide +kernel)) ggX11_next_X11_nextTo
set_option maxRecDepth 20000 in
theorem ggX11_tune_X11_isTune : GoodIn wsX11_tune wsX11_isTune := goodIn_r _ [7, 2, 8, 9, 6, 10, 34, 35, 36, 37, 38, 39, 40, 41, 42, 43, 44, 45, 46, 47, 48, 49, 50, 51, 52, 53, 54, 55, 56, 57, 58, 59, 60, 61] (by decide +kernel) (by decide +kernel)
set_option maxRecDepth 20000 in
theorem gX11_tune_X11_isTune : GoodIn wsX11_tune (wsV RX11 396 RX11 yX11_isTune wsX11_isTune) := goodIn_app (goodIn_of _ (by decide +kernel)) ggX11_tune_X11_isTune
set_option maxRecDepth 20000 in
theorem ggX11_tune_X11_in : GoodIn wsX11_tune wsX11_in := goodIn_r _ [10] (by decide +kernel) (by decide +kernel)
set_option maxRecDepth 20000 in
theorem gX11_tune_X11_in : GoodIn wsX11_tune (va_wsS RX11 199 yX11_in wsX11_in) := goodIn_app (goodIn_of _ (by decide +kernel)) ggX11_tune_X11_in
set_option maxRecDepth 20000 in
theorem ggX11_tune_X11_may : GoodIn wsX11_tune wsX11_may := goodIn_r _ [14, 15, 34, 35, 36, 37, 38, 39, 40, 41, 42, 43, 44, 45, 46, 47, 48, 49, 50, 51, 52, 53, 54, 55, 56, 57, 58, 59, 60, 61] (by decide +kernel) (by decide +kernel)
set_option maxRecDepth 20000 in
theorem gX11_tune_X11_may : GoodIn wsX11_tune (wsV RX11 365 RX11 yX11_may wsX11_may) := goodIn_app (goodIn_of _ (by decide +kernel)) ggX11_tune_X11_may
set_option maxRecDepth 20000 in
theorem ggX11_tune_X11_bars : GoodIn wsX11_tune wsX11_bars := goodIn_r _ [19, 2, 20, 21, 6, 22, 23, 24, 25, 26, 34, 35, 36, 37, 38, 39, 40, 41, 42, 43, 44, 45, 46, 47, 48, 49, 50, 51, 52, 53, 54, 55, 56, 57, 58, 59, 60, 61] (by decide +kernel) (by decide +kernel)
set_option maxRecDepth 20000 in
theorem gX11_tune_X11_bars : GoodIn wsX11_tune (wsV RX11 154 RX11 yX11_bars wsX11_bars) := goodIn_app (goodIn_of _ (by decide +kernel)) ggX11_tune_X11_bars
set_option maxRecDepth 20000 in
theorem ggX11_tune_X11_unlike : GoodIn wsX11_tune wsX11_unlike := goodIn_r _ [30, 2, 20, 21, 6, 22, 31, 32, 33, 34, 35, 36, 37, 38, 39, 40, 41, 42, 43, 44, 45, 46, 47, 48, 49, 50, 51, 52, 53, 54, 55, 56, 57, 58, 59, 60, 61] (by decide +kernel) (by decide +kernel)
set_option maxRecDepth 20000 in
theorem gX11_tune_X11_unlike : GoodIn wsX11_tune (wsV RX11 141 RX11 yX11_unlike wsX11_unlike) := goodIn_app (goodIn_of _ (by decide +kernel)) ggX11_tune_X11_unlike
set_option maxRecDepth 20000 in
theorem ggX11_tune_X11_t : GoodIn wsX11_tune wsX11_t := goodIn_r _ [22] (by decide +kernel) (by decide +kernel)
set_option maxRecDepth 20000 in
theorem gX11_tune_X11_t : GoodIn wsX11_tune (va_wsS RX11 109 yX11_t wsX11_t) := goodIn_app (goodIn_of _ (by decide +kernel)) ggX11_tune_X11_t
set_option maxRecDepth 20000 in
theorem ggX11_note_X11_isTune : GoodIn wsX11_note wsX11_isTune := goodIn_r _ [6, 1, 7, 8, 5, 9, 18, 19, 20, 21, 22, 23, 24, 25, 26, 27, 28, 29, 30, 31, 32, 33, 34, 35, 36, 37, 38, 39, 40, 41, 42, 43, 44, 45] (by decide +kernel) (by decide +kernel)
set_option maxRecDepth 20000 in
theorem gX11_note_X11_isTune : GoodIn wsX11_note (wsV RX11 396 RX11 yX11_isTune wsX11_isTune) := goodIn_app (goodIn_of _ (by decide +kernel)) ggX11_note_X11_isTune
set_option maxRecDepth 20000 in
theorem ggX11_note_X11_may : GoodIn wsX11_note wsX11_may := goodIn_r _ [13, 14, 18, 19, 20, 21, 22, 23, 24, 25, 26, 27, 28, 29, 30, 31, 32, 33, 34, 35, 36, 37, 38, 39, 40, 41, 42, 43, 44, 45] (by decide +kernel) (by decide +kernel)
set_option maxRecDepth 20000 in
theorem gX11_note_X11_may : GoodIn wsX11_note (wsV RX11 365 RX11 yX11_may wsX11_may) := goodIn_app (goodIn_of _ (by decide +kernel)) ggX11_note_X11_may
set_option maxRecDepth 20000 in
theorem ggX11_note_X11_t : GoodIn wsX11_note wsX11_t := goodIn_r _ [17] (by decide +kernel) (by decide +kernel)
set_option maxRecDepth 20000 in
theorem gX11_note_X11_t : GoodIn wsX11_note (va_wsS RX11 109 yX11_t wsX11_t) := goodIn_app (goodIn_of _ (by decide +kernel)) ggX11_note_X11_t
set_option maxRecDepth 20000 in
theorem ggX11_note_X11_in : GoodIn wsX11_note wsX11_in := goodIn_r _ [9] (by decide +kernel) (by decide +kernel)
set_option maxRecDepth 20000 in
theorem gX11_note_X11_in : GoodIn wsX11_note (va_wsS RX11 199 yX11_in wsX11_in) := goodIn_app (goodIn_of _ (by decide +kernel)) ggX11_note_X11_in
set_option maxRecDepth 20000 in
theorem ggX11_placeOf_X11_bars : GoodIn wsX11_placeOf wsX11_bars := goodIn_r _ [6, 1, 7, 8, 5, 9, 10, 11, 12, 13, 21, 22, 23, 24, 25, 26, 27, 28, 29, 30, 31, 32, 33, 34, 35, 36, 37, 38, 39, 40, 41, 42, 43, 44, 45, 46, 47, 48] (by decide +kernel) (by decide +kernel)
set_option maxRecDepth 20000 in
theorem gX11_placeOf_X11_bars : GoodIn wsX11_placeOf (wsV RX11 154 RX11 yX11_bars wsX11_bars) := goodIn_app (goodIn_of _ (by decide +kernel)) ggX11_placeOf_X11_bars
set_option maxRecDepth 20000 in
theorem ggX11_placeOf_X11_waitsAt : GoodIn wsX11_placeOf wsX11_waitsAt := goodIn_r _ [17, 1, 7, 8, 5, 9, 21, 22, 23, 24, 25, 26, 27, 28, 29, 30, 31, 32, 33, 34, 35, 36, 37, 38, 39, 40, 41, 42, 43, 44, 45, 46, 47, 48] (by decide +kernel) (by decide +kernel)
set_option maxRecDepth 20000 in
theorem gX11_placeOf_X11_waitsAt : GoodIn wsX11_placeOf (wsV RX11 157 RX11 yX11_waitsAt wsX11_waitsAt) := goodIn_app (goodIn_of _ (by decide +kernel)) ggX11_placeOf_X11_waitsAt
set_option maxRecDepth 20000 in
theorem ggX11_placeOf_X11_one : GoodIn wsX11_placeOf wsX11_one := goodIn_r _ [20] (by decide +kernel) (by decide +kernel)
set_option maxRecDepth 20000 in
theorem gX11_placeOf_X11_one : GoodIn wsX11_placeOf (va_wsS RX11 115 yX11_one wsX11_one) := goodIn_app (goodIn_of _ (by decide +kernel)) ggX11_placeOf_X11_one
set_option maxRecDepth 20000 in
theorem ggX11_waiting_X11_isRoof : GoodIn wsX11_waiting wsX11_isRoof := goodIn_r _ [6, 1, 7, 8, 5, 9, 37, 38, 39, 40, 41, 42, 43, 44, 45, 46, 47, 48, 49, 50, 51, 52, 53, 54, 55, 56, 57, 58, 59, 60, 61, 62, 63, 64] (by decide +kernel) (by decide +kernel)
set_option maxRecDepth 20000 in
theorem gX11_waiting_X11_isRoof : GoodIn wsX11_waiting (wsV RX11 380 RX11 yX11_isRoof wsX11_isRoof) := goodIn_app (goodIn_of _ (by decide +kernel)) ggX11_waiting_X11_isRoof
set_option maxRecDepth 20000 in
theorem ggX11_waiting_X11_may : GoodIn wsX11_waiting wsX11_may := goodIn_r _ [13, 14, 37, 38, 39, 40, 41, 42, 43, 44, 45, 46, 47, 48, 49, 50, 51, 52, 53, 54, 55, 56, 57, 58, 59, 60, 61, 62, 63, 64] (by decide +kernel) (by decide +kernel)
set_option maxRecDepth 20000 in
theorem gX11_waiting_X11_may : GoodIn wsX11_waiting (wsV RX11 365 RX11 yX11_may wsX11_may) := goodIn_app (goodIn_of _ (by decide +kernel)) ggX11_waiting_X11_may
set_option maxRecDepth 20000 in
theorem ggX11_waiting_X11_waitsAt : GoodIn wsX11_waiting wsX11_waitsAt := goodIn_r _ [18, 1, 19, 20, 5, 21, 37, 38, 39, 40, 41, 42, 43, 44, 45, 46, 47, 48, 49, 50, 51, 52, 53, 54, 55, 56, 57, 58, 59, 60, 61, 62, 63, 64] (by decide +kernel) (by decide +kernel)
set_option maxRecDepth 20000 in
theorem gX11_waiting_X11_waitsAt : GoodIn wsX11_waiting (wsV RX11 157 RX11 yX11_waitsAt wsX11_waitsAt) := goodIn_app (goodIn_of _ (by decide +kernel)) ggX11_waiting_X11_waitsAt
set_option maxRecDepth 20000 in
theorem ggX11_waiting_X11_placeOf : GoodIn wsX11_waiting wsX11_placeOf := goodIn_r _ [25, 1, 26, 27, 28, 5, 29, 19, 20, 21, 30, 31, 32, 33, 15, 16, 17, 18, 34, 35, 36, 37, 38, 39, 40, 41, 42, 43, 44, 45, 46, 47, 48, 49, 50, 51, 52, 53, 54, 55, 56, 57, 58, 59, 60, 61, 62, 63, 64] (by decide +kernel) (by decide +kernel)
set_option maxRecDepth 20000 in
theorem gX11_waiting_X11_placeOf : GoodIn wsX11_waiting (wsV RX11 401 RX11 yX11_placeOf wsX11_placeOf) := goodIn_app (goodIn_of _ (by decide +kernel)) ggX11_waiting_X11_placeOf
set_option maxRecDepth 20000 in
theorem ggX11_reason_X11_t : GoodIn wsX11_reason wsX11_t := goodIn_r _ [5] (by decide +kernel) (by decide +kernel)
set_option maxRecDepth 20000 in
theorem gX11_reason_X11_t : GoodIn wsX11_reason (va_wsS RX11 109 yX11_t wsX11_t) := goodIn_app (goodIn_of _ (by decide +kernel)) ggX11_reason_X11_t
set_option maxRecDepth 20000 in
theorem ggX11_reason_X11_sumTo : GoodIn wsX11_reason wsX11_sumTo := goodIn_r _ [9, 10, 11, 12, 13, 4, 14, 1, 15, 16, 17, 18, 19, 20, 21, 22, 23, 24, 25, 65, 66, 67, 68, 69, 70, 71, 72, 73, 74, 75, 76, 77, 78, 79, 80, 81, 82, 83, 84, 85, 86, 87, 88, 89, 90, 91, 92] (by decide +kernel) (by decide +kernel)
set_option maxRecDepth 20000 in
theorem gX11_reason_X11_sumTo : GoodIn wsX11_reason (wsV RX11 106 RX11 yX11_sumTo wsX11_sumTo) := goodIn_app (goodIn_of _ (by decide +kernel)) ggX11_reason_X11_sumTo
set_option maxRecDepth 20000 in
theorem ggX11_reason_X11_isBusy : GoodIn wsX11_reason wsX11_isBusy := goodIn_r _ [29, 1, 30, 31, 4, 32, 65, 66, 67, 68, 69, 70, 71, 72, 73, 74, 75, 76, 77, 78, 79, 80, 81, 82, 83, 84, 85, 86, 87, 88, 89, 90, 91, 92] (by decide +kernel) (by decide +kernel)
set_option maxRecDepth 20000 in
theorem gX11_reason_X11_isBusy : GoodIn wsX11_reason (wsV RX11 178 RX11 yX11_isBusy wsX11_isBusy) := goodIn_app (goodIn_of _ (by decide +kernel)) ggX11_reason_X11_isBusy
set_option maxRecDepth 20000 in
theorem ggX11_reason_X11_purseFor : GoodIn wsX11_reason wsX11_purseFor := goodIn_r _ [36, 1, 2, 3, 4, 5, 30, 31, 32, 65, 66, 67, 68, 69, 70, 71, 72, 73, 74, 75, 76, 77, 78, 79, 80, 81, 82, 83, 84, 85, 86, 87, 88, 89, 90, 91, 92] (by decide +kernel) (by decide +kernel)
set_option maxRecDepth 20000 in
theorem gX11_reason_X11_purseFor : GoodIn wsX11_reason (wsV RX11 160 RX11 yX11_purseFor wsX11_purseFor) := goodIn_app (goodIn_of _ (by decide +kernel)) ggX11_reason_X11_purseFor
set_option maxRecDepth 20000 in
theorem ggX11_reason_X11_feeAt : GoodIn wsX11_reason wsX11_feeAt := goodIn_r _ [40, 1, 30, 31, 4, 32, 41, 42, 43, 44, 2, 3, 5, 45, 46, 47, 48, 65, 66, 67, 68, 69, 70, 71, 72, 73, 74, 75, 76, 77, 78, 79, 80, 81, 82, 83, 84, 85, 86, 87, 88, 89, 90, 91, 92] (by decide +kernel) (by decide +kernel)
set_option maxRecDepth 20000 in
theorem gX11_reason_X11_feeAt : GoodIn wsX11_reason (wsV RX11 163 RX11 yX11_feeAt wsX11_feeAt) := goodIn_app (goodIn_of _ (by decide +kernel)) ggX11_reason_X11_feeAt
set_option maxRecDepth 20000 in
theorem ggX11_reason_X11_firstAt : GoodIn wsX11_reason wsX11_firstAt := goodIn_r _ [52, 1, 53, 54, 55, 4, 56, 2, 3, 5, 41, 42, 43, 44, 45, 46, 47, 48, 33, 34, 35, 36, 30, 31, 32, 37, 38, 39, 40, 57, 58, 59, 60, 10, 6, 7, 8, 9, 11, 12, 13, 14, 15, 16, 17, 18, 19, 20, 21, 22, 23, 24, 25, 61, 62, 63, 64, 65, 66, 67, 68, 69, 70, 71, 72, 73, 74, 75, 76, 77, 78, 79, 80, 81, 82, 83, 84, 85, 86, 87, 88, 89, 90, 91, 92] (by decide +kernel) (by decide +kernel)
set_option maxRecDepth 20000 in
theorem gX11_reason_X11_firstAt : GoodIn wsX11_reason (wsV RX11 181 RX11 yX11_firstAt wsX11_firstAt) := goodIn_app (goodIn_of _ (by decide +kernel)) ggX11_reason_X11_firstAt
set_option maxRecDepth 20000 in
theorem ggX11_cause_X11_t : GoodIn wsX11_cause wsX11_t := goodIn_r _ [5] (by decide +kernel) (by decide +kernel)
set_option maxRecDepth 20000 in
theorem gX11_cause_X11_t : GoodIn wsX11_cause (va_wsS RX11 109 yX11_t wsX11_t) := goodIn_app (goodIn_of _ (by decide +kernel)) ggX11_cause_X11_t
set_option maxRecDepth 20000 in
theorem ggX11_cause_X11_r : GoodIn wsX11_cause wsX11_r := goodIn_r _ [8] (by decide +kernel) (by decide +kernel)
set_option maxRecDepth 20000 in
theorem gX11_cause_X11_r : GoodIn wsX11_cause (va_wsS RX11 84 yX11_r wsX11_r) := goodIn_app (goodIn_of _ (by decide +kernel)) ggX11_cause_X11_r
set_option maxRecDepth 20000 in
theorem ggX11_cause_X11_feeAt : GoodIn wsX11_cause wsX11_feeAt := goodIn_r _ [12, 1, 6, 7, 4, 8, 13, 14, 15, 16, 2, 3, 5, 17, 18, 19, 20, 61, 62, 63, 64, 65, 66, 67, 68, 69, 70, 71, 72, 73, 74, 75, 76, 77, 78, 79, 80, 81, 82, 83, 84, 85, 86, 87, 88] (by decide +kernel) (by decide +kernel)
set_option maxRecDepth 20000 in
theorem gX11_cause_X11_feeAt : GoodIn wsX11_cause (wsV RX11 163 RX11 yX11_feeAt wsX11_feeAt) := goodIn_app (goodIn_of _ (by decide +kernel)) ggX11_cause_X11_feeAt
set_option maxRecDepth 20000 in
theorem ggX11_cause_X11_purseFor : GoodIn wsX11_cause wsX11_purseFor := goodIn_r _ [24, 1, 2, 3, 4, 5, 6, 7, 8, 61, 62, 63, 64, 65, 66, 67, 68, 69, 70, 71, 72, 73, 74, 75, 76, 77, 78, 79, 80, 81, 82, 83, 84, 85, 86, 87, 88] (by decide +kernel) (by decide +kernel)
set_option maxRecDepth 20000 in
theorem gX11_cause_X11_purseFor : GoodIn wsX11_cause (wsV RX11 160 RX11 yX11_purseFor wsX11_purseFor) := goodIn_app (goodIn_of _ (by decide +kernel)) ggX11_cause_X11_purseFor
set_option maxRecDepth 20000 in
theorem ggX11_cause_X11_firstAt : GoodIn wsX11_cause wsX11_firstAt := goodIn_r _ [28, 1, 29, 30, 31, 4, 32, 2, 3, 5, 13, 14, 15, 16, 17, 18, 19, 20, 21, 22, 23, 24, 6, 7, 8, 9, 10, 11, 12, 33, 34, 35, 36, 37, 38, 39, 40, 41, 42, 43, 44, 45, 46, 47, 48, 49, 50, 51, 52, 53, 54, 55, 56, 57, 58, 59, 60, 61, 62, 63, 64, 65, 66, 67, 68, 69, 70, 71, 72, 73, 74, 75, 76, 77, 78, 79, 80, 81, 82, 83, 84, 85, 86, 87, 88] (by decide +kernel) (by decide +kernel)
set_option maxRecDepth 20000 in
theorem gX11_cause_X11_firstAt : GoodIn wsX11_cause (wsV RX11 181 RX11 yX11_firstAt wsX11_firstAt) := goodIn_app (goodIn_of _ (by decide +kernel)) ggX11_cause_X11_firstAt
set_option maxRecDepth 20000 in
theorem ggX11_why_X11_isTune : GoodIn wsX11_why wsX11_isTune := goodIn_r _ [5, 6, 7, 8, 4, 9, 85, 86, 87, 88, 89, 90, 91, 92, 93, 94, 95, 96, 97, 98, 99, 100, 101, 102, 103, 104, 105, 106, 107, 108, 109, 110, 111, 112] (by decide +kernel) (by decide +kernel)
set_option maxRecDepth 20000 in
theorem gX11_why_X11_isTune : GoodIn wsX11_why (wsV RX11 396 RX11 yX11_isTune wsX11_isTune) := goodIn_app (goodIn_of _ (by decide +kernel)) ggX11_why_X11_isTune
set_option maxRecDepth 20000 in
theorem ggX11_why_X11_in : GoodIn wsX11_why wsX11_in := goodIn_r _ [9] (by decide +kernel) (by decide +kernel)
set_option maxRecDepth 20000 in
theorem gX11_why_X11_in : GoodIn wsX11_why (va_wsS RX11 199 yX11_in wsX11_in) := goodIn_app (goodIn_of _ (by decide +kernel)) ggX11_why_X11_in
set_option maxRecDepth 20000 in
theorem ggX11_why_X11_may : GoodIn wsX11_why wsX11_may := goodIn_r _ [13, 14, 85, 86, 87, 88, 89, 90, 91, 92, 93, 94, 95, 96, 97, 98, 99, 100, 101, 102, 103, 104, 105, 106, 107, 108, 109, 110, 111, 112] (by decide +kernel) (by decide +kernel)
set_option maxRecDepth 20000 in
theorem gX11_why_X11_may : GoodIn wsX11_why (wsV RX11 365 RX11 yX11_may wsX11_may) := goodIn_app (goodIn_of _ (by decide +kernel)) ggX11_why_X11_may
set_option maxRecDepth 20000 in
theorem ggX11_why_X11_reason : GoodIn wsX11_why wsX11_reason := goodIn_r _ [18, 6, 19, 20, 4, 21, 22, 23, 24, 25, 26, 27, 28, 29, 30, 31, 32, 33, 34, 35, 36, 37, 38, 39, 40, 41, 42, 43, 44, 45, 46, 47, 48, 49, 50, 51, 52, 53, 54, 55, 56, 57, 58, 59, 60, 61, 62, 63, 64, 65, 66, 67, 68, 69, 70, 71, 72, 73, 74, 75, 76, 77, 78, 79, 80, 85, 86, 87, 88, 89, 90, 91, 92, 93, 94, 95, 96, 97, 98, 99, 100, 101, 102, 103, 104, 105, 106, 107, 108, 109, 110, 111, 112] (by decide +kernel) (by decide +kernel)
set_option maxRecDepth 20000 in
theorem gX11_why_X11_reason : GoodIn wsX11_why (wsV RX11 404 RX11 yX11_reason wsX11_reason) := goodIn_app (goodIn_of _ (by decide +kernel)) ggX11_why_X11_reason
set_option maxRecDepth 20000 in
theorem ggX11_why_X11_cause : GoodIn wsX11_why wsX11_cause := goodIn_r _ [84, 6, 19, 20, 4, 21, 46, 47, 48, 53, 54, 55, 56, 57, 58, 59, 60, 61, 62, 63, 64, 49, 50, 51, 52, 65, 66, 67, 68, 69, 70, 71, 72, 73, 74, 75, 76, 26, 22, 23, 24, 25, 27, 28, 29, 30, 31, 32, 33, 34, 35, 36, 37, 38, 39, 40, 41, 77, 78, 79, 80, 85, 86, 87, 88, 89, 90, 91, 92, 93, 94, 95, 96, 97, 98, 99, 100, 101, 102, 103, 104, 105, 106, 107, 108, 109, 110, 111, 112] (by decide +kernel) (by decide +kernel)
set_option maxRecDepth 20000 in
theorem gX11_why_X11_cause : GoodIn wsX11_why (wsV RX11 407 RX11 yX11_cause wsX11_cause) := goodIn_app (goodIn_of _ (by decide +kernel)) ggX11_why_X11_cause
set_option maxRecDepth 20000 in
theorem ggX11_costOf_X11_areRoofs : GoodIn wsX11_costOf wsX11_areRoofs := goodIn_r _ [7, 8, 9, 10, 6, 11, 2, 12, 13, 14, 55, 56, 57, 58, 59, 60, 61, 62, 63, 64, 65, 66, 67, 68, 69, 70, 71, 72, 73, 74, 75, 76, 77, 78, 79, 80, 81, 82] (by decide +kernel) (by decide +kernel)
set_option maxRecDepth 20000 in
theorem gX11_costOf_X11_areRoofs : GoodIn wsX11_costOf (wsV RX11 393 RX11 yX11_areRoofs wsX11_areRoofs) := goodIn_app (goodIn_of _ (by decide +kernel)) ggX11_costOf_X11_areRoofs
set_option maxRecDepth 20000 in
theorem ggX11_costOf_X11_in : GoodIn wsX11_costOf wsX11_in := goodIn_r _ [14] (by decide +kernel) (by decide +kernel)
set_option maxRecDepth 20000 in
theorem gX11_costOf_X11_in : GoodIn wsX11_costOf (va_wsS RX11 199 yX11_in wsX11_in) := goodIn_app (goodIn_of _ (by decide +kernel)) ggX11_costOf_X11_in
set_option maxRecDepth 20000 in
theorem ggX11_costOf_X11_may : GoodIn wsX11_costOf wsX11_may := goodIn_r _ [18, 19, 55, 56, 57, 58, 59, 60, 61, 62, 63, 64, 65, 66, 67, 68, 69, 70, 71, 72, 73, 74, 75, 76, 77, 78, 79, 80, 81, 82] (by decide +kernel) (by decide +kernel)
set_option maxRecDepth 20000 in
theorem gX11_costOf_X11_may : GoodIn wsX11_costOf (wsV RX11 365 RX11 yX11_may wsX11_may) := goodIn_app (goodIn_of _ (by decide +kernel)) ggX11_costOf_X11_may
set_option maxRecDepth 20000 in
theorem ggX11_costOf_X11_sumTo : GoodIn wsX11_costOf wsX11_sumTo := goodIn_r _ [23, 24, 25, 26, 27, 6, 28, 2, 29, 30, 31, 32, 33, 34, 35, 36, 37, 38, 39, 55, 56, 57, 58, 59, 60, 61, 62, 63, 64, 65, 66, 67, 68, 69, 70, 71, 72, 73, 74, 75, 76, 77, 78, 79, 80, 81, 82] (by decide +kernel) (by decide +kernel)
set_option maxRecDepth 20000 in
theorem gX11_costOf_X11_sumTo : GoodIn wsX11_costOf (wsV RX11 106 RX11 yX11_sumTo wsX11_sumTo) := goodIn_app (goodIn_of _ (by decide +kernel)) ggX11_costOf_X11_sumTo
set_option maxRecDepth 20000 in
theorem ggX11_costOf_X11_r : GoodIn wsX11_costOf wsX11_r := goodIn_r _ [42] (by decide +kernel) (by decide +kernel)
set_option maxRecDepth 20000 in
theorem gX11_costOf_X11_r : GoodIn wsX11_costOf (va_wsS RX11 84 yX11_r wsX11_r) := goodIn_app (goodIn_of _ (by decide +kernel)) ggX11_costOf_X11_r
set_option maxRecDepth 20000 in
theorem ggX11_costOf_X11_barsOf : GoodIn wsX11_costOf wsX11_barsOf := goodIn_r _ [46] (by decide +kernel) (by decide +kernel)
set_option maxRecDepth 20000 in
theorem gX11_costOf_X11_barsOf : GoodIn wsX11_costOf (wsV RX11 112 RX11 yX11_barsOf wsX11_barsOf) := goodIn_app (goodIn_of _ (by decide +kernel)) ggX11_costOf_X11_barsOf
set_option maxRecDepth 20000 in
theorem ggX11_costOf_X11_nextTo : GoodIn wsX11_costOf wsX11_nextTo := goodIn_r _ [50, 2, 24, 20, 21, 22, 6, 23, 25, 26, 27, 28, 29, 30, 31, 32, 33, 34, 35, 36, 37, 38, 39, 51, 52, 53, 54, 55, 56, 57, 58, 59, 60, 61, 62, 63, 64, 65, 66, 67, 68, 69, 70, 71, 72, 73, 74, 75, 76, 77, 78, 79, 80, 81, 82] (by decide +kernel) (by decide +kernel)
set_option maxRecDepth 20000 in
theorem gX11_costOf_X11_nextTo : GoodIn wsX11_costOf (wsV RX11 166 RX11 yX11_nextTo wsX11_nextTo) := goodIn_app (goodIn_of _ (by decide +kernel)) ggX11_costOf_X11_nextTo
set_option maxRecDepth 20000 in
theorem ggX11_wrongOf_X11_nextTo : GoodIn wsX11_wrongOf wsX11_nextTo := goodIn_r _ [6, 1, 7, 8, 9, 10, 5, 11, 12, 13, 14, 15, 16, 17, 18, 19, 20, 21, 22, 23, 24, 25, 26, 27, 28, 29, 30, 49, 50, 51, 52, 53, 54, 55, 56, 57, 58, 59, 60, 61, 62, 63, 64, 65, 66, 67, 68, 69, 70, 71, 72, 73, 74, 75, 76] (by decide +kernel) (by decide +kernel)
set_option maxRecDepth 20000 in
theorem gX11_wrongOf_X11_nextTo : GoodIn wsX11_wrongOf (wsV RX11 166 RX11 yX11_nextTo wsX11_nextTo) := goodIn_app (goodIn_of _ (by decide +kernel)) ggX11_wrongOf_X11_nextTo
set_option maxRecDepth 20000 in
theorem ggX11_wrongOf_X11_wayBetween : GoodIn wsX11_wrongOf wsX11_wayBetween := goodIn_r _ [34, 1, 27, 28, 29, 5, 30, 16, 17, 18, 49, 50, 51, 52, 53, 54, 55, 56, 57, 58, 59, 60, 61, 62, 63, 64, 65, 66, 67, 68, 69, 70, 71, 72, 73, 74, 75, 76] (by decide +kernel) (by decide +kernel)
set_option maxRecDepth 20000 in
theorem gX11_wrongOf_X11_wayBetween : GoodIn wsX11_wrongOf (wsV RX11 169 RX11 yX11_wayBetween wsX11_wayBetween) := goodIn_app (goodIn_of _ (by decide +kernel)) ggX11_wrongOf_X11_wayBetween
set_option maxRecDepth 20000 in
theorem ggX11_wrongOf_X11_w : GoodIn wsX11_wrongOf wsX11_w := goodIn_r _ [18] (by decide +kernel) (by decide +kernel)
set_option maxRecDepth 20000 in
theorem gX11_wrongOf_X11_w : GoodIn wsX11_wrongOf (va_wsS RX11 88 yX11_w wsX11_w) := goodIn_app (goodIn_of _ (by decide +kernel)) ggX11_wrongOf_X11_w
set_option maxRecDepth 20000 in
theorem ggX11_wrongOf_X11_wrongBy : GoodIn wsX11_wrongOf wsX11_wrongBy := goodIn_r _ [38, 1, 39, 40, 41, 42, 43, 44, 45, 46, 47, 5, 48, 49, 50, 51, 52, 53, 54, 55, 56, 57, 58, 59, 60, 61, 62, 63, 64, 65, 66, 67, 68, 69, 70, 71, 72, 73, 74, 75, 76] (by decide +kernel) (by decide +kernel)
set_option maxRecDepth 20000 in
theorem gX11_wrongOf_X11_wrongBy : GoodIn wsX11_wrongOf (wsV RX11 137 RX11 yX11_wrongBy wsX11_wrongBy) := goodIn_app (goodIn_of _ (by decide +kernel)) ggX11_wrongOf_X11_wrongBy
set_option maxRecDepth 20000 in
theorem ggX11_wrongOn_X11_areRoofs : GoodIn wsX11_wrongOn wsX11_areRoofs := goodIn_r _ [7, 8, 9, 10, 6, 11, 2, 12, 13, 14, 70, 71, 72, 73, 74, 75, 76, 77, 78, 79, 80, 81, 82, 83, 84, 85, 86, 87, 88, 89, 90, 91, 92, 93, 94, 95, 96, 97] (by decide +kernel) (by decide +kernel)
set_option maxRecDepth 20000 in
theorem gX11_wrongOn_X11_areRoofs : GoodIn wsX11_wrongOn (wsV RX11 393 RX11 yX11_areRoofs wsX11_areRoofs) := goodIn_app (goodIn_of _ (by decide +kernel)) ggX11_wrongOn_X11_areRoofs
set_option maxRecDepth 20000 in
theorem ggX11_wrongOn_X11_in : GoodIn wsX11_wrongOn wsX11_in := goodIn_r _ [14] (by decide +kernel) (by decide +kernel)
set_option maxRecDepth 20000 in
theorem gX11_wrongOn_X11_in : GoodIn wsX11_wrongOn (va_wsS RX11 199 yX11_in wsX11_in) := goodIn_app (goodIn_of _ (by decide +kernel)) ggX11_wrongOn_X11_in
set_option maxRecDepth 20000 in
theorem ggX11_wrongOn_X11_may : GoodIn wsX11_wrongOn wsX11_may := goodIn_r _ [18, 19, 70, 71, 72, 73, 74, 75, 76, 77, 78, 79, 80, 81, 82, 83, 84, 85, 86, 87, 88, 89, 90, 91, 92, 93, 94, 95, 96, 97] (by decide +kernel) (by decide +kernel)
set_option maxRecDepth 20000 in
theorem gX11_wrongOn_X11_may : GoodIn wsX11_wrongOn (wsV RX11 365 RX11 yX11_may wsX11_may) := goodIn_app (goodIn_of _ (by decide +kernel)) ggX11_wrongOn_X11_may
set_option maxRecDepth 20000 in
theorem ggX11_wrongOn_X11_sumTo : GoodIn wsX11_wrongOn wsX11_sumTo := goodIn_r _ [23, 24, 25, 26, 27, 6, 28, 2, 29, 30, 31, 32, 33, 34, 35, 36, 37, 38, 39, 70, 71, 72, 73, 74, 75, 76, 77, 78, 79, 80, 81, 82, 83, 84, 85, 86, 87, 88, 89, 90, 91, 92, 93, 94, 95, 96, 97] (by decide +kernel) (by decide +kernel)
set_option maxRecDepth 20000 in
theorem gX11_wrongOn_X11_sumTo : GoodIn wsX11_wrongOn (wsV RX11 106 RX11 yX11_sumTo wsX11_sumTo) := goodIn_app (goodIn_of _ (by decide +kernel)) ggX11_wrongOn_X11_sumTo
set_option maxRecDepth 20000 in
theorem ggX11_wrongOn_X11_wrongOf : GoodIn wsX11_wrongOn wsX11_wrongOf := goodIn_r _ [43, 2, 44, 45, 46, 6, 47, 24, 20, 21, 22, 23, 25, 26, 27, 28, 29, 30, 31, 32, 33, 34, 35, 36, 37, 38, 39, 48, 49, 50, 51, 52, 53, 54, 55, 56, 57, 58, 59, 60, 61, 62, 63, 64, 65, 66, 67, 68, 69, 70, 71, 72, 73, 74, 75, 76, 77, 78, 79, 80, 81, 82, 83, 84, 85, 86, 87, 88, 89, 90, 91, 92, 93, 94, 95, 96, 97] (by decide +kernel) (by decide +kernel)
set_option maxRecDepth 20000 in
theorem gX11_wrongOn_X11_wrongOf : GoodIn wsX11_wrongOn (wsV RX11 412 RX11 yX11_wrongOf wsX11_wrongOf) := goodIn_app (goodIn_of _ (by decide +kernel)) ggX11_wrongOn_X11_wrongOf
set_option maxRecDepth 20000 in
theorem ggX11_calmest_X11_areRoofs : GoodIn wsX11_calmest wsX11_areRoofs := goodIn_r _ [5, 6, 7, 8, 4, 9, 10, 11, 12, 13, 69, 70, 71, 72, 73, 74, 75, 76, 77, 78, 79, 80, 81, 82, 83, 84, 85, 86, 87, 88, 89, 90, 91, 92, 93, 94, 95, 96] (by decide +kernel) (by decide +kernel)
set_option maxRecDepth 20000 in
theorem gX11_calmest_X11_areRoofs : GoodIn wsX11_calmest (wsV RX11 393 RX11 yX11_areRoofs wsX11_areRoofs) := goodIn_app (goodIn_of _ (by decide +kernel)) ggX11_calmest_X11_areRoofs
set_option maxRecDepth 20000 in
theorem ggX11_calmest_X11_may : GoodIn wsX11_calmest wsX11_may := goodIn_r _ [17, 18, 69, 70, 71, 72, 73, 74, 75, 76, 77, 78, 79, 80, 81, 82, 83, 84, 85, 86, 87, 88, 89, 90, 91, 92, 93, 94, 95, 96] (by decide +kernel) (by decide +kernel)
set_option maxRecDepth 20000 in
theorem gX11_calmest_X11_may : GoodIn wsX11_calmest (wsV RX11 365 RX11 yX11_may wsX11_may) := goodIn_app (goodIn_of _ (by decide +kernel)) ggX11_calmest_X11_may
set_option maxRecDepth 20000 in
theorem ggX11_calmest_X11_sumTo : GoodIn wsX11_calmest wsX11_sumTo := goodIn_r _ [22, 23, 24, 25, 26, 4, 27, 10, 28, 29, 30, 31, 32, 33, 34, 35, 36, 37, 38, 69, 70, 71, 72, 73, 74, 75, 76, 77, 78, 79, 80, 81, 82, 83, 84, 85, 86, 87, 88, 89, 90, 91, 92, 93, 94, 95, 96] (by decide +kernel) (by decide +kernel)
set_option maxRecDepth 20000 in
theorem gX11_calmest_X11_sumTo : GoodIn wsX11_calmest (wsV RX11 106 RX11 yX11_sumTo wsX11_sumTo) := goodIn_app (goodIn_of _ (by decide +kernel)) ggX11_calmest_X11_sumTo
set_option maxRecDepth 20000 in
theorem ggX11_calmest_X11_wrongOf : GoodIn wsX11_calmest wsX11_wrongOf := goodIn_r _ [42, 10, 43, 44, 45, 4, 46, 23, 19, 20, 21, 22, 24, 25, 26, 27, 28, 29, 30, 31, 32, 33, 34, 35, 36, 37, 38, 47, 48, 49, 50, 51, 52, 53, 54, 55, 56, 57, 58, 59, 60, 61, 62, 63, 64, 65, 66, 67, 68, 69, 70, 71, 72, 73, 74, 75, 76, 77, 78, 79, 80, 81, 82, 83, 84, 85, 86, 87, 88, 89, 90, 91, 92, 93, 94, 95, 96] (by decide +kernel) (by decide +kernel)
set_option maxRecDepth 20000 in
theorem gX11_calmest_X11_wrongOf : GoodIn wsX11_calmest (wsV RX11 412 RX11 yX11_wrongOf wsX11_wrongOf) := goodIn_app (goodIn_of _ (by decide +kernel)) ggX11_calmest_X11_wrongOf
set_option maxRecDepth 20000 in
theorem ggX11_arrivesIn_X11_isTune : GoodIn wsX11_arrivesIn wsX11_isTune := goodIn_r _ [7, 2, 8, 9, 6, 10, 150, 151, 152, 153, 154, 155, 156, 157, 158, 159, 160, 161, 162, 163, 164, 165, 166, 167, 168, 169, 170, 171, 172, 173, 174, 175, 176, 177] (by decide +kernel) (by decide +kernel)
set_option maxRecDepth 20000 in
theorem gX11_arrivesIn_X11_isTune : GoodIn wsX11_arrivesIn (wsV RX11 396 RX11 yX11_isTune wsX11_isTune) := goodIn_app (goodIn_of _ (by decide +kernel)) ggX11_arrivesIn_X11_isTune
set_option maxRecDepth 20000 in
theorem ggX11_arrivesIn_X11_may : GoodIn wsX11_arrivesIn wsX11_may := goodIn_r _ [14, 15, 150, 151, 152, 153, 154, 155, 156, 157, 158, 159, 160, 161, 162, 163, 164, 165, 166, 167, 168, 169, 170, 171, 172, 173, 174, 175, 176, 177] (by decide +kernel) (by decide +kernel)
set_option maxRecDepth 20000 in
theorem gX11_arrivesIn_X11_may : GoodIn wsX11_arrivesIn (wsV RX11 365 RX11 yX11_may wsX11_may) := goodIn_app (goodIn_of _ (by decide +kernel)) ggX11_arrivesIn_X11_may
set_option maxRecDepth 20000 in
theorem ggX11_arrivesIn_X11_copies : GoodIn wsX11_arrivesIn wsX11_copies := goodIn_r _ [19, 2, 150, 151, 152, 153, 154, 155, 156, 157, 158, 159, 160, 161, 162, 163, 164, 165, 166, 167, 168, 169, 170, 171, 172, 173, 174, 175, 176, 177] (by decide +kernel) (by decide +kernel)
set_option maxRecDepth 20000 in
theorem gX11_arrivesIn_X11_copies : GoodIn wsX11_arrivesIn (wsV RX11 299 RX11 yX11_copies wsX11_copies) := goodIn_app (goodIn_of _ (by decide +kernel)) ggX11_arrivesIn_X11_copies
set_option maxRecDepth 20000 in
theorem ggX11_arrivesIn_X11_t : GoodIn wsX11_arrivesIn wsX11_t := goodIn_r _ [22] (by decide +kernel) (by decide +kernel)
set_option maxRecDepth 20000 in
theorem gX11_arrivesIn_X11_t : GoodIn wsX11_arrivesIn (va_wsS RX11 109 yX11_t wsX11_t) := goodIn_app (goodIn_of _ (by decide +kernel)) ggX11_arrivesIn_X11_t
set_option maxRecDepth 20000 in
theorem ggX11_arrivesIn_X11_gives : GoodIn wsX11_arrivesIn wsX11_gives := goodIn_r _ [26, 2, 150, 151, 152, 153, 154, 155, 156, 157, 158, 159, 160, 161, 162, 163, 164, 165, 166, 167, 168, 169, 170, 171, 172, 173, 174, 175, 176, 177] (by decide +kernel) (by decide +kernel)
set_option maxRecDepth 20000 in
theorem gX11_arrivesIn_X11_gives : GoodIn wsX11_arrivesIn (wsV RX11 312 RX11 yX11_gives wsX11_gives) := goodIn_app (goodIn_of _ (by decide +kernel)) ggX11_arrivesIn_X11_gives
set_option maxRecDepth 20000 in
theorem ggX11_arrivesIn_X11_ticks : GoodIn wsX11_arrivesIn wsX11_ticks := goodIn_r _ [30, 2, 31, 32, 33, 6, 34, 35, 36, 37, 38, 20, 21, 22, 39, 40, 41, 42, 43, 44, 45, 46, 47, 48, 49, 50, 51, 52, 53, 54, 55, 56, 57, 58, 59, 60, 61, 62, 63, 64, 65, 66, 67, 68, 69, 70, 71, 72, 73, 74, 75, 76, 77, 78, 79, 80, 81, 82, 83, 84, 85, 86, 87, 88, 89, 90, 91, 92, 93, 94, 95, 96, 97, 98, 99, 100, 101, 102, 103, 104, 105, 106, 107, 108, 109, 110, 111, 112, 113, 114, 115, 116, 117, 118, 119, 120, 121, 122, 123, 124, 125, 126, 127, 128, 129, 130, 131, 132, 133, 134, 135, 136, 137, 138, 139, 140, 141, 142, 143, 144, 145, 146, 147, 148, 149, 150, 151, 152, 153, 154, 155, 156, 157, 158, 159, 160, 161, 162, 163, 164, 165, 166, 167, 168, 169, 170, 171, 172, 173, 174, 175, 176, 177] (by decide +kernel) (by decide +kernel)
set_option maxRecDepth 20000 in
theorem gX11_arrivesIn_X11_ticks : GoodIn wsX11_arrivesIn (wsV RX11 190 RX11 yX11_ticks wsX11_ticks) := goodIn_app (goodIn_of _ (by decide +kernel)) ggX11_arrivesIn_X11_ticks
set_option maxRecDepth 20000 in
theorem ggX11_growsBy_X11_in : GoodIn wsX11_growsBy wsX11_in := goodIn_r _ [8] (by decide +kernel) (by decide +kernel)
set_option maxRecDepth 20000 in
theorem gX11_growsBy_X11_in : GoodIn wsX11_growsBy (va_wsS RX11 199 yX11_in wsX11_in) := goodIn_app (goodIn_of _ (by decide +kernel)) ggX11_growsBy_X11_in
set_option maxRecDepth 20000 in
theorem ggX11_growsBy_X11_may : GoodIn wsX11_growsBy wsX11_may := goodIn_r _ [12, 13, 152, 153, 154, 155, 156, 157, 158, 159, 160, 161, 162, 163, 164, 165, 166, 167, 168, 169, 170, 171, 172, 173, 174, 175, 176, 177, 178, 179] (by decide +kernel) (by decide +kernel)
set_option maxRecDepth 20000 in
theorem gX11_growsBy_X11_may : GoodIn wsX11_growsBy (wsV RX11 365 RX11 yX11_may wsX11_may) := goodIn_app (goodIn_of _ (by decide +kernel)) ggX11_growsBy_X11_may
set_option maxRecDepth 20000 in
theorem ggX11_growsBy_X11_copies : GoodIn wsX11_growsBy wsX11_copies := goodIn_r _ [17, 3, 152, 153, 154, 155, 156, 157, 158, 159, 160, 161, 162, 163, 164, 165, 166, 167, 168, 169, 170, 171, 172, 173, 174, 175, 176, 177, 178, 179] (by decide +kernel) (by decide +kernel)
set_option maxRecDepth 20000 in
theorem gX11_growsBy_X11_copies : GoodIn wsX11_growsBy (wsV RX11 299 RX11 yX11_copies wsX11_copies) := goodIn_app (goodIn_of _ (by decide +kernel)) ggX11_growsBy_X11_copies
set_option maxRecDepth 20000 in
theorem ggX11_growsBy_X11_goes : GoodIn wsX11_growsBy wsX11_goes := goodIn_r _ [21, 3, 22, 23, 24, 7, 25, 26, 27, 28, 29, 30, 31, 32, 33, 34, 35, 36, 37, 38, 39, 40, 41, 42, 43, 44, 45, 46, 47, 48, 49, 50, 51, 52, 53, 54, 55, 56, 57, 58, 59, 60, 61, 62, 63, 64, 65, 66, 67, 68, 69, 70, 71, 72, 73, 74, 75, 76, 77, 78, 79, 80, 81, 82, 83, 84, 85, 86, 87, 88, 89, 90, 91, 92, 93, 94, 95, 96, 97, 98, 99, 100, 101, 102, 103, 104, 105, 106, 107, 108, 109, 110, 111, 112, 113, 114, 115, 116, 117, 118, 119, 120, 121, 122, 123, 124, 125, 126, 127, 128, 129, 130, 131, 132, 133, 134, 135, 136, 137, 138, 139, 140, 141, 142, 143, 144, 145, 146, 147, 152, 153, 154, 155, 156, 157, 158, 159, 160, 161, 162, 163, 164, 165, 166, 167, 168, 169, 170, 171, 172, 173, 174, 175, 176, 177, 178, 179] (by decide +kernel) (by decide +kernel)
set_option maxRecDepth 20000 in
theorem gX11_growsBy_X11_goes : GoodIn wsX11_growsBy (wsV RX11 342 RX11 yX11_goes wsX11_goes) := goodIn_app (goodIn_of _ (by decide +kernel)) ggX11_growsBy_X11_goes
set_option maxRecDepth 20000 in
theorem ggX11_growsBy_X11_gives : GoodIn wsX11_growsBy wsX11_gives := goodIn_r _ [151, 3, 152, 153, 154, 155, 156, 157, 158, 159, 160, 161, 162, 163, 164, 165, 166, 167, 168, 169, 170, 171, 172, 173, 174, 175, 176, 177, 178, 179] (by decide +kernel) (by decide +kernel)
set_option maxRecDepth 20000 in
theorem gX11_growsBy_X11_gives : GoodIn wsX11_growsBy (wsV RX11 312 RX11 yX11_gives wsX11_gives) := goodIn_app (goodIn_of _ (by decide +kernel)) ggX11_growsBy_X11_gives
set_option maxRecDepth 20000 in
theorem ggX11_partedWithout_X11_reckons : GoodIn wsX11_partedWithout wsX11_reckons := goodIn_r _ [7, 2, 1, 8, 9, 6, 10, 11, 12, 13, 14, 15, 16, 17, 18, 22, 23, 24, 25, 26, 27, 28, 29, 30, 31, 32, 33, 34, 35, 36, 37, 38, 39, 40, 41, 42, 43, 44, 45, 46, 47, 48, 49] (by decide +kernel) (by decide +kernel)
set_option maxRecDepth 20000 in
theorem gX11_partedWithout_X11_reckons : GoodIn wsX11_partedWithout (wsV RX11 102 RX11 yX11_reckons wsX11_reckons) := goodIn_app (goodIn_of _ (by decide +kernel)) ggX11_partedWithout_X11_reckons
set_option maxRecDepth 20000 in
theorem ggX11_partedWithout_X11_one : GoodIn wsX11_partedWithout wsX11_one := goodIn_r _ [21] (by decide +kernel) (by decide +kernel)
set_option maxRecDepth 20000 in
theorem gX11_partedWithout_X11_one : GoodIn wsX11_partedWithout (va_wsS RX11 115 yX11_one wsX11_one) := goodIn_app (goodIn_of _ (by decide +kernel)) ggX11_partedWithout_X11_one
set_option maxRecDepth 20000 in
theorem ggX11_dearestWay_X11_partedWithout : GoodIn wsX11_dearestWay wsX11_partedWithout := goodIn_r _ [7, 2, 8, 9, 10, 11, 6, 12, 13, 14, 15, 16, 17, 18, 19, 20, 21, 22, 23, 24, 25, 26, 27, 28, 29, 30, 31, 32, 33, 34, 35, 36, 37, 38, 39, 40, 41, 42, 43, 44, 45, 46, 47, 48, 49, 50, 51, 52, 53, 54] (by decide +kernel) (by decide +kernel)
set_option maxRecDepth 20000 in
theorem gX11_dearestWay_X11_partedWithout : GoodIn wsX11_dearestWay (wsV RX11 417 RX11 yX11_partedWithout wsX11_partedWithout) := goodIn_app (goodIn_of _ (by decide +kernel)) ggX11_dearestWay_X11_partedWithout
set_option maxRecDepth 20000 in
theorem ggX11_goesOut_X11_nearestOpen : GoodIn wsX11_goesOut wsX11_nearestOpen := goodIn_r _ [12, 3, 2, 1, 24, 25, 26, 27, 28, 29, 30, 31, 32, 33, 34, 35, 36, 37, 38, 39, 40, 41, 42, 43, 44, 45, 46, 47, 48, 49, 50, 51] (by decide +kernel) (by decide +kernel)
set_option maxRecDepth 20000 in
theorem gX11_goesOut_X11_nearestOpen : GoodIn wsX11_goesOut (wsV RX11 420 RX11 yX11_nearestOpen wsX11_nearestOpen) := goodIn_app (goodIn_of _ (by decide +kernel)) ggX11_goesOut_X11_nearestOpen
set_option maxRecDepth 20000 in
theorem ggX11_goesOut_X11_ends : GoodIn wsX11_goesOut wsX11_ends := goodIn_r _ [16, 3, 17, 18, 11, 19, 24, 25, 26, 27, 28, 29, 30, 31, 32, 33, 34, 35, 36, 37, 38, 39, 40, 41, 42, 43, 44, 45, 46, 47, 48, 49, 50, 51] (by decide +kernel) (by decide +kernel)
set_option maxRecDepth 20000 in
theorem gX11_goesOut_X11_ends : GoodIn wsX11_goesOut (wsV RX11 91 RX11 yX11_ends wsX11_ends) := goodIn_app (goodIn_of _ (by decide +kernel)) ggX11_goesOut_X11_ends
set_option maxRecDepth 20000 in
theorem ggX11_goesOut_X11_otherEnd : GoodIn wsX11_goesOut wsX11_otherEnd := goodIn_r _ [23, 3, 17, 18, 11, 19, 24, 25, 26, 27, 28, 29, 30, 31, 32, 33, 34, 35, 36, 37, 38, 39, 40, 41, 42, 43, 44, 45, 46, 47, 48, 49, 50, 51] (by decide +kernel) (by decide +kernel)
set_option maxRecDepth 20000 in
theorem gX11_goesOut_X11_otherEnd : GoodIn wsX11_goesOut (wsV RX11 95 RX11 yX11_otherEnd wsX11_otherEnd) := goodIn_app (goodIn_of _ (by decide +kernel)) ggX11_goesOut_X11_otherEnd
set_option maxRecDepth 20000 in
theorem ggX11_goesOut_X11_w : GoodIn wsX11_goesOut wsX11_w := goodIn_r _ [19] (by decide +kernel) (by decide +kernel)
set_option maxRecDepth 20000 in
theorem gX11_goesOut_X11_w : GoodIn wsX11_goesOut (va_wsS RX11 88 yX11_w wsX11_w) := goodIn_app (goodIn_of _ (by decide +kernel)) ggX11_goesOut_X11_w
set_option maxRecDepth 20000 in
theorem ggX11_areRoutes_X11_goesOut : GoodIn wsX11_areRoutes wsX11_goesOut := goodIn_r _ [8, 2, 9, 1, 10, 11, 12, 13, 14, 15, 16, 7, 17, 18, 19, 20, 21, 22, 23, 24, 25, 26, 27, 28, 37, 38, 39, 40, 41, 42, 43, 44, 45, 46, 47, 48, 49, 50, 51, 52, 53, 54, 55, 56, 57, 58, 59, 60, 61, 62, 63, 64] (by decide +kernel) (by decide +kernel)
set_option maxRecDepth 20000 in
theorem gX11_areRoutes_X11_goesOut : GoodIn wsX11_areRoutes (wsV RX11 423 RX11 yX11_goesOut wsX11_goesOut) := goodIn_app (goodIn_of _ (by decide +kernel)) ggX11_areRoutes_X11_goesOut
set_option maxRecDepth 20000 in
theorem ggX11_areRoutes_X11_reckons : GoodIn wsX11_areRoutes wsX11_reckons := goodIn_r _ [32, 3, 1, 22, 23, 7, 24, 33, 34, 35, 36, 25, 26, 27, 28, 37, 38, 39, 40, 41, 42, 43, 44, 45, 46, 47, 48, 49, 50, 51, 52, 53, 54, 55, 56, 57, 58, 59, 60, 61, 62, 63, 64] (by decide +kernel) (by decide +kernel)
set_option maxRecDepth 20000 in
theorem gX11_areRoutes_X11_reckons : GoodIn wsX11_areRoutes (wsV RX11 102 RX11 yX11_reckons wsX11_reckons) := goodIn_app (goodIn_of _ (by decide +kernel)) ggX11_areRoutes_X11_reckons
set_option maxRecDepth 20000 in
theorem ggX11_areTunes_X11_t : GoodIn wsX11_areTunes wsX11_t := goodIn_r _ [5] (by decide +kernel) (by decide +kernel)
set_option maxRecDepth 20000 in
theorem gX11_areTunes_X11_t : GoodIn wsX11_areTunes (va_wsS RX11 109 yX11_t wsX11_t) := goodIn_app (goodIn_of _ (by decide +kernel)) ggX11_areTunes_X11_t
set_option maxRecDepth 20000 in
theorem ggX11_areTunes_X11_isRoof : GoodIn wsX11_areTunes wsX11_isRoof := goodIn_r _ [9, 1, 10, 11, 4, 12, 13, 14, 15, 16, 17, 18, 19, 20, 21, 22, 23, 24, 25, 26, 27, 28, 29, 30, 31, 32, 33, 34, 35, 36, 37, 38, 39, 40] (by decide +kernel) (by decide +kernel)
set_option maxRecDepth 20000 in
theorem gX11_areTunes_X11_isRoof : GoodIn wsX11_areTunes (wsV RX11 380 RX11 yX11_isRoof wsX11_isRoof) := goodIn_app (goodIn_of _ (by decide +kernel)) ggX11_areTunes_X11_isRoof
set_option maxRecDepth 20000 in
theorem ggX11_agree_X11_those : GoodIn wsX11_agree wsX11_those := goodIn_r _ [7, 2, 8, 9, 6, 10, 11, 12, 13, 70, 71, 72, 73, 74, 75, 76, 77, 78, 79, 80, 81, 82, 83, 84, 85, 86, 87, 88, 89, 90, 91, 92, 93, 94, 95, 96, 97] (by decide +kernel) (by decide +kernel)
set_option maxRecDepth 20000 in
theorem gX11_agree_X11_those : GoodIn wsX11_agree (wsV RX11 369 RX11 yX11_those wsX11_those) := goodIn_app (goodIn_of _ (by decide +kernel)) ggX11_agree_X11_those
set_option maxRecDepth 20000 in
theorem ggX11_agree_X11_purses : GoodIn wsX11_agree wsX11_purses := goodIn_r _ [17, 2, 18, 19, 6, 20, 70, 71, 72, 73, 74, 75, 76, 77, 78, 79, 80, 81, 82, 83, 84, 85, 86, 87, 88, 89, 90, 91, 92, 93, 94, 95, 96, 97] (by decide +kernel) (by decide +kernel)
set_option maxRecDepth 20000 in
theorem gX11_agree_X11_purses : GoodIn wsX11_agree (wsV RX11 375 RX11 yX11_purses wsX11_purses) := goodIn_app (goodIn_of _ (by decide +kernel)) ggX11_agree_X11_purses
set_option maxRecDepth 20000 in
theorem ggX11_agree_X11_areTunes : GoodIn wsX11_agree wsX11_areTunes := goodIn_r _ [24, 2, 8, 9, 6, 10, 25, 26, 27, 28, 29, 30, 31, 70, 71, 72, 73, 74, 75, 76, 77, 78, 79, 80, 81, 82, 83, 84, 85, 86, 87, 88, 89, 90, 91, 92, 93, 94, 95, 96, 97] (by decide +kernel) (by decide +kernel)
set_option maxRecDepth 20000 in
theorem gX11_agree_X11_areTunes : GoodIn wsX11_agree (wsV RX11 426 RX11 yX11_areTunes wsX11_areTunes) := goodIn_app (goodIn_of _ (by decide +kernel)) ggX11_agree_X11_areTunes
set_option maxRecDepth 20000 in
theorem ggX11_agree_X11_areRoutes : GoodIn wsX11_agree wsX11_areRoutes := goodIn_r _ [35, 2, 36, 37, 38, 39, 40, 6, 41, 42, 43, 44, 45, 46, 47, 48, 49, 50, 51, 52, 53, 54, 55, 56, 57, 58, 59, 60, 61, 62, 63, 64, 65, 66, 67, 68, 69, 70, 71, 72, 73, 74, 75, 76, 77, 78, 79, 80, 81, 82, 83, 84, 85, 86, 87, 88, 89, 90, 91, 92, 93, 94, 95, 96, 97] (by decide +kernel) (by decide +kernel)
set_option maxRecDepth 20000 in
theorem gX11_agree_X11_areRoutes : GoodIn wsX11_agree (wsV RX11 430 RX11 yX11_areRoutes wsX11_areRoutes) := goodIn_app (goodIn_of _ (by decide +kernel)) ggX11_agree_X11_areRoutes
set_option maxRecDepth 20000 in
theorem ggX11_meanPurse_X11_purses : GoodIn wsX11_meanPurse wsX11_purses := goodIn_r _ [7, 2, 8, 9, 6, 10, 11, 12, 13, 14, 15, 16, 17, 18, 19, 20, 21, 22, 23, 24, 25, 26, 27, 28, 29, 30, 31, 32, 33, 34, 35, 36, 37, 38] (by decide +kernel) (by decide +kernel)
set_option maxRecDepth 20000 in
theorem gX11_meanPurse_X11_purses : GoodIn wsX11_meanPurse (wsV RX11 375 RX11 yX11_purses wsX11_purses) := goodIn_app (goodIn_of _ (by decide +kernel)) ggX11_meanPurse_X11_purses
set_option maxRecDepth 20000 in
theorem ggX11_send_X11_in : GoodIn wsX11_send wsX11_in := goodIn_r _ [6] (by decide +kernel) (by decide +kernel)
set_option maxRecDepth 20000 in
theorem gX11_send_X11_in : GoodIn wsX11_send (va_wsS RX11 199 yX11_in wsX11_in) := goodIn_app (goodIn_of _ (by decide +kernel)) ggX11_send_X11_in
set_option maxRecDepth 20000 in
theorem ggX11_send_X11_sings : GoodIn wsX11_send wsX11_sings := goodIn_r _ [10, 11, 12, 50, 51, 52, 53, 54, 55, 56, 57, 58, 59, 60, 61, 62, 63, 64, 65, 66, 67, 68, 69, 70, 71, 72, 73, 74, 75, 76, 77] (by decide +kernel) (by decide +kernel)
set_option maxRecDepth 20000 in
theorem gX11_send_X11_sings : GoodIn wsX11_send (wsV RX11 435 RX11 yX11_sings wsX11_sings) := goodIn_app (goodIn_of _ (by decide +kernel)) ggX11_send_X11_sings
set_option maxRecDepth 20000 in
theorem ggX11_send_X11_areRoofs : GoodIn wsX11_send wsX11_areRoofs := goodIn_r _ [16, 17, 18, 19, 5, 20, 2, 3, 4, 6, 50, 51, 52, 53, 54, 55, 56, 57, 58, 59, 60, 61, 62, 63, 64, 65, 66, 67, 68, 69, 70, 71, 72, 73, 74, 75, 76, 77] (by decide +kernel) (by decide +kernel)
set_option maxRecDepth 20000 in
theorem gX11_send_X11_areRoofs : GoodIn wsX11_send (wsV RX11 393 RX11 yX11_areRoofs wsX11_areRoofs) := goodIn_app (goodIn_of _ (by decide +kernel)) ggX11_send_X11_areRoofs
set_option maxRecDepth 20000 in
theorem ggX11_send_X11_may : GoodIn wsX11_send wsX11_may := goodIn_r _ [24, 25, 50, 51, 52, 53, 54, 55, 56, 57, 58, 59, 60, 61, 62, 63, 64, 65, 66, 67, 68, 69, 70, 71, 72, 73, 74, 75, 76, 77] (by decide +kernel) (by decide +kernel)
set_option maxRecDepth 20000 in
theorem gX11_send_X11_may : GoodIn wsX11_send (wsV RX11 365 RX11 yX11_may wsX11_may) := goodIn_app (goodIn_of _ (by decide +kernel)) ggX11_send_X11_may
set_option maxRecDepth 20000 in
theorem ggX11_send_X11_remembers : GoodIn wsX11_send wsX11_remembers := goodIn_r _ [29, 30, 31, 2, 50, 51, 52, 53, 54, 55, 56, 57, 58, 59, 60, 61, 62, 63, 64, 65, 66, 67, 68, 69, 70, 71, 72, 73, 74, 75, 76, 77] (by decide +kernel) (by decide +kernel)
set_option maxRecDepth 20000 in
theorem gX11_send_X11_remembers : GoodIn wsX11_send (wsV RX11 357 RX11 yX11_remembers wsX11_remembers) := goodIn_app (goodIn_of _ (by decide +kernel)) ggX11_send_X11_remembers
set_option maxRecDepth 20000 in
theorem ggX11_send_X11_newTune : GoodIn wsX11_send wsX11_newTune := goodIn_r _ [35, 2, 11, 12, 36, 37, 5, 38, 39, 40, 41, 42, 43, 44, 45, 46, 47, 48, 49, 50, 51, 52, 53, 54, 55, 56, 57, 58, 59, 60, 61, 62, 63, 64, 65, 66, 67, 68, 69, 70, 71, 72, 73, 74, 75, 76, 77] (by decide +kernel) (by decide +kernel)
set_option maxRecDepth 20000 in
theorem gX11_send_X11_newTune : GoodIn wsX11_send (wsV RX11 144 RX11 yX11_newTune wsX11_newTune) := goodIn_app (goodIn_of _ (by decide +kernel)) ggX11_send_X11_newTune
set_option maxRecDepth 20000 in
theorem ggX11_tick_X11_in : GoodIn wsX11_tick wsX11_in := goodIn_r _ [7] (by decide +kernel) (by decide +kernel)
set_option maxRecDepth 20000 in
theorem gX11_tick_X11_in : GoodIn wsX11_tick (va_wsS RX11 199 yX11_in wsX11_in) := goodIn_app (goodIn_of _ (by decide +kernel)) ggX11_tick_X11_in
set_option maxRecDepth 20000 in
theorem ggX11_tick_X11_may : GoodIn wsX11_tick wsX11_may := goodIn_r _ [11, 12, 149, 150, 151, 152, 153, 154, 155, 156, 157, 158, 159, 160, 161, 162, 163, 164, 165, 166, 167, 168, 169, 170, 171, 172, 173, 174, 175, 176] (by decide +kernel) (by decide +kernel)
set_option maxRecDepth 20000 in
theorem gX11_tick_X11_may : GoodIn wsX11_tick (wsV RX11 365 RX11 yX11_may wsX11_may) := goodIn_app (goodIn_of _ (by decide +kernel)) ggX11_tick_X11_may
set_option maxRecDepth 20000 in
theorem ggX11_tick_X11_remembers : GoodIn wsX11_tick wsX11_remembers := goodIn_r _ [16, 17, 18, 2, 149, 150, 151, 152, 153, 154, 155, 156, 157, 158, 159, 160, 161, 162, 163, 164, 165, 166, 167, 168, 169, 170, 171, 172, 173, 174, 175, 176] (by decide +kernel) (by decide +kernel)
set_option maxRecDepth 20000 in
theorem gX11_tick_X11_remembers : GoodIn wsX11_tick (wsV RX11 357 RX11 yX11_remembers wsX11_remembers) := goodIn_app (goodIn_of _ (by decide +kernel)) ggX11_tick_X11_remembers
set_option maxRecDepth 20000 in
theorem ggX11_tick_X11_goes : GoodIn wsX11_tick wsX11_goes := goodIn_r _ [22, 2, 23, 24, 25, 6, 26, 27, 28, 29, 30, 31, 32, 33, 34, 35, 36, 37, 38, 39, 40, 41, 42, 43, 44, 45, 46, 47, 48, 49, 50, 51, 52, 53, 54, 55, 56, 57, 58, 59, 60, 61, 62, 63, 64, 65, 66, 67, 68, 69, 70, 71, 72, 73, 74, 75, 76, 77, 78, 79, 80, 81, 82, 83, 84, 85, 86, 87, 88, 89, 90, 91, 92, 93, 94, 95, 96, 97, 98, 99, 100, 101, 102, 103, 104, 105, 106, 107, 108, 109, 110, 111, 112, 113, 114, 115, 116, 117, 118, 119, 120, 121, 122, 123, 124, 125, 126, 127, 128, 129, 130, 131, 132, 133, 134, 135, 136, 137, 138, 139, 140, 141, 142, 143, 144, 145, 146, 147, 148, 149, 150, 151, 152, 153, 154, 155, 156, 157, 158, 159, 160, 161, 162, 163, 164, 165, 166, 167, 168, 169, 170, 171, 172, 173, 174, 175, 176] (by decide +kernel) (by decide +kernel)
set_option maxRecDepth 20000 in
theorem gX11_tick_X11_goes : GoodIn wsX11_tick (wsV RX11 342 RX11 yX11_goes wsX11_goes) := goodIn_app (goodIn_of _ (by decide +kernel)) ggX11_tick_X11_goes
set_option maxRecDepth 20000 in
theorem ggX11_give_X11_isRoof : GoodIn wsX11_give wsX11_isRoof := goodIn_r _ [7, 2, 8, 9, 6, 10, 33, 34, 35, 36, 37, 38, 39, 40, 41, 42, 43, 44, 45, 46, 47, 48, 49, 50, 51, 52, 53, 54, 55, 56, 57, 58, 59, 60] (by decide +kernel) (by decide +kernel)
set_option maxRecDepth 20000 in
theorem gX11_give_X11_isRoof : GoodIn wsX11_give (wsV RX11 380 RX11 yX11_isRoof wsX11_isRoof) := goodIn_app (goodIn_of _ (by decide +kernel)) ggX11_give_X11_isRoof
set_option maxRecDepth 20000 in
theorem ggX11_give_X11_in : GoodIn wsX11_give wsX11_in := goodIn_r _ [10] (by decide +kernel) (by decide +kernel)
set_option maxRecDepth 20000 in
theorem gX11_give_X11_in : GoodIn wsX11_give (va_wsS RX11 199 yX11_in wsX11_in) := goodIn_app (goodIn_of _ (by decide +kernel)) ggX11_give_X11_in
set_option maxRecDepth 20000 in
theorem ggX11_give_X11_r : GoodIn wsX11_give wsX11_r := goodIn_r _ [13] (by decide +kernel) (by decide +kernel)
set_option maxRecDepth 20000 in
theorem gX11_give_X11_r : GoodIn wsX11_give (va_wsS RX11 84 yX11_r wsX11_r) := goodIn_app (goodIn_of _ (by decide +kernel)) ggX11_give_X11_r
set_option maxRecDepth 20000 in
theorem ggX11_give_X11_may : GoodIn wsX11_give wsX11_may := goodIn_r _ [17, 18, 33, 34, 35, 36, 37, 38, 39, 40, 41, 42, 43, 44, 45, 46, 47, 48, 49, 50, 51, 52, 53, 54, 55, 56, 57, 58, 59, 60] (by decide +kernel) (by decide +kernel)
set_option maxRecDepth 20000 in
theorem gX11_give_X11_may : GoodIn wsX11_give (wsV RX11 365 RX11 yX11_may wsX11_may) := goodIn_app (goodIn_of _ (by decide +kernel)) ggX11_give_X11_may
set_option maxRecDepth 20000 in
theorem ggX11_give_X11_remembers : GoodIn wsX11_give wsX11_remembers := goodIn_r _ [22, 23, 24, 2, 33, 34, 35, 36, 37, 38, 39, 40, 41, 42, 43, 44, 45, 46, 47, 48, 49, 50, 51, 52, 53, 54, 55, 56, 57, 58, 59, 60] (by decide +kernel) (by decide +kernel)
set_option maxRecDepth 20000 in
theorem gX11_give_X11_remembers : GoodIn wsX11_give (wsV RX11 357 RX11 yX11_remembers wsX11_remembers) := goodIn_app (goodIn_of _ (by decide +kernel)) ggX11_give_X11_remembers
set_option maxRecDepth 20000 in
theorem ggX11_give_X11_givesCoins : GoodIn wsX11_give wsX11_givesCoins := goodIn_r _ [28, 2, 11, 12, 6, 13, 29, 30, 31, 32, 33, 34, 35, 36, 37, 38, 39, 40, 41, 42, 43, 44, 45, 46, 47, 48, 49, 50, 51, 52, 53, 54, 55, 56, 57, 58, 59, 60] (by decide +kernel) (by decide +kernel)
set_option maxRecDepth 20000 in
theorem gX11_give_X11_givesCoins : GoodIn wsX11_give (wsV RX11 345 RX11 yX11_givesCoins wsX11_givesCoins) := goodIn_app (goodIn_of _ (by decide +kernel)) ggX11_give_X11_givesCoins
set_option maxRecDepth 20000 in
theorem ggX11_cut_X11_areRoofs : GoodIn wsX11_cut wsX11_areRoofs := goodIn_r _ [5, 6, 7, 8, 4, 9, 10, 11, 12, 13, 40, 41, 42, 43, 44, 45, 46, 47, 48, 49, 50, 51, 52, 53, 54, 55, 56, 57, 58, 59, 60, 61, 62, 63, 64, 65, 66, 67] (by decide +kernel) (by decide +kernel)
set_option maxRecDepth 20000 in
theorem gX11_cut_X11_areRoofs : GoodIn wsX11_cut (wsV RX11 393 RX11 yX11_areRoofs wsX11_areRoofs) := goodIn_app (goodIn_of _ (by decide +kernel)) ggX11_cut_X11_areRoofs
set_option maxRecDepth 20000 in
theorem ggX11_cut_X11_wayBetween : GoodIn wsX11_cut wsX11_wayBetween := goodIn_r _ [17, 10, 18, 19, 20, 4, 21, 22, 23, 24, 40, 41, 42, 43, 44, 45, 46, 47, 48, 49, 50, 51, 52, 53, 54, 55, 56, 57, 58, 59, 60, 61, 62, 63, 64, 65, 66, 67] (by decide +kernel) (by decide +kernel)
set_option maxRecDepth 20000 in
theorem gX11_cut_X11_wayBetween : GoodIn wsX11_cut (wsV RX11 169 RX11 yX11_wayBetween wsX11_wayBetween) := goodIn_app (goodIn_of _ (by decide +kernel)) ggX11_cut_X11_wayBetween
set_option maxRecDepth 20000 in
theorem ggX11_cut_X11_may : GoodIn wsX11_cut wsX11_may := goodIn_r _ [28, 29, 40, 41, 42, 43, 44, 45, 46, 47, 48, 49, 50, 51, 52, 53, 54, 55, 56, 57, 58, 59, 60, 61, 62, 63, 64, 65, 66, 67] (by decide +kernel) (by decide +kernel)
set_option maxRecDepth 20000 in
theorem gX11_cut_X11_may : GoodIn wsX11_cut (wsV RX11 365 RX11 yX11_may wsX11_may) := goodIn_app (goodIn_of _ (by decide +kernel)) ggX11_cut_X11_may
set_option maxRecDepth 20000 in
theorem ggX11_cut_X11_remembers : GoodIn wsX11_cut wsX11_remembers := goodIn_r _ [33, 34, 35, 10, 40, 41, 42, 43, 44, 45, 46, 47, 48, 49, 50, 51, 52, 53, 54, 55, 56, 57, 58, 59, 60, 61, 62, 63, 64, 65, 66, 67] (by decide +kernel) (by decide +kernel)
set_option maxRecDepth 20000 in
theorem gX11_cut_X11_remembers : GoodIn wsX11_cut (wsV RX11 357 RX11 yX11_remembers wsX11_remembers) := goodIn_app (goodIn_of _ (by decide +kernel)) ggX11_cut_X11_remembers
set_option maxRecDepth 20000 in
theorem ggX11_cut_X11_cuts : GoodIn wsX11_cut wsX11_cuts := goodIn_r _ [39, 10, 22, 23, 4, 24, 40, 41, 42, 43, 44, 45, 46, 47, 48, 49, 50, 51, 52, 53, 54, 55, 56, 57, 58, 59, 60, 61, 62, 63, 64, 65, 66, 67] (by decide +kernel) (by decide +kernel)
set_option maxRecDepth 20000 in
theorem gX11_cut_X11_cuts : GoodIn wsX11_cut (wsV RX11 348 RX11 yX11_cuts wsX11_cuts) := goodIn_app (goodIn_of _ (by decide +kernel)) ggX11_cut_X11_cuts
set_option maxRecDepth 20000 in
theorem ggX11_set_X11_in : GoodIn wsX11_set wsX11_in := goodIn_r _ [6] (by decide +kernel) (by decide +kernel)
set_option maxRecDepth 20000 in
theorem gX11_set_X11_in : GoodIn wsX11_set (va_wsS RX11 199 yX11_in wsX11_in) := goodIn_app (goodIn_of _ (by decide +kernel)) ggX11_set_X11_in
set_option maxRecDepth 20000 in
theorem ggX11_set_X11_lowOf : GoodIn wsX11_set wsX11_lowOf := goodIn_r _ [9] (by decide +kernel) (by decide +kernel)
set_option maxRecDepth 20000 in
theorem gX11_set_X11_lowOf : GoodIn wsX11_set (va_wsS RX11 277 yX11_lowOf wsX11_lowOf) := goodIn_app (goodIn_of _ (by decide +kernel)) ggX11_set_X11_lowOf
set_option maxRecDepth 20000 in
theorem ggX11_set_X11_highOf : GoodIn wsX11_set wsX11_highOf := goodIn_r _ [12] (by decide +kernel) (by decide +kernel)
set_option maxRecDepth 20000 in
theorem gX11_set_X11_highOf : GoodIn wsX11_set (va_wsS RX11 280 yX11_highOf wsX11_highOf) := goodIn_app (goodIn_of _ (by decide +kernel)) ggX11_set_X11_highOf
set_option maxRecDepth 20000 in
theorem ggX11_set_X11_may : GoodIn wsX11_set wsX11_may := goodIn_r _ [16, 17, 29, 30, 31, 32, 33, 34, 35, 36, 37, 38, 39, 40, 41, 42, 43, 44, 45, 46, 47, 48, 49, 50, 51, 52, 53, 54, 55, 56] (by decide +kernel) (by decide +kernel)
set_option maxRecDepth 20000 in
theorem gX11_set_X11_may : GoodIn wsX11_set (wsV RX11 365 RX11 yX11_may wsX11_may) := goodIn_app (goodIn_of _ (by decide +kernel)) ggX11_set_X11_may
set_option maxRecDepth 20000 in
theorem ggX11_set_X11_remembers : GoodIn wsX11_set wsX11_remembers := goodIn_r _ [21, 22, 23, 24, 29, 30, 31, 32, 33, 34, 35, 36, 37, 38, 39, 40, 41, 42, 43, 44, 45, 46, 47, 48, 49, 50, 51, 52, 53, 54, 55, 56] (by decide +kernel) (by decide +kernel)
set_option maxRecDepth 20000 in
theorem gX11_set_X11_remembers : GoodIn wsX11_set (wsV RX11 357 RX11 yX11_remembers wsX11_remembers) := goodIn_app (goodIn_of _ (by decide +kernel)) ggX11_set_X11_remembers
set_option maxRecDepth 20000 in
theorem ggX11_set_X11_sets : GoodIn wsX11_set wsX11_sets := goodIn_r _ [28, 24, 29, 30, 31, 32, 33, 34, 35, 36, 37, 38, 39, 40, 41, 42, 43, 44, 45, 46, 47, 48, 49, 50, 51, 52, 53, 54, 55, 56] (by decide +kernel) (by decide +kernel)
set_option maxRecDepth 20000 in
theorem gX11_set_X11_sets : GoodIn wsX11_set (wsV RX11 351 RX11 yX11_sets wsX11_sets) := goodIn_app (goodIn_of _ (by decide +kernel)) ggX11_set_X11_sets
set_option maxRecDepth 20000 in
theorem ggX11_undo_X11_may : GoodIn wsX11_undo wsX11_may := goodIn_r _ [8, 9, 10, 11, 12, 13, 14, 15, 16, 17, 18, 19, 20, 21, 22, 23, 24, 25, 26, 27, 28, 29, 30, 31, 32, 33, 34, 35, 36, 37] (by decide +kernel) (by decide +kernel)
set_option maxRecDepth 20000 in
theorem gX11_undo_X11_may : GoodIn wsX11_undo (wsV RX11 365 RX11 yX11_may wsX11_may) := goodIn_app (goodIn_of _ (by decide +kernel)) ggX11_undo_X11_may
set_option maxRecDepth 20000 in
theorem ggX11_saysNumber_X11_says : GoodIn wsX11_saysNumber wsX11_says := goodIn_r _ [5, 6, 7, 8, 9, 10, 11, 12, 13, 14, 15, 16, 17, 18, 19, 20, 21, 22, 23, 24, 25, 26, 27, 28, 29, 30, 31, 32, 33, 34, 35] (by decide +kernel) (by decide +kernel)
set_option maxRecDepth 20000 in
theorem gX11_saysNumber_X11_says : GoodIn wsX11_saysNumber (wsV RX11 445 RX11 yX11_says wsX11_says) := goodIn_app (goodIn_of _ (by decide +kernel)) ggX11_saysNumber_X11_says
set_option maxRecDepth 20000 in
theorem ggX11_saysName_X11_r : GoodIn wsX11_saysName wsX11_r := goodIn_r _ [5] (by decide +kernel) (by decide +kernel)
set_option maxRecDepth 20000 in
theorem gX11_saysName_X11_r : GoodIn wsX11_saysName (va_wsS RX11 84 yX11_r wsX11_r) := goodIn_app (goodIn_of _ (by decide +kernel)) ggX11_saysName_X11_r
set_option maxRecDepth 20000 in
theorem ggX11_saysName_X11_says : GoodIn wsX11_saysName wsX11_says := goodIn_r _ [9, 10, 11, 12, 13, 14, 15, 16, 17, 18, 19, 20, 21, 22, 23, 24, 25, 26, 27, 28, 29, 30, 31, 32, 33, 34, 35, 36, 37, 38, 39] (by decide +kernel) (by decide +kernel)
set_option maxRecDepth 20000 in
theorem gX11_saysName_X11_says : GoodIn wsX11_saysName (wsV RX11 445 RX11 yX11_says wsX11_says) := goodIn_app (goodIn_of _ (by decide +kernel)) ggX11_saysName_X11_says
set_option maxRecDepth 20000 in
theorem ggX11_saysRoof_X11_says : GoodIn wsX11_saysRoof wsX11_says := goodIn_r _ [6, 7, 8, 38, 39, 40, 41, 42, 43, 44, 45, 46, 47, 48, 49, 50, 51, 52, 53, 54, 55, 56, 57, 58, 59, 60, 61, 62, 63, 64, 65] (by decide +kernel) (by decide +kernel)
set_option maxRecDepth 20000 in
theorem gX11_saysRoof_X11_says : GoodIn wsX11_saysRoof (wsV RX11 445 RX11 yX11_says wsX11_says) := goodIn_app (goodIn_of _ (by decide +kernel)) ggX11_saysRoof_X11_says
set_option maxRecDepth 20000 in
theorem ggX11_saysRoof_X11_saysName : GoodIn wsX11_saysRoof wsX11_saysName := goodIn_r _ [12, 1, 13, 14, 5, 15, 2, 3, 4, 6, 7, 8, 38, 39, 40, 41, 42, 43, 44, 45, 46, 47, 48, 49, 50, 51, 52, 53, 54, 55, 56, 57, 58, 59, 60, 61, 62, 63, 64, 65] (by decide +kernel) (by decide +kernel)
set_option maxRecDepth 20000 in
theorem gX11_saysRoof_X11_saysName : GoodIn wsX11_saysRoof (wsV RX11 448 RX11 yX11_saysName wsX11_saysName) := goodIn_app (goodIn_of _ (by decide +kernel)) ggX11_saysRoof_X11_saysName
set_option maxRecDepth 20000 in
theorem ggX11_saysRoof_X11_r : GoodIn wsX11_saysRoof wsX11_r := goodIn_r _ [15] (by decide +kernel) (by decide +kernel)
set_option maxRecDepth 20000 in
theorem gX11_saysRoof_X11_r : GoodIn wsX11_saysRoof (va_wsS RX11 84 yX11_r wsX11_r) := goodIn_app (goodIn_of _ (by decide +kernel)) ggX11_saysRoof_X11_r
set_option maxRecDepth 20000 in
theorem ggX11_saysRoof_X11_saysNumber : GoodIn wsX11_saysRoof wsX11_saysNumber := goodIn_r _ [19, 2, 3, 4, 5, 6, 7, 8, 38, 39, 40, 41, 42, 43, 44, 45, 46, 47, 48, 49, 50, 51, 52, 53, 54, 55, 56, 57, 58, 59, 60, 61, 62, 63, 64, 65] (by decide +kernel) (by decide +kernel)
set_option maxRecDepth 20000 in
theorem gX11_saysRoof_X11_saysNumber : GoodIn wsX11_saysRoof (wsV RX11 451 RX11 yX11_saysNumber wsX11_saysNumber) := goodIn_app (goodIn_of _ (by decide +kernel)) ggX11_saysRoof_X11_saysNumber
set_option maxRecDepth 20000 in
theorem ggX11_saysRoof_X11_isBusy : GoodIn wsX11_saysRoof wsX11_isBusy := goodIn_r _ [23, 1, 13, 14, 5, 15, 38, 39, 40, 41, 42, 43, 44, 45, 46, 47, 48, 49, 50, 51, 52, 53, 54, 55, 56, 57, 58, 59, 60, 61, 62, 63, 64, 65] (by decide +kernel) (by decide +kernel)
set_option maxRecDepth 20000 in
theorem gX11_saysRoof_X11_isBusy : GoodIn wsX11_saysRoof (wsV RX11 178 RX11 yX11_isBusy wsX11_isBusy) := goodIn_app (goodIn_of _ (by decide +kernel)) ggX11_saysRoof_X11_isBusy
set_option maxRecDepth 20000 in
theorem ggX11_saysRoof_X11_waitingMany : GoodIn wsX11_saysRoof wsX11_waitingMany := goodIn_r _ [27, 1, 28, 29, 30, 5, 31, 32, 33, 34, 35, 36, 37, 38, 39, 40, 41, 42, 43, 44, 45, 46, 47, 48, 49, 50, 51, 52, 53, 54, 55, 56, 57, 58, 59, 60, 61, 62, 63, 64, 65] (by decide +kernel) (by decide +kernel)
set_option maxRecDepth 20000 in
theorem gX11_saysRoof_X11_waitingMany : GoodIn wsX11_saysRoof (wsV RX11 385 RX11 yX11_waitingMany wsX11_waitingMany) := goodIn_app (goodIn_of _ (by decide +kernel)) ggX11_saysRoof_X11_waitingMany
set_option maxRecDepth 20000 in
theorem ggX11_printRoofs_X11_saysRoof : GoodIn wsX11_printRoofs wsX11_saysRoof := goodIn_r _ [8, 3, 9, 10, 11, 7, 12, 13, 2, 14, 15, 16, 17, 18, 19, 20, 21, 22, 23, 24, 25, 26, 27, 28, 29, 30, 31, 32, 33, 34, 35, 36, 37, 38, 39, 40, 41, 42, 43, 44, 45, 46, 47, 48, 49, 50, 51, 52, 53, 54, 55, 56, 57, 58, 59, 60, 61, 62, 63, 64, 65, 66, 67, 68, 69, 70] (by decide +kernel) (by decide +kernel)
set_option maxRecDepth 20000 in
theorem gX11_printRoofs_X11_saysRoof : GoodIn wsX11_printRoofs (wsV RX11 454 RX11 yX11_saysRoof wsX11_saysRoof) := goodIn_app (goodIn_of _ (by decide +kernel)) ggX11_printRoofs_X11_saysRoof
set_option maxRecDepth 20000 in
theorem ggX11_printTune_X11_isTune : GoodIn wsX11_printTune wsX11_isTune := goodIn_r _ [7, 2, 8, 9, 6, 10, 31, 32, 33, 34, 35, 36, 37, 38, 39, 40, 41, 42, 43, 44, 45, 46, 47, 48, 49, 50, 51, 52, 53, 54, 55, 56, 57, 58] (by decide +kernel) (by decide +kernel)
set_option maxRecDepth 20000 in
theorem gX11_printTune_X11_isTune : GoodIn wsX11_printTune (wsV RX11 396 RX11 yX11_isTune wsX11_isTune) := goodIn_app (goodIn_of _ (by decide +kernel)) ggX11_printTune_X11_isTune
set_option maxRecDepth 20000 in
theorem ggX11_printTune_X11_may : GoodIn wsX11_printTune wsX11_may := goodIn_r _ [14, 15, 31, 32, 33, 34, 35, 36, 37, 38, 39, 40, 41, 42, 43, 44, 45, 46, 47, 48, 49, 50, 51, 52, 53, 54, 55, 56, 57, 58] (by decide +kernel) (by decide +kernel)
set_option maxRecDepth 20000 in
theorem gX11_printTune_X11_may : GoodIn wsX11_printTune (wsV RX11 365 RX11 yX11_may wsX11_may) := goodIn_app (goodIn_of _ (by decide +kernel)) ggX11_printTune_X11_may
set_option maxRecDepth 20000 in
theorem ggX11_printTune_X11_t : GoodIn wsX11_printTune wsX11_t := goodIn_r _ [18] (by decide +kernel) (by decide +kernel)
set_option maxRecDepth 20000 in
theorem gX11_printTune_X11_t : GoodIn wsX11_printTune (va_wsS RX11 109 yX11_t wsX11_t) := goodIn_app (goodIn_of _ (by decide +kernel)) ggX11_printTune_X11_t
set_option maxRecDepth 20000 in
theorem ggX11_printTune_X11_says : GoodIn wsX11_printTune wsX11_says := goodIn_r _ [22, 23, 1, 31, 32, 33, 34, 35, 36, 37, 38, 39, 40, 41, 42, 43, 44, 45, 46, 47, 48, 49, 50, 51, 52, 53, 54, 55, 56, 57, 58] (by decide +kernel) (by decide +kernel)
set_option maxRecDepth 20000 in
theorem gX11_printTune_X11_says : GoodIn wsX11_printTune (wsV RX11 445 RX11 yX11_says wsX11_says) := goodIn_app (goodIn_of _ (by decide +kernel)) ggX11_printTune_X11_says
set_option maxRecDepth 20000 in
theorem ggX11_printTune_X11_saysName : GoodIn wsX11_printTune wsX11_saysName := goodIn_r _ [27, 2, 28, 29, 6, 30, 19, 20, 21, 22, 23, 1, 31, 32, 33, 34, 35, 36, 37, 38, 39, 40, 41, 42, 43, 44, 45, 46, 47, 48, 49, 50, 51, 52, 53, 54, 55, 56, 57, 58] (by decide +kernel) (by decide +kernel)
set_option maxRecDepth 20000 in
theorem gX11_printTune_X11_saysName : GoodIn wsX11_printTune (wsV RX11 448 RX11 yX11_saysName wsX11_saysName) := goodIn_app (goodIn_of _ (by decide +kernel)) ggX11_printTune_X11_saysName
set_option maxRecDepth 20000 in
theorem ggX11_outputByte_X11_in : GoodIn wsX11_outputByte wsX11_in := goodIn_r _ [7] (by decide +kernel) (by decide +kernel)
set_option maxRecDepth 20000 in
theorem gX11_outputByte_X11_in : GoodIn wsX11_outputByte (va_wsS RX11 199 yX11_in wsX11_in) := goodIn_app (goodIn_of _ (by decide +kernel)) ggX11_outputByte_X11_in
set_option maxRecDepth 20000 in
theorem ggX11_saveState_X11_copies : GoodIn wsX11_saveState wsX11_copies := goodIn_r _ [9, 4, 10, 11, 12, 13, 14, 15, 16, 17, 18, 19, 20, 21, 22, 23, 24, 25, 26, 27, 28, 29, 30, 31, 32, 33, 34, 35, 36, 37] (by decide +kernel) (by decide +kernel)
set_option maxRecDepth 20000 in
theorem gX11_saveState_X11_copies : GoodIn wsX11_saveState (wsV RX11 299 RX11 yX11_copies wsX11_copies) := goodIn_app (goodIn_of _ (by decide +kernel)) ggX11_saveState_X11_copies
set_option maxRecDepth 20000 in
theorem ggX11_restoreState_X11_may : GoodIn wsX11_restoreState wsX11_may := goodIn_r _ [9, 10, 15, 16, 17, 18, 19, 20, 21, 22, 23, 24, 25, 26, 27, 28, 29, 30, 31, 32, 33, 34, 35, 36, 37, 38, 39, 40, 41, 42] (by decide +kernel) (by decide +kernel)
set_option maxRecDepth 20000 in
theorem gX11_restoreState_X11_may : GoodIn wsX11_restoreState (wsV RX11 365 RX11 yX11_may wsX11_may) := goodIn_app (goodIn_of _ (by decide +kernel)) ggX11_restoreState_X11_may
set_option maxRecDepth 20000 in
theorem ggX11_restoreState_X11_gives : GoodIn wsX11_restoreState wsX11_gives := goodIn_r _ [14, 4, 15, 16, 17, 18, 19, 20, 21, 22, 23, 24, 25, 26, 27, 28, 29, 30, 31, 32, 33, 34, 35, 36, 37, 38, 39, 40, 41, 42] (by decide +kernel) (by decide +kernel)
set_option maxRecDepth 20000 in
theorem gX11_restoreState_X11_gives : GoodIn wsX11_restoreState (wsV RX11 312 RX11 yX11_gives wsX11_gives) := goodIn_app (goodIn_of _ (by decide +kernel)) ggX11_restoreState_X11_gives
set_option maxRecDepth 20000 in
theorem ggJ0_length_8abf5_J0_coder_7d493 : GoodIn wsJ0_length_8abf5 wsJ0_coder_7d493 := goodIn_r _ [6, 7, 8] (by decide +kernel) (by decide +kernel)
set_option maxRecDepth 20000 in
theorem gJ0_length_8abf5_J0_coder_7d493 : GoodIn wsJ0_length_8abf5 (wsV RJ0 335 RJ0 yJ0_coder_7d493 wsJ0_coder_7d493) := goodIn_app (goodIn_of _ (by decide +kernel)) ggJ0_length_8abf5_J0_coder_7d493
set_option maxRecDepth 20000 in
theorem ggJ0_charAt_5068e_J0_isLatin1_aae02 : GoodIn wsJ0_charAt_5068e wsJ0_isLatin1_aae02 := goodIn_r _ [6, 7, 8] (by decide +kernel) (by decide +kernel)
set_option maxRecDepth 20000 in
theorem gJ0_charAt_5068e_J0_isLatin1_aae02 : GoodIn wsJ0_charAt_5068e (wsV RJ0 492 RJ0 yJ0_isLatin1_aae02 wsJ0_isLatin1_aae02) := goodIn_app (goodIn_of _ (by decide +kernel)) ggJ0_charAt_5068e_J0_isLatin1_aae02
set_option maxRecDepth 20000 in
theorem ggJ0_charAt_5068e_J1_charAt_3b067 : GoodIn wsJ0_charAt_5068e wsJ1_charAt_3b067 := goodIn_r _ [12, 13, 14, 5, 15, 16, 17, 18, 19, 20] (by decide +kernel) (by decide +kernel)
set_option maxRecDepth 20000 in
theorem gJ0_charAt_5068e_J1_charAt_3b067 : GoodIn wsJ0_charAt_5068e (va_wsS RJ0 495 yJ1_charAt_3b067 wsJ1_charAt_3b067) := goodIn_app (goodIn_of _ (by decide +kernel)) ggJ0_charAt_5068e_J1_charAt_3b067
set_option maxRecDepth 20000 in
theorem ggJ0_charAt_5068e_J2_charAt_3b067 : GoodIn wsJ0_charAt_5068e wsJ2_charAt_3b067 := goodIn_r _ [24, 25, 26, 23, 27, 28, 29, 30, 31, 14, 5, 15, 16, 17, 18, 19, 20, 32, 33, 34, 35, 36, 37] (by decide +kernel) (by decide +kernel)
set_option maxRecDepth 20000 in
theorem gJ0_charAt_5068e_J2_charAt_3b067 : GoodIn wsJ0_charAt_5068e (va_wsS RJ0 498 yJ2_charAt_3b067 wsJ2_charAt_3b067) := goodIn_app (goodIn_of _ (by decide +kernel)) ggJ0_charAt_5068e_J2_charAt_3b067
set_option maxRecDepth 20000 in
theorem ggJ0_checkIndex_df160_J3_checkIndex_8e157 : GoodIn wsJ0_checkIndex_df160 wsJ3_checkIndex_8e157 := goodIn_r _ [5] (by decide +kernel) (by decide +kernel)
set_option maxRecDepth 20000 in
theorem gJ0_checkIndex_df160_J3_checkIndex_8e157 : GoodIn wsJ0_checkIndex_df160 (va_wsS RJ0 1059 yJ3_checkIndex_8e157 wsJ3_checkIndex_8e157) := goodIn_app (goodIn_of _ (by decide +kernel)) ggJ0_checkIndex_df160_J3_checkIndex_8e157
set_option maxRecDepth 20000 in
theorem ggJ1_charAt_3b067_J0_checkIndex_df160 : GoodIn wsJ1_charAt_3b067 wsJ0_checkIndex_df160 := goodIn_r _ [4, 5, 6, 7, 8, 9] (by decide +kernel) (by decide +kernel)
set_option maxRecDepth 20000 in
theorem gJ1_charAt_3b067_J0_checkIndex_df160 : GoodIn wsJ1_charAt_3b067 (va_wsS RJ1 9 yJ0_checkIndex_df160 wsJ0_checkIndex_df160) := goodIn_app (goodIn_of _ (by decide +kernel)) ggJ1_charAt_3b067_J0_checkIndex_df160
set_option maxRecDepth 20000 in
theorem ggJ2_getChar_3b067_J2_length_9d52b : GoodIn wsJ2_getChar_3b067 wsJ2_length_9d52b := goodIn_r _ [7] (by decide +kernel) (by decide +kernel)
set_option maxRecDepth 20000 in
theorem gJ2_getChar_3b067_J2_length_9d52b : GoodIn wsJ2_getChar_3b067 (va_wsS RJ2 48 yJ2_length_9d52b wsJ2_length_9d52b) := goodIn_app (goodIn_of _ (by decide +kernel)) ggJ2_getChar_3b067_J2_length_9d52b
set_option maxRecDepth 20000 in
theorem ggJ2_charAt_3b067_J2_checkIndex_2214a : GoodIn wsJ2_charAt_3b067 wsJ2_checkIndex_2214a := goodIn_r _ [4, 5, 6, 3, 7, 8, 9, 10, 11, 12, 13, 14, 15, 16] (by decide +kernel) (by decide +kernel)
set_option maxRecDepth 20000 in
theorem gJ2_charAt_3b067_J2_checkIndex_2214a : GoodIn wsJ2_charAt_3b067 (va_wsS RJ2 67 yJ2_checkIndex_2214a wsJ2_checkIndex_2214a) := goodIn_app (goodIn_of _ (by decide +kernel)) ggJ2_charAt_3b067_J2_checkIndex_2214a
set_option maxRecDepth 20000 in
theorem ggJ2_charAt_3b067_J2_getChar_3b067 : GoodIn wsJ2_charAt_3b067 wsJ2_getChar_3b067 := goodIn_r _ [19, 20, 21, 22, 5, 6, 3, 7] (by decide +kernel) (by decide +kernel)
set_option maxRecDepth 20000 in
theorem gJ2_charAt_3b067_J2_getChar_3b067 : GoodIn wsJ2_charAt_3b067 (va_wsS RJ2 71 yJ2_getChar_3b067 wsJ2_getChar_3b067) := goodIn_app (goodIn_of _ (by decide +kernel)) ggJ2_charAt_3b067_J2_getChar_3b067
set_option maxRecDepth 20000 in
theorem ggJ2_checkIndex_2214a_J2_length_9d52b : GoodIn wsJ2_checkIndex_2214a wsJ2_length_9d52b := goodIn_r _ [4] (by decide +kernel) (by decide +kernel)
set_option maxRecDepth 20000 in
theorem gJ2_checkIndex_2214a_J2_length_9d52b : GoodIn wsJ2_checkIndex_2214a (va_wsS RJ2 48 yJ2_length_9d52b wsJ2_length_9d52b) := goodIn_app (goodIn_of _ (by decide +kernel)) ggJ2_checkIndex_2214a_J2_length_9d52b
set_option maxRecDepth 20000 in
theorem ggJ2_checkIndex_2214a_J0_checkIndex_df160 : GoodIn wsJ2_checkIndex_2214a wsJ0_checkIndex_df160 := goodIn_r _ [8, 9, 10, 11, 12, 13] (by decide +kernel) (by decide +kernel)
set_option maxRecDepth 20000 in
theorem gJ2_checkIndex_2214a_J0_checkIndex_df160 : GoodIn wsJ2_checkIndex_2214a (va_wsS RJ2 414 yJ0_checkIndex_df160 wsJ0_checkIndex_df160) := goodIn_app (goodIn_of _ (by decide +kernel)) ggJ2_checkIndex_2214a_J0_checkIndex_df160
set_option maxRecDepth 20000 in
theorem ggL_count_X10_count : GoodIn wsL_count wsX10_count := goodIn_ca (goodIn_r _ [6, 7, 8, 9, 10, 11, 5, 12, 13, 14, 15, 16, 17, 18, 19, 20, 21, 22, 23, 24, 25, 26, 27, 28, 29, 30, 31, 32, 33, 34, 35, 36, 37, 38, 39, 40, 41, 42, 43, 44, 45, 46, 47, 48, 49, 50, 51, 52, 53, 54, 55, 56, 57, 58, 59, 60, 61, 62, 63, 64, 65, 66, 67, 68, 69, 70, 71, 72, 73, 74, 75, 76, 77, 78, 79, 80, 81, 82, 83, 84, 85, 86] (by decide +kernel) (by decide +kernel)) (goodIn_sub (fun _ h => List.mem_cons_of_mem _ (List.mem_append_right _ h)) (by decide +kernel))
set_option maxRecDepth 20000 in
theorem gL_count_X10_count : GoodIn wsL_count (wsV RL 7 RX10 yX10_count wsX10_count) := goodIn_app (goodIn_of _ (by decide +kernel)) ggL_count_X10_count
set_option maxRecDepth 20000 in
theorem ggL_account_X10_account : GoodIn wsL_account wsX10_account := goodIn_ca (goodIn_r _ [6, 7, 8, 9, 10, 11, 5, 12, 13, 14, 15, 16, 17, 18, 19, 20, 21, 22, 23, 24, 25, 26, 27, 28, 29, 30, 31, 32, 33, 34, 35, 36, 37, 38, 39, 40, 41, 42, 43, 44, 45] (by decide +kernel) (by decide +kernel)) (goodIn_sub (fun _ h => List.mem_cons_of_mem _ (List.mem_append_right _ h)) (by decide +kernel))
set_option maxRecDepth 20000 in
theorem gL_account_X10_account : GoodIn wsL_account (wsV RL 15 RX10 yX10_account wsX10_account) := goodIn_app (goodIn_of _ (by decide +kernel)) ggL_account_X10_account
set_option maxRecDepth 20000 in
theorem ggL_nameByte_X10_nameByte : GoodIn wsL_nameByte wsX10_nameByte := goodIn_ca (goodIn_r _ [6, 7, 8, 9, 10, 5, 11, 12, 13, 14, 15, 16, 17, 18, 19, 20, 21, 22, 23, 24, 25, 26, 27, 28, 29, 30, 31, 32, 33, 34, 35, 36, 37, 38, 39, 40, 41, 42, 43, 44, 45, 46, 47, 48, 49, 50, 51] (by decide +kernel) (by decide +kernel)) (goodIn_sub (fun _ h => List.mem_cons_of_mem _ (List.mem_append_right _ h)) (by decide +kernel))
set_option maxRecDepth 20000 in
theorem gL_nameByte_X10_nameByte : GoodIn wsL_nameByte (wsV RL 18 RX10 yX10_nameByte wsX10_nameByte) := goodIn_app (goodIn_of _ (by decide +kernel)) ggL_nameByte_X10_nameByte
set_option maxRecDepth 20000 in
theorem ggL_roof_X10_roof : GoodIn wsL_roof wsX10_roof := goodIn_ca (goodIn_ca (goodIn_r _ [7, 8, 9, 10, 11, 6, 12, 13, 14, 15, 16, 17, 18, 19, 20, 21, 22, 23, 24, 25, 26, 27, 28, 29, 30, 31, 32, 33, 34, 35, 36, 37, 38, 39, 40, 41, 42, 43, 44, 45, 46, 47, 48, 49, 50, 51, 52, 53, 54, 55, 56, 57, 58, 59, 60, 61, 62, 63, 64, 65, 66, 67, 68, 69, 70, 71, 72, 73, 74, 75, 76, 77, 78, 79, 80, 81, 82, 83] (by decide +kernel) (by decide +kernel)) (goodIn_sub (fun _ h => List.mem_cons_of_mem _ (List.mem_append_left _ (List.mem_append_right _ h))) (by decide +kernel))) (goodIn_sub (fun _ h => List.mem_cons_of_mem _ (List.mem_append_right _ h)) (by decide +kernel))
set_option maxRecDepth 20000 in
theorem gL_roof_X10_roof : GoodIn wsL_roof (wsV RL 24 RX10 yX10_roof wsX10_roof) := goodIn_app (goodIn_of _ (by decide +kernel)) ggL_roof_X10_roof
set_option maxRecDepth 20000 in
theorem ggL_way_X10_way : GoodIn wsL_way wsX10_way := goodIn_ca (goodIn_ca (goodIn_r _ [7, 8, 9, 10, 11, 12, 13, 14, 15, 6, 16, 17, 18, 19, 20, 21, 22, 23, 24, 25, 26, 27, 28, 29, 30, 31, 32, 33, 34, 35, 36, 37, 38, 39, 40, 41, 42, 43, 44, 45, 46, 47, 48, 49] (by decide +kernel) (by decide +kernel)) (goodIn_sub (fun _ h => List.mem_cons_of_mem _ (List.mem_append_left _ (List.mem_append_right _ h))) (by decide +kernel))) (goodIn_sub (fun _ h => List.mem_cons_of_mem _ (List.mem_append_right _ h)) (by decide +kernel))
set_option maxRecDepth 20000 in
theorem gL_way_X10_way : GoodIn wsL_way (wsV RL 27 RX10 yX10_way wsX10_way) := goodIn_app (goodIn_of _ (by decide +kernel)) ggL_way_X10_way
set_option maxRecDepth 20000 in
theorem ggL_route_X10_route : GoodIn wsL_route wsX10_route := goodIn_ca (goodIn_r _ [6, 7, 8, 9, 10, 11, 12, 5, 13, 14, 15, 16, 17, 18, 19, 20, 21, 22, 23, 24, 25, 26, 27, 28, 29, 30, 31, 32, 33, 34, 35, 36, 37, 38, 39, 40, 41, 42, 43, 44, 45, 46, 47, 48, 49, 50] (by decide +kernel) (by decide +kernel)) (goodIn_sub (fun _ h => List.mem_cons_of_mem _ (List.mem_append_right _ h)) (by decide +kernel))
set_option maxRecDepth 20000 in
theorem gL_route_X10_route : GoodIn wsL_route (wsV RL 30 RX10 yX10_route wsX10_route) := goodIn_app (goodIn_of _ (by decide +kernel)) ggL_route_X10_route
set_option maxRecDepth 20000 in
theorem ggL_next_X10_next : GoodIn wsL_next wsX10_next := goodIn_ca (goodIn_r _ [6, 7, 8, 9, 10, 11, 12, 5, 13, 14, 15, 16, 17, 18, 19, 20, 21, 22, 23, 24, 25, 26, 27, 28, 29, 30, 31, 32, 33, 34, 35, 36, 37, 38, 39, 40, 41, 42, 43, 44, 45, 46, 47, 48, 49, 50] (by decide +kernel) (by decide +kernel)) (goodIn_sub (fun _ h => List.mem_cons_of_mem _ (List.mem_append_right _ h)) (by decide +kernel))
set_option maxRecDepth 20000 in
theorem gL_next_X10_next : GoodIn wsL_next (wsV RL 33 RX10 yX10_next wsX10_next) := goodIn_app (goodIn_of _ (by decide +kernel)) ggL_next_X10_next
set_option maxRecDepth 20000 in
theorem ggL_tune_X10_tune : GoodIn wsL_tune wsX10_tune := goodIn_ca (goodIn_ca (goodIn_r _ [7, 8, 9, 10, 11, 6, 12, 13, 14, 15, 16, 17, 18, 19, 20, 21, 22, 23, 24, 25, 26, 27, 28, 29, 30, 31, 32, 33, 34, 35, 36, 37, 38, 39, 40, 41, 42, 43, 44, 45, 46, 47, 48, 49, 50, 51, 52, 53, 54, 55, 56, 57, 58, 59, 60, 61, 62, 63, 64, 65, 66, 67, 68, 69, 70, 71] (by decide +kernel) (by decide +kernel)) (goodIn_sub (fun _ h => List.mem_cons_of_mem _ (List.mem_append_left _ (List.mem_append_right _ h))) (by decide +kernel))) (goodIn_sub (fun _ h => List.mem_cons_of_mem _ (List.mem_append_right _ h)) (by decide +kernel))
set_option maxRecDepth 20000 in
theorem gL_tune_X10_tune : GoodIn wsL_tune (wsV RL 36 RX10 yX10_tune wsX10_tune) := goodIn_app (goodIn_of _ (by decide +kernel)) ggL_tune_X10_tune
set_option maxRecDepth 20000 in
theorem ggL_note_X10_note : GoodIn wsL_note wsX10_note := goodIn_ca (goodIn_r _ [6, 7, 8, 9, 10, 11, 5, 12, 13, 14, 15, 16, 17, 18, 19, 20, 21, 22, 23, 24, 25, 26, 27, 28, 29, 30, 31, 32, 33, 34, 35, 36, 37, 38, 39, 40, 41, 42, 43, 44, 45, 46, 47, 48, 49] (by decide +kernel) (by decide +kernel)) (goodIn_sub (fun _ h => List.mem_cons_of_mem _ (List.mem_append_right _ h)) (by decide +kernel))
set_option maxRecDepth 20000 in
theorem gL_note_X10_note : GoodIn wsL_note (wsV RL 39 RX10 yX10_note wsX10_note) := goodIn_app (goodIn_of _ (by decide +kernel)) ggL_note_X10_note
set_option maxRecDepth 20000 in
theorem ggL_waiting_X10_waiting : GoodIn wsL_waiting wsX10_waiting := goodIn_ca (goodIn_r _ [6, 7, 8, 9, 10, 5, 11, 12, 13, 14, 15, 16, 17, 18, 19, 20, 21, 22, 23, 24, 25, 26, 27, 28, 29, 30, 31, 32, 33, 34, 35, 36, 37, 38, 39, 40, 41, 42, 43, 44, 45, 46, 47, 48, 49, 50, 51, 52, 53, 54, 55, 56, 57, 58, 59, 60, 61, 62, 63] (by decide +kernel) (by decide +kernel)) (goodIn_sub (fun _ h => List.mem_cons_of_mem _ (List.mem_append_right _ h)) (by decide +kernel))
set_option maxRecDepth 20000 in
theorem gL_waiting_X10_waiting : GoodIn wsL_waiting (wsV RL 43 RX10 yX10_waiting wsX10_waiting) := goodIn_app (goodIn_of _ (by decide +kernel)) ggL_waiting_X10_waiting
set_option maxRecDepth 20000 in
theorem ggL_why_X10_why : GoodIn wsL_why wsX10_why := goodIn_ca (goodIn_ca (goodIn_r _ [7, 8, 9, 10, 11, 6, 12, 13, 14, 15, 16, 17, 18, 19, 20, 21, 22, 23, 24, 25, 26, 27, 28, 29, 30, 31, 32, 33, 34, 35, 36, 37, 38, 39, 40, 41, 42, 43, 44, 45, 46, 47, 48, 49, 50, 51, 52, 53, 54, 55, 56, 57, 58, 59, 60, 61, 62, 63, 64, 65, 66, 67, 68, 69, 70, 71, 72, 73, 74, 75, 76, 77, 78, 79, 80, 81, 82, 83, 84, 85, 86, 87, 88, 89, 90, 91, 92, 93, 94, 95, 96, 97, 98, 99, 100, 101, 102, 103] (by decide +kernel) (by decide +kernel)) (goodIn_sub (fun _ h => List.mem_cons_of_mem _ (List.mem_append_left _ (List.mem_append_right _ h))) (by decide +kernel))) (goodIn_sub (fun _ h => List.mem_cons_of_mem _ (List.mem_append_right _ h)) (by decide +kernel))
set_option maxRecDepth 20000 in
theorem gL_why_X10_why : GoodIn wsL_why (wsV RL 46 RX10 yX10_why wsX10_why) := goodIn_app (goodIn_of _ (by decide +kernel)) ggL_why_X10_why
set_option maxRecDepth 20000 in
theorem ggL_costOf_X10_costOf : GoodIn wsL_costOf wsX10_costOf := goodIn_ca (goodIn_ca (goodIn_r _ [7, 8, 9, 10, 11, 6, 12, 13, 14, 15, 16, 17, 18, 19, 20, 21, 22, 23, 24, 25, 26, 27, 28, 29, 30, 31, 32, 33, 34, 35, 36, 37, 38, 39, 40, 41, 42, 43, 44, 45, 46, 47, 48, 49, 50, 51, 52, 53, 54, 55, 56, 57, 58, 59, 60, 61, 62, 63, 64, 65, 66] (by decide +kernel) (by decide +kernel)) (goodIn_sub (fun _ h => List.mem_cons_of_mem _ (List.mem_append_left _ (List.mem_append_right _ h))) (by decide +kernel))) (goodIn_sub (fun _ h => List.mem_cons_of_mem _ (List.mem_append_right _ h)) (by decide +kernel))
set_option maxRecDepth 20000 in
theorem gL_costOf_X10_costOf : GoodIn wsL_costOf (wsV RL 49 RX10 yX10_costOf wsX10_costOf) := goodIn_app (goodIn_of _ (by decide +kernel)) ggL_costOf_X10_costOf
set_option maxRecDepth 20000 in
theorem ggL_wrongOn_X10_wrongOn : GoodIn wsL_wrongOn wsX10_wrongOn := goodIn_ca (goodIn_ca (goodIn_r _ [7, 8, 9, 10, 11, 6, 12, 13, 14, 15, 16, 17, 18, 19, 20, 21, 22, 23, 24, 25, 26, 27, 28, 29, 30, 31, 32, 33, 34, 35, 36, 37, 38, 39, 40, 41, 42, 43, 44, 45, 46, 47, 48, 49, 50, 51, 52, 53, 54, 55, 56, 57, 58, 59, 60, 61, 62, 63, 64, 65, 66, 67, 68, 69, 70, 71, 72, 73, 74, 75, 76, 77, 78, 79, 80, 81] (by decide +kernel) (by decide +kernel)) (goodIn_sub (fun _ h => List.mem_cons_of_mem _ (List.mem_append_left _ (List.mem_append_right _ h))) (by decide +kernel))) (goodIn_sub (fun _ h => List.mem_cons_of_mem _ (List.mem_append_right _ h)) (by decide +kernel))
set_option maxRecDepth 20000 in
theorem gL_wrongOn_X10_wrongOn : GoodIn wsL_wrongOn (wsV RL 53 RX10 yX10_wrongOn wsX10_wrongOn) := goodIn_app (goodIn_of _ (by decide +kernel)) ggL_wrongOn_X10_wrongOn
set_option maxRecDepth 20000 in
theorem ggL_calmest_X10_calmest : GoodIn wsL_calmest wsX10_calmest := goodIn_ca (goodIn_r _ [6, 7, 8, 9, 10, 5, 11, 12, 13, 14, 15, 16, 17, 18, 19, 20, 21, 22, 23, 24, 25, 26, 27, 28, 29, 30, 31, 32, 33, 34, 35, 36, 37, 38, 39, 40, 41, 42, 43, 44, 45, 46, 47, 48, 49, 50, 51, 52, 53, 54, 55, 56, 57, 58, 59, 60, 61, 62, 63, 64, 65, 66, 67, 68, 69] (by decide +kernel) (by decide +kernel)) (goodIn_sub (fun _ h => List.mem_cons_of_mem _ (List.mem_append_right _ h)) (by decide +kernel))
set_option maxRecDepth 20000 in
theorem gL_calmest_X10_calmest : GoodIn wsL_calmest (wsV RL 56 RX10 yX10_calmest wsX10_calmest) := goodIn_app (goodIn_of _ (by decide +kernel)) ggL_calmest_X10_calmest
