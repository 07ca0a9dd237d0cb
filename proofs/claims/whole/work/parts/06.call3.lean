set_option maxRecDepth 20000 in
theorem ggX10_restoreState_X2_copyFrom : GoodIn wsX10_restoreState wsX2_copyFrom := goodIn_r _ [12, 13, 14, 15, 16, 17, 18, 19, 20, 21, 22, 23, 24, 25, 26, 27, 28, 29, 30, 31, 32, 33, 34, 35, 36, 37, 38, 39, 40, 41, 42, 43, 44, 45, 62, 63, 64, 65, 66, 67, 68, 69, 70, 71, 72, 73, 74, 75, 76, 77] (by decide +kernel) (by decide +kernel)
set_option maxRecDepth 20000 in
theorem gX10_restoreState_X2_copyFrom : GoodIn wsX10_restoreState (wsV RX10 80 RX2 yX2_copyFrom wsX2_copyFrom) := goodIn_app (goodIn_of _ (by decide +kernel)) ggX10_restoreState_X2_copyFrom
set_option maxRecDepth 20000 in
theorem ggX10_restoreState_X1_forget : GoodIn wsX10_restoreState wsX1_forget := goodIn_r _ [50, 51, 78, 79, 80] (by decide +kernel) (by decide +kernel)
set_option maxRecDepth 20000 in
theorem gX10_restoreState_X1_forget : GoodIn wsX10_restoreState (wsV RX10 101 RX1 yX1_forget wsX1_forget) := goodIn_app (goodIn_of _ (by decide +kernel)) ggX10_restoreState_X1_forget
set_option maxRecDepth 20000 in
theorem ggX11_init_X11_clears : GoodIn wsX11_init wsX11_clears := goodIn_r _ [25, 5, 89, 90, 91, 92, 93, 94, 95, 96, 97, 98, 99, 100, 101, 102, 103, 104, 105, 106, 107, 108, 109, 110, 111, 112, 113, 114, 115, 116] (by decide +kernel) (by decide +kernel)
set_option maxRecDepth 20000 in
theorem gX11_init_X11_clears : GoodIn wsX11_init (wsV RX11 52 RX11 yX11_clears wsX11_clears) := goodIn_app (goodIn_of _ (by decide +kernel)) ggX11_init_X11_clears
set_option maxRecDepth 20000 in
theorem ggX11_init_J0_length_8abf5 : GoodIn wsX11_init wsJ0_length_8abf5 := goodIn_r _ [30, 31, 32, 33, 34, 29, 35, 36, 37] (by decide +kernel) (by decide +kernel)
set_option maxRecDepth 20000 in
theorem gX11_init_J0_length_8abf5 : GoodIn wsX11_init (wsV RX11 57 RJ0 yJ0_length_8abf5 wsJ0_length_8abf5) := goodIn_app (goodIn_of _ (by decide +kernel)) ggX11_init_J0_length_8abf5
set_option maxRecDepth 20000 in
theorem ggX11_init_J0_charAt_5068e : GoodIn wsX11_init wsJ0_charAt_5068e := goodIn_r _ [41, 31, 42, 43, 44, 29, 45, 36, 37, 46, 47, 48, 49, 50, 51, 52, 53, 54, 55, 56, 57, 58, 59, 60, 61, 62, 63, 64, 65, 66, 67, 68, 69, 70, 71, 72, 73, 74] (by decide +kernel) (by decide +kernel)
set_option maxRecDepth 20000 in
theorem gX11_init_J0_charAt_5068e : GoodIn wsX11_init (wsV RX11 66 RJ0 yJ0_charAt_5068e wsJ0_charAt_5068e) := goodIn_app (goodIn_of _ (by decide +kernel)) ggX11_init_J0_charAt_5068e
set_option maxRecDepth 20000 in
theorem ggX11_init_X11_newRoof : GoodIn wsX11_init wsX11_newRoof := goodIn_r _ [78, 5, 20, 9, 79, 80, 24, 81, 89, 90, 91, 92, 93, 94, 95, 96, 97, 98, 99, 100, 101, 102, 103, 104, 105, 106, 107, 108, 109, 110, 111, 112, 113, 114, 115, 116] (by decide +kernel) (by decide +kernel)
set_option maxRecDepth 20000 in
theorem gX11_init_X11_newRoof : GoodIn wsX11_init (wsV RX11 70 RX11 yX11_newRoof wsX11_newRoof) := goodIn_app (goodIn_of _ (by decide +kernel)) ggX11_init_X11_newRoof
set_option maxRecDepth 20000 in
theorem ggX11_init_X11_newWay : GoodIn wsX11_init wsX11_newWay := goodIn_r _ [85, 5, 86, 87, 24, 88, 89, 90, 91, 92, 93, 94, 95, 96, 97, 98, 99, 100, 101, 102, 103, 104, 105, 106, 107, 108, 109, 110, 111, 112, 113, 114, 115, 116] (by decide +kernel) (by decide +kernel)
set_option maxRecDepth 20000 in
theorem gX11_init_X11_newWay : GoodIn wsX11_init (wsV RX11 74 RX11 yX11_newWay wsX11_newWay) := goodIn_app (goodIn_of _ (by decide +kernel)) ggX11_init_X11_newWay
set_option maxRecDepth 20000 in
theorem ggX11_named_X11_r : GoodIn wsX11_named wsX11_r := goodIn_r _ [7] (by decide +kernel) (by decide +kernel)
set_option maxRecDepth 20000 in
theorem gX11_named_X11_r : GoodIn wsX11_named (va_wsS RX11 84 yX11_r wsX11_r) := goodIn_app (goodIn_of _ (by decide +kernel)) ggX11_named_X11_r
set_option maxRecDepth 20000 in
theorem ggX11_newRoof_X11_r : GoodIn wsX11_newRoof wsX11_r := goodIn_r _ [7] (by decide +kernel) (by decide +kernel)
set_option maxRecDepth 20000 in
theorem gX11_newRoof_X11_r : GoodIn wsX11_newRoof (va_wsS RX11 84 yX11_r wsX11_r) := goodIn_app (goodIn_of _ (by decide +kernel)) ggX11_newRoof_X11_r
set_option maxRecDepth 20000 in
theorem ggX11_newWay_X11_w : GoodIn wsX11_newWay wsX11_w := goodIn_r _ [5] (by decide +kernel) (by decide +kernel)
set_option maxRecDepth 20000 in
theorem gX11_newWay_X11_w : GoodIn wsX11_newWay (va_wsS RX11 88 yX11_w wsX11_w) := goodIn_app (goodIn_of _ (by decide +kernel)) ggX11_newWay_X11_w
set_option maxRecDepth 20000 in
theorem ggX11_ends_X11_w : GoodIn wsX11_ends wsX11_w := goodIn_r _ [5] (by decide +kernel) (by decide +kernel)
set_option maxRecDepth 20000 in
theorem gX11_ends_X11_w : GoodIn wsX11_ends (va_wsS RX11 88 yX11_w wsX11_w) := goodIn_app (goodIn_of _ (by decide +kernel)) ggX11_ends_X11_w
set_option maxRecDepth 20000 in
theorem ggX11_otherEnd_X11_w : GoodIn wsX11_otherEnd wsX11_w := goodIn_r _ [5] (by decide +kernel) (by decide +kernel)
set_option maxRecDepth 20000 in
theorem gX11_otherEnd_X11_w : GoodIn wsX11_otherEnd (va_wsS RX11 88 yX11_w wsX11_w) := goodIn_app (goodIn_of _ (by decide +kernel)) ggX11_otherEnd_X11_w
set_option maxRecDepth 20000 in
theorem ggX11_wayBetween_X11_ends : GoodIn wsX11_wayBetween wsX11_ends := goodIn_r _ [6, 1, 7, 8, 5, 9, 10, 11, 12, 13, 14, 15, 16, 17, 18, 19, 20, 21, 22, 23, 24, 25, 26, 27, 28, 29, 30, 31, 32, 33, 34, 35, 36, 37] (by decide +kernel) (by decide +kernel)
set_option maxRecDepth 20000 in
theorem gX11_wayBetween_X11_ends : GoodIn wsX11_wayBetween (wsV RX11 91 RX11 yX11_ends wsX11_ends) := goodIn_app (goodIn_of _ (by decide +kernel)) ggX11_wayBetween_X11_ends
set_option maxRecDepth 20000 in
theorem ggX11_isNearer_X11_otherEnd : GoodIn wsX11_isNearer wsX11_otherEnd := goodIn_r _ [7, 2, 8, 9, 6, 10, 11, 12, 13, 14, 15, 16, 17, 18, 19, 20, 21, 22, 23, 24, 25, 26, 27, 28, 29, 30, 31, 32, 33, 34, 35, 36, 37, 38] (by decide +kernel) (by decide +kernel)
set_option maxRecDepth 20000 in
theorem gX11_isNearer_X11_otherEnd : GoodIn wsX11_isNearer (wsV RX11 95 RX11 yX11_otherEnd wsX11_otherEnd) := goodIn_app (goodIn_of _ (by decide +kernel)) ggX11_isNearer_X11_otherEnd
set_option maxRecDepth 20000 in
theorem ggX11_isNearer_X11_w : GoodIn wsX11_isNearer wsX11_w := goodIn_r _ [10] (by decide +kernel) (by decide +kernel)
set_option maxRecDepth 20000 in
theorem gX11_isNearer_X11_w : GoodIn wsX11_isNearer (va_wsS RX11 88 yX11_w wsX11_w) := goodIn_app (goodIn_of _ (by decide +kernel)) ggX11_isNearer_X11_w
set_option maxRecDepth 20000 in
theorem ggX11_reckons_X11_w : GoodIn wsX11_reckons wsX11_w := goodIn_r _ [6] (by decide +kernel) (by decide +kernel)
set_option maxRecDepth 20000 in
theorem gX11_reckons_X11_w : GoodIn wsX11_reckons (va_wsS RX11 88 yX11_w wsX11_w) := goodIn_app (goodIn_of _ (by decide +kernel)) ggX11_reckons_X11_w
set_option maxRecDepth 20000 in
theorem ggX11_reckons_X11_isNearer : GoodIn wsX11_reckons wsX11_isNearer := goodIn_r _ [10, 1, 2, 11, 12, 13, 5, 14, 3, 4, 6, 15, 16, 17, 18, 19, 20, 21, 22, 23, 24, 25, 26, 27, 28, 29, 30, 31, 32, 33, 34, 35, 36, 37, 38, 39, 40, 41, 42] (by decide +kernel) (by decide +kernel)
set_option maxRecDepth 20000 in
theorem gX11_reckons_X11_isNearer : GoodIn wsX11_reckons (wsV RX11 99 RX11 yX11_isNearer wsX11_isNearer) := goodIn_app (goodIn_of _ (by decide +kernel)) ggX11_reckons_X11_isNearer
set_option maxRecDepth 20000 in
theorem ggX11_sumTo_X11_reckons : GoodIn wsX11_sumTo wsX11_reckons := goodIn_r _ [6, 1, 7, 8, 9, 5, 10, 11, 12, 13, 14, 15, 16, 17, 18, 19, 20, 21, 22, 23, 24, 25, 26, 27, 28, 29, 30, 31, 32, 33, 34, 35, 36, 37, 38, 39, 40, 41, 42, 43, 44, 45, 46] (by decide +kernel) (by decide +kernel)
set_option maxRecDepth 20000 in
theorem gX11_sumTo_X11_reckons : GoodIn wsX11_sumTo (wsV RX11 102 RX11 yX11_reckons wsX11_reckons) := goodIn_app (goodIn_of _ (by decide +kernel)) ggX11_sumTo_X11_reckons
set_option maxRecDepth 20000 in
theorem ggX11_nextTo_X11_sumTo : GoodIn wsX11_nextTo wsX11_sumTo := goodIn_r _ [7, 2, 8, 9, 10, 6, 11, 1, 12, 13, 14, 15, 16, 17, 18, 19, 20, 21, 22, 27, 28, 29, 30, 31, 32, 33, 34, 35, 36, 37, 38, 39, 40, 41, 42, 43, 44, 45, 46, 47, 48, 49, 50, 51, 52, 53, 54] (by decide +kernel) (by decide +kernel)
set_option maxRecDepth 20000 in
theorem gX11_nextTo_X11_sumTo : GoodIn wsX11_nextTo (wsV RX11 106 RX11 yX11_sumTo wsX11_sumTo) := goodIn_app (goodIn_of _ (by decide +kernel)) ggX11_nextTo_X11_sumTo
set_option maxRecDepth 20000 in
theorem ggX11_nextTo_X11_ends : GoodIn wsX11_nextTo wsX11_ends := goodIn_r _ [26, 1, 12, 13, 6, 14, 27, 28, 29, 30, 31, 32, 33, 34, 35, 36, 37, 38, 39, 40, 41, 42, 43, 44, 45, 46, 47, 48, 49, 50, 51, 52, 53, 54] (by decide +kernel) (by decide +kernel)
set_option maxRecDepth 20000 in
theorem gX11_nextTo_X11_ends : GoodIn wsX11_nextTo (wsV RX11 91 RX11 yX11_ends wsX11_ends) := goodIn_app (goodIn_of _ (by decide +kernel)) ggX11_nextTo_X11_ends
set_option maxRecDepth 20000 in
theorem ggX11_nextTo_X11_otherEnd : GoodIn wsX11_nextTo wsX11_otherEnd := goodIn_r _ [22, 1, 12, 13, 6, 14, 27, 28, 29, 30, 31, 32, 33, 34, 35, 36, 37, 38, 39, 40, 41, 42, 43, 44, 45, 46, 47, 48, 49, 50, 51, 52, 53, 54] (by decide +kernel) (by decide +kernel)
set_option maxRecDepth 20000 in
theorem gX11_nextTo_X11_otherEnd : GoodIn wsX11_nextTo (wsV RX11 95 RX11 yX11_otherEnd wsX11_otherEnd) := goodIn_app (goodIn_of _ (by decide +kernel)) ggX11_nextTo_X11_otherEnd
set_option maxRecDepth 20000 in
theorem ggX11_nextTo_X11_w : GoodIn wsX11_nextTo wsX11_w := goodIn_r _ [14] (by decide +kernel) (by decide +kernel)
set_option maxRecDepth 20000 in
theorem gX11_nextTo_X11_w : GoodIn wsX11_nextTo (va_wsS RX11 88 yX11_w wsX11_w) := goodIn_app (goodIn_of _ (by decide +kernel)) ggX11_nextTo_X11_w
set_option maxRecDepth 20000 in
theorem ggX11_isBusy_X11_r : GoodIn wsX11_isBusy wsX11_r := goodIn_r _ [5] (by decide +kernel) (by decide +kernel)
set_option maxRecDepth 20000 in
theorem gX11_isBusy_X11_r : GoodIn wsX11_isBusy (va_wsS RX11 84 yX11_r wsX11_r) := goodIn_app (goodIn_of _ (by decide +kernel)) ggX11_isBusy_X11_r
set_option maxRecDepth 20000 in
theorem ggX11_bars_X11_t : GoodIn wsX11_bars wsX11_t := goodIn_r _ [5] (by decide +kernel) (by decide +kernel)
set_option maxRecDepth 20000 in
theorem gX11_bars_X11_t : GoodIn wsX11_bars (va_wsS RX11 109 yX11_t wsX11_t) := goodIn_app (goodIn_of _ (by decide +kernel)) ggX11_bars_X11_t
set_option maxRecDepth 20000 in
theorem ggX11_bars_X11_barsOf : GoodIn wsX11_bars wsX11_barsOf := goodIn_r _ [9] (by decide +kernel) (by decide +kernel)
set_option maxRecDepth 20000 in
theorem gX11_bars_X11_barsOf : GoodIn wsX11_bars (wsV RX11 112 RX11 yX11_barsOf wsX11_barsOf) := goodIn_app (goodIn_of _ (by decide +kernel)) ggX11_bars_X11_barsOf
set_option maxRecDepth 20000 in
theorem ggX11_waitsAt_X11_t : GoodIn wsX11_waitsAt wsX11_t := goodIn_r _ [5] (by decide +kernel) (by decide +kernel)
set_option maxRecDepth 20000 in
theorem gX11_waitsAt_X11_t : GoodIn wsX11_waitsAt (va_wsS RX11 109 yX11_t wsX11_t) := goodIn_app (goodIn_of _ (by decide +kernel)) ggX11_waitsAt_X11_t
set_option maxRecDepth 20000 in
theorem ggX11_unlike_X11_t : GoodIn wsX11_unlike wsX11_t := goodIn_r _ [5] (by decide +kernel) (by decide +kernel)
set_option maxRecDepth 20000 in
theorem gX11_unlike_X11_t : GoodIn wsX11_unlike (va_wsS RX11 109 yX11_t wsX11_t) := goodIn_app (goodIn_of _ (by decide +kernel)) ggX11_unlike_X11_t
set_option maxRecDepth 20000 in
theorem ggX11_unlike_X11_one : GoodIn wsX11_unlike wsX11_one := goodIn_r _ [8] (by decide +kernel) (by decide +kernel)
set_option maxRecDepth 20000 in
theorem gX11_unlike_X11_one : GoodIn wsX11_unlike (va_wsS RX11 115 yX11_one wsX11_one) := goodIn_app (goodIn_of _ (by decide +kernel)) ggX11_unlike_X11_one
set_option maxRecDepth 20000 in
theorem ggX11_hearsAsSent_X11_t : GoodIn wsX11_hearsAsSent wsX11_t := goodIn_r _ [5] (by decide +kernel) (by decide +kernel)
set_option maxRecDepth 20000 in
theorem gX11_hearsAsSent_X11_t : GoodIn wsX11_hearsAsSent (va_wsS RX11 109 yX11_t wsX11_t) := goodIn_app (goodIn_of _ (by decide +kernel)) ggX11_hearsAsSent_X11_t
set_option maxRecDepth 20000 in
theorem ggX11_newTune_X11_t : GoodIn wsX11_newTune wsX11_t := goodIn_r _ [7] (by decide +kernel) (by decide +kernel)
set_option maxRecDepth 20000 in
theorem gX11_newTune_X11_t : GoodIn wsX11_newTune (va_wsS RX11 109 yX11_t wsX11_t) := goodIn_app (goodIn_of _ (by decide +kernel)) ggX11_newTune_X11_t
set_option maxRecDepth 20000 in
theorem ggX11_newTune_X11_one : GoodIn wsX11_newTune wsX11_one := goodIn_r _ [10] (by decide +kernel) (by decide +kernel)
set_option maxRecDepth 20000 in
theorem gX11_newTune_X11_one : GoodIn wsX11_newTune (va_wsS RX11 115 yX11_one wsX11_one) := goodIn_app (goodIn_of _ (by decide +kernel)) ggX11_newTune_X11_one
set_option maxRecDepth 20000 in
theorem ggX11_newTune_X11_hearsAsSent : GoodIn wsX11_newTune wsX11_hearsAsSent := goodIn_r _ [14, 1, 4, 5, 6, 7, 19, 20, 21, 22, 23, 24, 25, 26, 27, 28, 29, 30, 31, 32, 33, 34, 35, 36, 37, 38, 39, 40, 41, 42, 43, 44, 45, 46] (by decide +kernel) (by decide +kernel)
set_option maxRecDepth 20000 in
theorem gX11_newTune_X11_hearsAsSent : GoodIn wsX11_newTune (wsV RX11 122 RX11 yX11_hearsAsSent wsX11_hearsAsSent) := goodIn_app (goodIn_of _ (by decide +kernel)) ggX11_newTune_X11_hearsAsSent
set_option maxRecDepth 20000 in
theorem ggX11_newTune_X11_counts : GoodIn wsX11_newTune wsX11_counts := goodIn_r _ [18, 1, 19, 20, 21, 22, 23, 24, 25, 26, 27, 28, 29, 30, 31, 32, 33, 34, 35, 36, 37, 38, 39, 40, 41, 42, 43, 44, 45, 46] (by decide +kernel) (by decide +kernel)
set_option maxRecDepth 20000 in
theorem gX11_newTune_X11_counts : GoodIn wsX11_newTune (wsV RX11 126 RX11 yX11_counts wsX11_counts) := goodIn_app (goodIn_of _ (by decide +kernel)) ggX11_newTune_X11_counts
set_option maxRecDepth 20000 in
theorem ggX11_wrongBy_X11_r : GoodIn wsX11_wrongBy wsX11_r := goodIn_r _ [12] (by decide +kernel) (by decide +kernel)
set_option maxRecDepth 20000 in
theorem gX11_wrongBy_X11_r : GoodIn wsX11_wrongBy (va_wsS RX11 84 yX11_r wsX11_r) := goodIn_app (goodIn_of _ (by decide +kernel)) ggX11_wrongBy_X11_r
set_option maxRecDepth 20000 in
theorem ggX11_blurs_X11_t : GoodIn wsX11_blurs wsX11_t := goodIn_r _ [5] (by decide +kernel) (by decide +kernel)
set_option maxRecDepth 20000 in
theorem gX11_blurs_X11_t : GoodIn wsX11_blurs (va_wsS RX11 109 yX11_t wsX11_t) := goodIn_app (goodIn_of _ (by decide +kernel)) ggX11_blurs_X11_t
set_option maxRecDepth 20000 in
theorem ggX11_blurs_X11_wrongBy : GoodIn wsX11_blurs wsX11_wrongBy := goodIn_r _ [9, 1, 10, 11, 12, 13, 14, 15, 16, 17, 18, 4, 19, 24, 25, 26, 27, 28, 29, 30, 31, 32, 33, 34, 35, 36, 37, 38, 39, 40, 41, 42, 43, 44, 45, 46, 47, 48, 49, 50, 51] (by decide +kernel) (by decide +kernel)
set_option maxRecDepth 20000 in
theorem gX11_blurs_X11_wrongBy : GoodIn wsX11_blurs (wsV RX11 137 RX11 yX11_wrongBy wsX11_wrongBy) := goodIn_app (goodIn_of _ (by decide +kernel)) ggX11_blurs_X11_wrongBy
set_option maxRecDepth 20000 in
theorem ggX11_blurs_X11_counts : GoodIn wsX11_blurs wsX11_counts := goodIn_r _ [23, 1, 24, 25, 26, 27, 28, 29, 30, 31, 32, 33, 34, 35, 36, 37, 38, 39, 40, 41, 42, 43, 44, 45, 46, 47, 48, 49, 50, 51] (by decide +kernel) (by decide +kernel)
set_option maxRecDepth 20000 in
theorem gX11_blurs_X11_counts : GoodIn wsX11_blurs (wsV RX11 126 RX11 yX11_counts wsX11_counts) := goodIn_app (goodIn_of _ (by decide +kernel)) ggX11_blurs_X11_counts
set_option maxRecDepth 20000 in
theorem ggX11_replies_X11_t : GoodIn wsX11_replies wsX11_t := goodIn_r _ [7] (by decide +kernel) (by decide +kernel)
set_option maxRecDepth 20000 in
theorem gX11_replies_X11_t : GoodIn wsX11_replies (va_wsS RX11 109 yX11_t wsX11_t) := goodIn_app (goodIn_of _ (by decide +kernel)) ggX11_replies_X11_t
set_option maxRecDepth 20000 in
theorem ggX11_replies_X11_unlike : GoodIn wsX11_replies wsX11_unlike := goodIn_r _ [11, 1, 4, 5, 6, 7, 12, 13, 14, 27, 28, 29, 30, 31, 32, 33, 34, 35, 36, 37, 38, 39, 40, 41, 42, 43, 44, 45, 46, 47, 48, 49, 50, 51, 52, 53, 54] (by decide +kernel) (by decide +kernel)
set_option maxRecDepth 20000 in
theorem gX11_replies_X11_unlike : GoodIn wsX11_replies (wsV RX11 141 RX11 yX11_unlike wsX11_unlike) := goodIn_app (goodIn_of _ (by decide +kernel)) ggX11_replies_X11_unlike
set_option maxRecDepth 20000 in
theorem ggX11_replies_X11_newTune : GoodIn wsX11_replies wsX11_newTune := goodIn_r _ [18, 1, 2, 3, 4, 5, 6, 7, 12, 13, 14, 19, 20, 21, 22, 23, 24, 25, 26, 27, 28, 29, 30, 31, 32, 33, 34, 35, 36, 37, 38, 39, 40, 41, 42, 43, 44, 45, 46, 47, 48, 49, 50, 51, 52, 53, 54] (by decide +kernel) (by decide +kernel)
set_option maxRecDepth 20000 in
theorem gX11_replies_X11_newTune : GoodIn wsX11_replies (wsV RX11 144 RX11 yX11_newTune wsX11_newTune) := goodIn_app (goodIn_of _ (by decide +kernel)) ggX11_replies_X11_newTune
set_option maxRecDepth 20000 in
theorem ggX11_comes_X11_t : GoodIn wsX11_comes wsX11_t := goodIn_r _ [5] (by decide +kernel) (by decide +kernel)
set_option maxRecDepth 20000 in
theorem gX11_comes_X11_t : GoodIn wsX11_comes (va_wsS RX11 109 yX11_t wsX11_t) := goodIn_app (goodIn_of _ (by decide +kernel)) ggX11_comes_X11_t
set_option maxRecDepth 20000 in
theorem ggX11_comes_X11_blurs : GoodIn wsX11_comes wsX11_blurs := goodIn_r _ [9, 1, 2, 3, 4, 5, 10, 11, 12, 13, 14, 15, 16, 17, 18, 19, 20, 21, 22, 23, 24, 25, 26, 27, 49, 50, 51, 52, 53, 54, 55, 56, 57, 58, 59, 60, 61, 62, 63, 64, 65, 66, 67, 68, 69, 70, 71, 72, 73, 74, 75, 76] (by decide +kernel) (by decide +kernel)
set_option maxRecDepth 20000 in
theorem gX11_comes_X11_blurs : GoodIn wsX11_comes (wsV RX11 148 RX11 yX11_blurs wsX11_blurs) := goodIn_app (goodIn_of _ (by decide +kernel)) ggX11_comes_X11_blurs
set_option maxRecDepth 20000 in
theorem ggX11_comes_X11_unlike : GoodIn wsX11_comes wsX11_unlike := goodIn_r _ [31, 1, 2, 3, 4, 5, 32, 33, 34, 49, 50, 51, 52, 53, 54, 55, 56, 57, 58, 59, 60, 61, 62, 63, 64, 65, 66, 67, 68, 69, 70, 71, 72, 73, 74, 75, 76] (by decide +kernel) (by decide +kernel)
set_option maxRecDepth 20000 in
theorem gX11_comes_X11_unlike : GoodIn wsX11_comes (wsV RX11 141 RX11 yX11_unlike wsX11_unlike) := goodIn_app (goodIn_of _ (by decide +kernel)) ggX11_comes_X11_unlike
set_option maxRecDepth 20000 in
theorem ggX11_comes_X11_hearsAsSent : GoodIn wsX11_comes wsX11_hearsAsSent := goodIn_r _ [38, 1, 2, 3, 4, 5, 49, 50, 51, 52, 53, 54, 55, 56, 57, 58, 59, 60, 61, 62, 63, 64, 65, 66, 67, 68, 69, 70, 71, 72, 73, 74, 75, 76] (by decide +kernel) (by decide +kernel)
set_option maxRecDepth 20000 in
theorem gX11_comes_X11_hearsAsSent : GoodIn wsX11_comes (wsV RX11 122 RX11 yX11_hearsAsSent wsX11_hearsAsSent) := goodIn_app (goodIn_of _ (by decide +kernel)) ggX11_comes_X11_hearsAsSent
set_option maxRecDepth 20000 in
theorem ggX11_comes_X11_counts : GoodIn wsX11_comes wsX11_counts := goodIn_r _ [27, 1, 49, 50, 51, 52, 53, 54, 55, 56, 57, 58, 59, 60, 61, 62, 63, 64, 65, 66, 67, 68, 69, 70, 71, 72, 73, 74, 75, 76] (by decide +kernel) (by decide +kernel)
set_option maxRecDepth 20000 in
theorem gX11_comes_X11_counts : GoodIn wsX11_comes (wsV RX11 126 RX11 yX11_counts wsX11_counts) := goodIn_app (goodIn_of _ (by decide +kernel)) ggX11_comes_X11_counts
set_option maxRecDepth 20000 in
theorem ggX11_comes_X11_one : GoodIn wsX11_comes wsX11_one := goodIn_r _ [34] (by decide +kernel) (by decide +kernel)
set_option maxRecDepth 20000 in
theorem gX11_comes_X11_one : GoodIn wsX11_comes (va_wsS RX11 115 yX11_one wsX11_one) := goodIn_app (goodIn_of _ (by decide +kernel)) ggX11_comes_X11_one
set_option maxRecDepth 20000 in
theorem ggX11_comes_X11_replies : GoodIn wsX11_comes wsX11_replies := goodIn_r _ [42, 1, 43, 44, 2, 3, 4, 5, 28, 29, 30, 31, 32, 33, 34, 45, 46, 47, 48, 35, 36, 37, 38, 24, 25, 26, 27, 49, 50, 51, 52, 53, 54, 55, 56, 57, 58, 59, 60, 61, 62, 63, 64, 65, 66, 67, 68, 69, 70, 71, 72, 73, 74, 75, 76] (by decide +kernel) (by decide +kernel)
set_option maxRecDepth 20000 in
theorem gX11_comes_X11_replies : GoodIn wsX11_comes (wsV RX11 151 RX11 yX11_replies wsX11_replies) := goodIn_app (goodIn_of _ (by decide +kernel)) ggX11_comes_X11_replies
set_option maxRecDepth 20000 in
theorem ggX11_feeAt_X11_r : GoodIn wsX11_feeAt wsX11_r := goodIn_r _ [5] (by decide +kernel) (by decide +kernel)
set_option maxRecDepth 20000 in
theorem gX11_feeAt_X11_r : GoodIn wsX11_feeAt (va_wsS RX11 84 yX11_r wsX11_r) := goodIn_app (goodIn_of _ (by decide +kernel)) ggX11_feeAt_X11_r
set_option maxRecDepth 20000 in
theorem ggX11_feeAt_X11_bars : GoodIn wsX11_feeAt wsX11_bars := goodIn_r _ [9, 1, 10, 11, 4, 12, 13, 14, 15, 16, 17, 18, 19, 20, 21, 22, 23, 24, 25, 26, 27, 28, 29, 30, 31, 32, 33, 34, 35, 36, 37, 38, 39, 40, 41, 42, 43, 44] (by decide +kernel) (by decide +kernel)
set_option maxRecDepth 20000 in
theorem gX11_feeAt_X11_bars : GoodIn wsX11_feeAt (wsV RX11 154 RX11 yX11_bars wsX11_bars) := goodIn_app (goodIn_of _ (by decide +kernel)) ggX11_feeAt_X11_bars
set_option maxRecDepth 20000 in
theorem ggX11_purseFor_X11_t : GoodIn wsX11_purseFor wsX11_t := goodIn_r _ [5] (by decide +kernel) (by decide +kernel)
set_option maxRecDepth 20000 in
theorem gX11_purseFor_X11_t : GoodIn wsX11_purseFor (va_wsS RX11 109 yX11_t wsX11_t) := goodIn_app (goodIn_of _ (by decide +kernel)) ggX11_purseFor_X11_t
set_option maxRecDepth 20000 in
theorem ggX11_purseFor_X11_r : GoodIn wsX11_purseFor wsX11_r := goodIn_r _ [8] (by decide +kernel) (by decide +kernel)
set_option maxRecDepth 20000 in
theorem gX11_purseFor_X11_r : GoodIn wsX11_purseFor (va_wsS RX11 84 yX11_r wsX11_r) := goodIn_app (goodIn_of _ (by decide +kernel)) ggX11_purseFor_X11_r
set_option maxRecDepth 20000 in
theorem ggX11_firstAt_X11_waitsAt : GoodIn wsX11_firstAt wsX11_waitsAt := goodIn_r _ [6, 1, 7, 8, 5, 9, 57, 58, 59, 60, 61, 62, 63, 64, 65, 66, 67, 68, 69, 70, 71, 72, 73, 74, 75, 76, 77, 78, 79, 80, 81, 82, 83, 84] (by decide +kernel) (by decide +kernel)
set_option maxRecDepth 20000 in
theorem gX11_firstAt_X11_waitsAt : GoodIn wsX11_firstAt (wsV RX11 157 RX11 yX11_waitsAt wsX11_waitsAt) := goodIn_app (goodIn_of _ (by decide +kernel)) ggX11_firstAt_X11_waitsAt
set_option maxRecDepth 20000 in
theorem ggX11_firstAt_X11_bars : GoodIn wsX11_firstAt wsX11_bars := goodIn_r _ [13, 1, 7, 8, 5, 9, 14, 15, 16, 17, 57, 58, 59, 60, 61, 62, 63, 64, 65, 66, 67, 68, 69, 70, 71, 72, 73, 74, 75, 76, 77, 78, 79, 80, 81, 82, 83, 84] (by decide +kernel) (by decide +kernel)
set_option maxRecDepth 20000 in
theorem gX11_firstAt_X11_bars : GoodIn wsX11_firstAt (wsV RX11 154 RX11 yX11_bars wsX11_bars) := goodIn_app (goodIn_of _ (by decide +kernel)) ggX11_firstAt_X11_bars
set_option maxRecDepth 20000 in
theorem ggX11_firstAt_X11_purseFor : GoodIn wsX11_firstAt wsX11_purseFor := goodIn_r _ [21, 1, 7, 8, 5, 9, 22, 23, 24, 57, 58, 59, 60, 61, 62, 63, 64, 65, 66, 67, 68, 69, 70, 71, 72, 73, 74, 75, 76, 77, 78, 79, 80, 81, 82, 83, 84] (by decide +kernel) (by decide +kernel)
set_option maxRecDepth 20000 in
theorem gX11_firstAt_X11_purseFor : GoodIn wsX11_firstAt (wsV RX11 160 RX11 yX11_purseFor wsX11_purseFor) := goodIn_app (goodIn_of _ (by decide +kernel)) ggX11_firstAt_X11_purseFor
set_option maxRecDepth 20000 in
theorem ggX11_firstAt_X11_feeAt : GoodIn wsX11_firstAt wsX11_feeAt := goodIn_r _ [28, 1, 22, 23, 5, 24, 10, 11, 12, 13, 7, 8, 9, 14, 15, 16, 17, 57, 58, 59, 60, 61, 62, 63, 64, 65, 66, 67, 68, 69, 70, 71, 72, 73, 74, 75, 76, 77, 78, 79, 80, 81, 82, 83, 84] (by decide +kernel) (by decide +kernel)
set_option maxRecDepth 20000 in
theorem gX11_firstAt_X11_feeAt : GoodIn wsX11_firstAt (wsV RX11 163 RX11 yX11_feeAt wsX11_feeAt) := goodIn_app (goodIn_of _ (by decide +kernel)) ggX11_firstAt_X11_feeAt
set_option maxRecDepth 20000 in
theorem ggX11_firstAt_X11_t : GoodIn wsX11_firstAt wsX11_t := goodIn_r _ [9] (by decide +kernel) (by decide +kernel)
set_option maxRecDepth 20000 in
theorem gX11_firstAt_X11_t : GoodIn wsX11_firstAt (va_wsS RX11 109 yX11_t wsX11_t) := goodIn_app (goodIn_of _ (by decide +kernel)) ggX11_firstAt_X11_t
set_option maxRecDepth 20000 in
theorem ggX11_firstAt_X11_nextTo : GoodIn wsX11_firstAt wsX11_nextTo := goodIn_r _ [32, 1, 33, 34, 35, 36, 5, 37, 38, 39, 40, 41, 42, 43, 44, 45, 46, 47, 48, 49, 50, 51, 52, 53, 54, 55, 56, 57, 58, 59, 60, 61, 62, 63, 64, 65, 66, 67, 68, 69, 70, 71, 72, 73, 74, 75, 76, 77, 78, 79, 80, 81, 82, 83, 84] (by decide +kernel) (by decide +kernel)
set_option maxRecDepth 20000 in
theorem gX11_firstAt_X11_nextTo : GoodIn wsX11_firstAt (wsV RX11 166 RX11 yX11_nextTo wsX11_nextTo) := goodIn_app (goodIn_of _ (by decide +kernel)) ggX11_firstAt_X11_nextTo
set_option maxRecDepth 20000 in
theorem ggX11_whistles_X11_t : GoodIn wsX11_whistles wsX11_t := goodIn_r _ [5] (by decide +kernel) (by decide +kernel)
set_option maxRecDepth 20000 in
theorem gX11_whistles_X11_t : GoodIn wsX11_whistles (va_wsS RX11 109 yX11_t wsX11_t) := goodIn_app (goodIn_of _ (by decide +kernel)) ggX11_whistles_X11_t
set_option maxRecDepth 20000 in
theorem ggX11_whistles_X11_nextTo : GoodIn wsX11_whistles wsX11_nextTo := goodIn_r _ [9, 1, 10, 11, 12, 13, 4, 14, 15, 16, 17, 18, 19, 20, 21, 22, 23, 24, 25, 26, 27, 28, 29, 30, 31, 32, 33, 57, 58, 59, 60, 61, 62, 63, 64, 65, 66, 67, 68, 69, 70, 71, 72, 73, 74, 75, 76, 77, 78, 79, 80, 81, 82, 83, 84] (by decide +kernel) (by decide +kernel)
set_option maxRecDepth 20000 in
theorem gX11_whistles_X11_nextTo : GoodIn wsX11_whistles (wsV RX11 166 RX11 yX11_nextTo wsX11_nextTo) := goodIn_app (goodIn_of _ (by decide +kernel)) ggX11_whistles_X11_nextTo
set_option maxRecDepth 20000 in
theorem ggX11_whistles_X11_feeAt : GoodIn wsX11_whistles wsX11_feeAt := goodIn_r _ [37, 1, 38, 39, 4, 40, 41, 42, 43, 44, 2, 3, 5, 45, 46, 47, 48, 57, 58, 59, 60, 61, 62, 63, 64, 65, 66, 67, 68, 69, 70, 71, 72, 73, 74, 75, 76, 77, 78, 79, 80, 81, 82, 83, 84] (by decide +kernel) (by decide +kernel)
set_option maxRecDepth 20000 in
theorem gX11_whistles_X11_feeAt : GoodIn wsX11_whistles (wsV RX11 163 RX11 yX11_feeAt wsX11_feeAt) := goodIn_app (goodIn_of _ (by decide +kernel)) ggX11_whistles_X11_feeAt
set_option maxRecDepth 20000 in
theorem ggX11_whistles_X11_r : GoodIn wsX11_whistles wsX11_r := goodIn_r _ [40] (by decide +kernel) (by decide +kernel)
set_option maxRecDepth 20000 in
theorem gX11_whistles_X11_r : GoodIn wsX11_whistles (va_wsS RX11 84 yX11_r wsX11_r) := goodIn_app (goodIn_of _ (by decide +kernel)) ggX11_whistles_X11_r
set_option maxRecDepth 20000 in
theorem ggX11_whistles_X11_wayBetween : GoodIn wsX11_whistles wsX11_wayBetween := goodIn_r _ [52, 1, 30, 31, 32, 4, 33, 19, 20, 21, 57, 58, 59, 60, 61, 62, 63, 64, 65, 66, 67, 68, 69, 70, 71, 72, 73, 74, 75, 76, 77, 78, 79, 80, 81, 82, 83, 84] (by decide +kernel) (by decide +kernel)
set_option maxRecDepth 20000 in
theorem gX11_whistles_X11_wayBetween : GoodIn wsX11_whistles (wsV RX11 169 RX11 yX11_wayBetween wsX11_wayBetween) := goodIn_app (goodIn_of _ (by decide +kernel)) ggX11_whistles_X11_wayBetween
set_option maxRecDepth 20000 in
theorem ggX11_whistles_X11_w : GoodIn wsX11_whistles wsX11_w := goodIn_r _ [21] (by decide +kernel) (by decide +kernel)
set_option maxRecDepth 20000 in
theorem gX11_whistles_X11_w : GoodIn wsX11_whistles (va_wsS RX11 88 yX11_w wsX11_w) := goodIn_app (goodIn_of _ (by decide +kernel)) ggX11_whistles_X11_w
set_option maxRecDepth 20000 in
theorem ggX11_whistles_X11_counts : GoodIn wsX11_whistles wsX11_counts := goodIn_r _ [56, 1, 57, 58, 59, 60, 61, 62, 63, 64, 65, 66, 67, 68, 69, 70, 71, 72, 73, 74, 75, 76, 77, 78, 79, 80, 81, 82, 83, 84] (by decide +kernel) (by decide +kernel)
set_option maxRecDepth 20000 in
theorem gX11_whistles_X11_counts : GoodIn wsX11_whistles (wsV RX11 126 RX11 yX11_counts wsX11_counts) := goodIn_app (goodIn_of _ (by decide +kernel)) ggX11_whistles_X11_counts
set_option maxRecDepth 20000 in
theorem ggX11_arrives_X11_t : GoodIn wsX11_arrives wsX11_t := goodIn_r _ [5] (by decide +kernel) (by decide +kernel)
set_option maxRecDepth 20000 in
theorem gX11_arrives_X11_t : GoodIn wsX11_arrives (va_wsS RX11 109 yX11_t wsX11_t) := goodIn_app (goodIn_of _ (by decide +kernel)) ggX11_arrives_X11_t
set_option maxRecDepth 20000 in
theorem ggX11_arrives_X11_comes : GoodIn wsX11_arrives wsX11_comes := goodIn_r _ [9, 1, 2, 3, 4, 5, 10, 11, 12, 13, 14, 15, 16, 17, 18, 19, 20, 21, 22, 23, 24, 25, 26, 27, 28, 29, 30, 31, 32, 33, 34, 35, 36, 37, 38, 39, 40, 41, 42, 43, 44, 45, 46, 47, 48, 49, 50, 51, 52, 53, 54, 55, 56, 57, 58, 59, 60, 61, 62, 63, 64, 65, 66, 67, 68, 69, 70, 71, 72, 73, 74, 75, 76, 77, 78, 79, 80] (by decide +kernel) (by decide +kernel)
set_option maxRecDepth 20000 in
theorem gX11_arrives_X11_comes : GoodIn wsX11_arrives (wsV RX11 172 RX11 yX11_comes wsX11_comes) := goodIn_app (goodIn_of _ (by decide +kernel)) ggX11_arrives_X11_comes
set_option maxRecDepth 20000 in
theorem ggX11_loses_X11_t : GoodIn wsX11_loses wsX11_t := goodIn_r _ [5] (by decide +kernel) (by decide +kernel)
set_option maxRecDepth 20000 in
theorem gX11_loses_X11_t : GoodIn wsX11_loses (va_wsS RX11 109 yX11_t wsX11_t) := goodIn_app (goodIn_of _ (by decide +kernel)) ggX11_loses_X11_t
set_option maxRecDepth 20000 in
theorem ggX11_loses_X11_sumTo : GoodIn wsX11_loses wsX11_sumTo := goodIn_r _ [9, 10, 11, 12, 13, 4, 14, 1, 15, 16, 17, 18, 19, 20, 21, 22, 23, 24, 25, 30, 31, 32, 33, 34, 35, 36, 37, 38, 39, 40, 41, 42, 43, 44, 45, 46, 47, 48, 49, 50, 51, 52, 53, 54, 55, 56, 57] (by decide +kernel) (by decide +kernel)
set_option maxRecDepth 20000 in
theorem gX11_loses_X11_sumTo : GoodIn wsX11_loses (wsV RX11 106 RX11 yX11_sumTo wsX11_sumTo) := goodIn_app (goodIn_of _ (by decide +kernel)) ggX11_loses_X11_sumTo
set_option maxRecDepth 20000 in
theorem ggX11_loses_X11_counts : GoodIn wsX11_loses wsX11_counts := goodIn_r _ [29, 1, 30, 31, 32, 33, 34, 35, 36, 37, 38, 39, 40, 41, 42, 43, 44, 45, 46, 47, 48, 49, 50, 51, 52, 53, 54, 55, 56, 57] (by decide +kernel) (by decide +kernel)
set_option maxRecDepth 20000 in
theorem gX11_loses_X11_counts : GoodIn wsX11_loses (wsV RX11 126 RX11 yX11_counts wsX11_counts) := goodIn_app (goodIn_of _ (by decide +kernel)) ggX11_loses_X11_counts
set_option maxRecDepth 20000 in
theorem ggX11_ticks_X11_counts : GoodIn wsX11_ticks wsX11_counts := goodIn_r _ [6, 1, 125, 126, 127, 128, 129, 130, 131, 132, 133, 134, 135, 136, 137, 138, 139, 140, 141, 142, 143, 144, 145, 146, 147, 148, 149, 150, 151, 152] (by decide +kernel) (by decide +kernel)
set_option maxRecDepth 20000 in
theorem gX11_ticks_X11_counts : GoodIn wsX11_ticks (wsV RX11 126 RX11 yX11_counts wsX11_counts) := goodIn_app (goodIn_of _ (by decide +kernel)) ggX11_ticks_X11_counts
set_option maxRecDepth 20000 in
theorem ggX11_ticks_X11_arrives : GoodIn wsX11_ticks wsX11_arrives := goodIn_r _ [10, 1, 11, 12, 5, 13, 14, 15, 16, 17, 18, 19, 20, 21, 22, 23, 24, 25, 26, 27, 28, 29, 30, 31, 32, 33, 34, 35, 2, 3, 4, 6, 36, 37, 38, 39, 40, 41, 42, 43, 44, 45, 46, 47, 48, 49, 50, 51, 52, 53, 54, 55, 56, 125, 126, 127, 128, 129, 130, 131, 132, 133, 134, 135, 136, 137, 138, 139, 140, 141, 142, 143, 144, 145, 146, 147, 148, 149, 150, 151, 152] (by decide +kernel) (by decide +kernel)
set_option maxRecDepth 20000 in
theorem gX11_ticks_X11_arrives : GoodIn wsX11_ticks (wsV RX11 175 RX11 yX11_arrives wsX11_arrives) := goodIn_app (goodIn_of _ (by decide +kernel)) ggX11_ticks_X11_arrives
set_option maxRecDepth 20000 in
theorem ggX11_ticks_X11_isBusy : GoodIn wsX11_ticks wsX11_isBusy := goodIn_r _ [60, 1, 33, 34, 5, 35, 125, 126, 127, 128, 129, 130, 131, 132, 133, 134, 135, 136, 137, 138, 139, 140, 141, 142, 143, 144, 145, 146, 147, 148, 149, 150, 151, 152] (by decide +kernel) (by decide +kernel)
set_option maxRecDepth 20000 in
theorem gX11_ticks_X11_isBusy : GoodIn wsX11_ticks (wsV RX11 178 RX11 yX11_isBusy wsX11_isBusy) := goodIn_app (goodIn_of _ (by decide +kernel)) ggX11_ticks_X11_isBusy
set_option maxRecDepth 20000 in
theorem ggX11_ticks_X11_firstAt : GoodIn wsX11_ticks wsX11_firstAt := goodIn_r _ [64, 1, 65, 66, 67, 5, 68, 11, 12, 13, 69, 70, 71, 72, 73, 74, 75, 76, 77, 78, 79, 80, 33, 34, 35, 81, 82, 83, 84, 85, 86, 87, 88, 89, 90, 91, 92, 93, 94, 95, 96, 97, 98, 99, 100, 101, 102, 103, 104, 105, 106, 107, 108, 109, 110, 111, 112, 125, 126, 127, 128, 129, 130, 131, 132, 133, 134, 135, 136, 137, 138, 139, 140, 141, 142, 143, 144, 145, 146, 147, 148, 149, 150, 151, 152] (by decide +kernel) (by decide +kernel)
set_option maxRecDepth 20000 in
theorem gX11_ticks_X11_firstAt : GoodIn wsX11_ticks (wsV RX11 181 RX11 yX11_firstAt wsX11_firstAt) := goodIn_app (goodIn_of _ (by decide +kernel)) ggX11_ticks_X11_firstAt
set_option maxRecDepth 20000 in
theorem ggX11_ticks_X11_whistles : GoodIn wsX11_ticks wsX11_whistles := goodIn_r _ [116, 1, 11, 12, 5, 13, 85, 86, 87, 88, 89, 90, 91, 92, 93, 94, 95, 96, 97, 98, 99, 100, 101, 102, 103, 104, 105, 106, 107, 108, 109, 110, 111, 112, 81, 82, 83, 84, 33, 34, 35, 69, 70, 71, 72, 73, 74, 75, 76, 117, 118, 119, 120, 2, 3, 4, 6, 125, 126, 127, 128, 129, 130, 131, 132, 133, 134, 135, 136, 137, 138, 139, 140, 141, 142, 143, 144, 145, 146, 147, 148, 149, 150, 151, 152] (by decide +kernel) (by decide +kernel)
set_option maxRecDepth 20000 in
theorem gX11_ticks_X11_whistles : GoodIn wsX11_ticks (wsV RX11 184 RX11 yX11_whistles wsX11_whistles) := goodIn_app (goodIn_of _ (by decide +kernel)) ggX11_ticks_X11_whistles
set_option maxRecDepth 20000 in
theorem ggX11_ticks_X11_loses : GoodIn wsX11_ticks wsX11_loses := goodIn_r _ [124, 1, 11, 12, 5, 13, 90, 91, 92, 93, 89, 94, 95, 96, 97, 98, 99, 100, 101, 102, 103, 104, 105, 106, 107, 108, 2, 3, 4, 6, 125, 126, 127, 128, 129, 130, 131, 132, 133, 134, 135, 136, 137, 138, 139, 140, 141, 142, 143, 144, 145, 146, 147, 148, 149, 150, 151, 152] (by decide +kernel) (by decide +kernel)
set_option maxRecDepth 20000 in
theorem gX11_ticks_X11_loses : GoodIn wsX11_ticks (wsV RX11 187 RX11 yX11_loses wsX11_loses) := goodIn_app (goodIn_of _ (by decide +kernel)) ggX11_ticks_X11_loses
set_option maxRecDepth 20000 in
theorem ggX11_goes_X11_ticks : GoodIn wsX11_goes wsX11_ticks := goodIn_r _ [6, 1, 7, 8, 9, 5, 10, 11, 12, 13, 14, 15, 16, 17, 18, 19, 20, 21, 22, 23, 24, 25, 26, 27, 28, 29, 30, 31, 32, 33, 34, 35, 36, 37, 38, 39, 40, 41, 42, 43, 44, 45, 46, 47, 48, 49, 50, 51, 52, 53, 54, 55, 56, 57, 58, 59, 60, 61, 62, 63, 64, 65, 66, 67, 68, 69, 70, 71, 72, 73, 74, 75, 76, 77, 78, 79, 80, 81, 82, 83, 84, 85, 86, 87, 88, 89, 90, 91, 92, 93, 94, 95, 96, 97, 98, 99, 100, 101, 102, 103, 104, 105, 106, 107, 108, 109, 110, 111, 112, 113, 114, 115, 116, 117, 118, 119, 120, 121, 122, 123, 124, 125, 126, 127, 128, 129, 130, 131, 132, 133, 134, 135, 136, 137, 138, 139, 140, 141, 142, 143, 144, 145, 146, 147, 148, 149, 150, 151, 152, 153, 154, 155, 156] (by decide +kernel) (by decide +kernel)
set_option maxRecDepth 20000 in
theorem gX11_goes_X11_ticks : GoodIn wsX11_goes (wsV RX11 190 RX11 yX11_ticks wsX11_ticks) := goodIn_app (goodIn_of _ (by decide +kernel)) ggX11_goes_X11_ticks
set_option maxRecDepth 20000 in
theorem ggX11_givesCoins_X11_r : GoodIn wsX11_givesCoins wsX11_r := goodIn_r _ [5] (by decide +kernel) (by decide +kernel)
set_option maxRecDepth 20000 in
theorem gX11_givesCoins_X11_r : GoodIn wsX11_givesCoins (va_wsS RX11 84 yX11_r wsX11_r) := goodIn_app (goodIn_of _ (by decide +kernel)) ggX11_givesCoins_X11_r
set_option maxRecDepth 20000 in
theorem ggX11_givesCoins_X11_counts : GoodIn wsX11_givesCoins wsX11_counts := goodIn_r _ [9, 1, 10, 11, 12, 13, 14, 15, 16, 17, 18, 19, 20, 21, 22, 23, 24, 25, 26, 27, 28, 29, 30, 31, 32, 33, 34, 35, 36, 37] (by decide +kernel) (by decide +kernel)
set_option maxRecDepth 20000 in
theorem gX11_givesCoins_X11_counts : GoodIn wsX11_givesCoins (wsV RX11 126 RX11 yX11_counts wsX11_counts) := goodIn_app (goodIn_of _ (by decide +kernel)) ggX11_givesCoins_X11_counts
set_option maxRecDepth 20000 in
theorem ggX11_cuts_X11_w : GoodIn wsX11_cuts wsX11_w := goodIn_r _ [5] (by decide +kernel) (by decide +kernel)
set_option maxRecDepth 20000 in
theorem gX11_cuts_X11_w : GoodIn wsX11_cuts (va_wsS RX11 88 yX11_w wsX11_w) := goodIn_app (goodIn_of _ (by decide +kernel)) ggX11_cuts_X11_w
set_option maxRecDepth 20000 in
theorem ggX11_appendInput_X11_four : GoodIn wsX11_appendInput wsX11_four := goodIn_r _ [7, 8, 2, 9, 10, 11, 12, 13, 14, 15, 16, 17, 18, 19, 20, 21, 22, 23, 24, 25, 26, 27, 28, 29, 30, 31, 32, 33, 34, 35, 36] (by decide +kernel) (by decide +kernel)
set_option maxRecDepth 20000 in
theorem gX11_appendInput_X11_four : GoodIn wsX11_appendInput (wsV RX11 196 RX11 yX11_four wsX11_four) := goodIn_app (goodIn_of _ (by decide +kernel)) ggX11_appendInput_X11_four
set_option maxRecDepth 20000 in
theorem ggX11_truncateInput_X11_in : GoodIn wsX11_truncateInput wsX11_in := goodIn_r _ [6] (by decide +kernel) (by decide +kernel)
set_option maxRecDepth 20000 in
theorem gX11_truncateInput_X11_in : GoodIn wsX11_truncateInput (va_wsS RX11 199 yX11_in wsX11_in) := goodIn_app (goodIn_of _ (by decide +kernel)) ggX11_truncateInput_X11_in
set_option maxRecDepth 20000 in
theorem ggX11_isLetter_X11_in : GoodIn wsX11_isLetter wsX11_in := goodIn_r _ [8] (by decide +kernel) (by decide +kernel)
set_option maxRecDepth 20000 in
theorem gX11_isLetter_X11_in : GoodIn wsX11_isLetter (va_wsS RX11 199 yX11_in wsX11_in) := goodIn_app (goodIn_of _ (by decide +kernel)) ggX11_isLetter_X11_in
set_option maxRecDepth 20000 in
theorem ggX11_isDigit_X11_in : GoodIn wsX11_isDigit wsX11_in := goodIn_r _ [8] (by decide +kernel) (by decide +kernel)
set_option maxRecDepth 20000 in
theorem gX11_isDigit_X11_in : GoodIn wsX11_isDigit (va_wsS RX11 199 yX11_in wsX11_in) := goodIn_app (goodIn_of _ (by decide +kernel)) ggX11_isDigit_X11_in
set_option maxRecDepth 20000 in
theorem ggX11_goesOn_X11_isLetter : GoodIn wsX11_goesOn wsX11_isLetter := goodIn_r _ [12, 4, 5, 13, 14, 15, 16, 11, 17, 24, 25, 26, 27, 28, 29, 30, 31, 32, 33, 34, 35, 36, 37, 38, 39, 40, 41, 42, 43, 44, 45, 46, 47, 48, 49, 50, 51] (by decide +kernel) (by decide +kernel)
set_option maxRecDepth 20000 in
theorem gX11_goesOn_X11_isLetter : GoodIn wsX11_goesOn (wsV RX11 226 RX11 yX11_isLetter wsX11_isLetter) := goodIn_app (goodIn_of _ (by decide +kernel)) ggX11_goesOn_X11_isLetter
set_option maxRecDepth 20000 in
theorem ggX11_goesOn_X11_isDigit : GoodIn wsX11_goesOn wsX11_isDigit := goodIn_r _ [21, 4, 5, 22, 23, 15, 16, 11, 17, 24, 25, 26, 27, 28, 29, 30, 31, 32, 33, 34, 35, 36, 37, 38, 39, 40, 41, 42, 43, 44, 45, 46, 47, 48, 49, 50, 51] (by decide +kernel) (by decide +kernel)
set_option maxRecDepth 20000 in
theorem gX11_goesOn_X11_isDigit : GoodIn wsX11_goesOn (wsV RX11 230 RX11 yX11_isDigit wsX11_isDigit) := goodIn_app (goodIn_of _ (by decide +kernel)) ggX11_goesOn_X11_isDigit
set_option maxRecDepth 20000 in
theorem ggX11_starts_X11_goesOn : GoodIn wsX11_starts wsX11_goesOn := goodIn_r _ [7, 1, 2, 8, 9, 10, 11, 12, 13, 14, 15, 6, 16, 17, 18, 19, 20, 21, 22, 23, 24, 25, 26, 27, 28, 29, 30, 31, 32, 33, 34, 35, 36, 37, 38, 39, 40, 41, 42, 43, 44, 45, 46, 47, 48, 49, 50, 51, 52, 53, 54, 55] (by decide +kernel) (by decide +kernel)
set_option maxRecDepth 20000 in
theorem gX11_starts_X11_goesOn : GoodIn wsX11_starts (wsV RX11 239 RX11 yX11_goesOn wsX11_goesOn) := goodIn_app (goodIn_of _ (by decide +kernel)) ggX11_starts_X11_goesOn
set_option maxRecDepth 20000 in
theorem ggX11_isWord_J0_length_8abf5 : GoodIn wsX11_isWord wsJ0_length_8abf5 := goodIn_r _ [10, 11, 12, 13, 14, 9, 15, 16, 17] (by decide +kernel) (by decide +kernel)
set_option maxRecDepth 20000 in
theorem gX11_isWord_J0_length_8abf5 : GoodIn wsX11_isWord (wsV RX11 57 RJ0 yJ0_length_8abf5 wsJ0_length_8abf5) := goodIn_app (goodIn_of _ (by decide +kernel)) ggX11_isWord_J0_length_8abf5
set_option maxRecDepth 20000 in
theorem ggX11_isWord_J0_charAt_5068e : GoodIn wsX11_isWord wsJ0_charAt_5068e := goodIn_r _ [21, 11, 22, 23, 24, 9, 25, 16, 17, 26, 27, 28, 29, 30, 31, 32, 33, 34, 35, 36, 37, 38, 39, 40, 41, 42, 43, 44, 45, 46, 47, 48, 49, 50, 51, 52, 53, 54] (by decide +kernel) (by decide +kernel)
set_option maxRecDepth 20000 in
theorem gX11_isWord_J0_charAt_5068e : GoodIn wsX11_isWord (wsV RX11 66 RJ0 yJ0_charAt_5068e wsJ0_charAt_5068e) := goodIn_app (goodIn_of _ (by decide +kernel)) ggX11_isWord_J0_charAt_5068e
set_option maxRecDepth 20000 in
theorem ggX11_numberHere_X11_need : GoodIn wsX11_numberHere wsX11_need := goodIn_r _ [8, 3, 9, 10, 14, 15, 16, 17, 18, 19, 20, 21, 22, 23, 24, 25, 26, 27, 28, 29, 30, 31, 32, 33, 34, 35, 36, 37, 38, 39, 40, 41] (by decide +kernel) (by decide +kernel)
set_option maxRecDepth 20000 in
theorem gX11_numberHere_X11_need : GoodIn wsX11_numberHere (wsV RX11 242 RX11 yX11_need wsX11_need) := goodIn_app (goodIn_of _ (by decide +kernel)) ggX11_numberHere_X11_need
set_option maxRecDepth 20000 in
theorem ggX11_numberHere_X11_in : GoodIn wsX11_numberHere wsX11_in := goodIn_r _ [13] (by decide +kernel) (by decide +kernel)
set_option maxRecDepth 20000 in
theorem gX11_numberHere_X11_in : GoodIn wsX11_numberHere (va_wsS RX11 199 yX11_in wsX11_in) := goodIn_app (goodIn_of _ (by decide +kernel)) ggX11_numberHere_X11_in
set_option maxRecDepth 20000 in
theorem ggX11_number_X11_numberHere : GoodIn wsX11_number wsX11_numberHere := goodIn_r _ [5, 6, 7, 8, 9, 10, 11, 4, 12, 13, 14, 15, 16, 17, 37, 38, 39, 40, 41, 42, 43, 44, 45, 46, 47, 48, 49, 50, 51, 52, 53, 54, 55, 56, 57, 58, 59, 60, 61, 62, 63, 64] (by decide +kernel) (by decide +kernel)
set_option maxRecDepth 20000 in
theorem gX11_number_X11_numberHere : GoodIn wsX11_number (wsV RX11 246 RX11 yX11_numberHere wsX11_numberHere) := goodIn_app (goodIn_of _ (by decide +kernel)) ggX11_number_X11_numberHere
set_option maxRecDepth 20000 in
theorem ggX11_number_X11_goesOn : GoodIn wsX11_number wsX11_goesOn := goodIn_r _ [21, 8, 22, 13, 23, 24, 6, 7, 25, 26, 27, 4, 28, 29, 30, 15, 16, 17, 31, 32, 33, 34, 35, 36, 37, 38, 39, 40, 41, 42, 43, 44, 45, 46, 47, 48, 49, 50, 51, 52, 53, 54, 55, 56, 57, 58, 59, 60, 61, 62, 63, 64] (by decide +kernel) (by decide +kernel)
set_option maxRecDepth 20000 in
theorem gX11_number_X11_goesOn : GoodIn wsX11_number (wsV RX11 239 RX11 yX11_goesOn wsX11_goesOn) := goodIn_app (goodIn_of _ (by decide +kernel)) ggX11_number_X11_goesOn
set_option maxRecDepth 20000 in
theorem ggX11_semicolon_X11_need : GoodIn wsX11_semicolon wsX11_need := goodIn_r _ [6, 7, 8, 9, 33, 34, 35, 36, 37, 38, 39, 40, 41, 42, 43, 44, 45, 46, 47, 48, 49, 50, 51, 52, 53, 54, 55, 56, 57, 58, 59, 60] (by decide +kernel) (by decide +kernel)
set_option maxRecDepth 20000 in
theorem gX11_semicolon_X11_need : GoodIn wsX11_semicolon (wsV RX11 242 RX11 yX11_need wsX11_need) := goodIn_app (goodIn_of _ (by decide +kernel)) ggX11_semicolon_X11_need
set_option maxRecDepth 20000 in
theorem ggX11_semicolon_X11_goesOn : GoodIn wsX11_semicolon wsX11_goesOn := goodIn_r _ [13, 7, 14, 8, 15, 16, 1, 17, 18, 19, 20, 5, 21, 22, 23, 24, 25, 26, 27, 28, 29, 30, 31, 32, 33, 34, 35, 36, 37, 38, 39, 40, 41, 42, 43, 44, 45, 46, 47, 48, 49, 50, 51, 52, 53, 54, 55, 56, 57, 58, 59, 60] (by decide +kernel) (by decide +kernel)
set_option maxRecDepth 20000 in
theorem gX11_semicolon_X11_goesOn : GoodIn wsX11_semicolon (wsV RX11 239 RX11 yX11_goesOn wsX11_goesOn) := goodIn_app (goodIn_of _ (by decide +kernel)) ggX11_semicolon_X11_goesOn
set_option maxRecDepth 20000 in
theorem ggX11_spells_X11_need : GoodIn wsX11_spells wsX11_need := goodIn_r _ [12, 4, 3, 13, 14, 15, 16, 17, 18, 19, 20, 21, 22, 23, 24, 25, 26, 27, 28, 29, 30, 31, 32, 33, 34, 35, 36, 37, 38, 39, 40, 41] (by decide +kernel) (by decide +kernel)
set_option maxRecDepth 20000 in
theorem gX11_spells_X11_need : GoodIn wsX11_spells (wsV RX11 242 RX11 yX11_need wsX11_need) := goodIn_app (goodIn_of _ (by decide +kernel)) ggX11_spells_X11_need
set_option maxRecDepth 20000 in
theorem ggX11_roofHere_X11_spells : GoodIn wsX11_roofHere wsX11_spells := goodIn_r _ [10, 11, 12, 13, 1, 14, 15, 16, 17, 18, 19, 9, 20, 21, 30, 31, 32, 33, 34, 35, 36, 37, 38, 39, 40, 41, 42, 43, 44, 45, 46, 47, 48, 49, 50, 51, 52, 53, 54, 55, 56, 57] (by decide +kernel) (by decide +kernel)
set_option maxRecDepth 20000 in
theorem gX11_roofHere_X11_spells : GoodIn wsX11_roofHere (wsV RX11 249 RX11 yX11_spells wsX11_spells) := goodIn_app (goodIn_of _ (by decide +kernel)) ggX11_roofHere_X11_spells
set_option maxRecDepth 20000 in
theorem ggX11_roofHere_X11_named : GoodIn wsX11_roofHere wsX11_named := goodIn_r _ [25, 26, 14, 15, 27, 28, 9, 29, 30, 31, 32, 33, 34, 35, 36, 37, 38, 39, 40, 41, 42, 43, 44, 45, 46, 47, 48, 49, 50, 51, 52, 53, 54, 55, 56, 57] (by decide +kernel) (by decide +kernel)
set_option maxRecDepth 20000 in
theorem gX11_roofHere_X11_named : GoodIn wsX11_roofHere (wsV RX11 252 RX11 yX11_named wsX11_named) := goodIn_app (goodIn_of _ (by decide +kernel)) ggX11_roofHere_X11_named
set_option maxRecDepth 20000 in
theorem ggX11_roofHere_X11_need : GoodIn wsX11_roofHere wsX11_need := goodIn_r _ [20, 1, 13, 21, 30, 31, 32, 33, 34, 35, 36, 37, 38, 39, 40, 41, 42, 43, 44, 45, 46, 47, 48, 49, 50, 51, 52, 53, 54, 55, 56, 57] (by decide +kernel) (by decide +kernel)
set_option maxRecDepth 20000 in
theorem gX11_roofHere_X11_need : GoodIn wsX11_roofHere (wsV RX11 242 RX11 yX11_need wsX11_need) := goodIn_app (goodIn_of _ (by decide +kernel)) ggX11_roofHere_X11_need
set_option maxRecDepth 20000 in
theorem ggX11_roofOfText_X11_roofHere : GoodIn wsX11_roofOfText wsX11_roofHere := goodIn_r _ [5, 6, 7, 8, 9, 10, 11, 12, 13, 4, 14, 15, 16, 17, 18, 19, 20, 21, 22, 23, 24, 25, 26, 27, 28, 29, 30, 31, 32, 33, 55, 56, 57, 58, 59, 60, 61, 62, 63, 64, 65, 66, 67, 68, 69, 70, 71, 72, 73, 74, 75, 76, 77, 78, 79, 80, 81, 82] (by decide +kernel) (by decide +kernel)
set_option maxRecDepth 20000 in
theorem gX11_roofOfText_X11_roofHere : GoodIn wsX11_roofOfText (wsV RX11 255 RX11 yX11_roofHere wsX11_roofHere) := goodIn_app (goodIn_of _ (by decide +kernel)) ggX11_roofOfText_X11_roofHere
set_option maxRecDepth 20000 in
theorem ggX11_roofOfText_X11_goesOn : GoodIn wsX11_roofOfText wsX11_goesOn := goodIn_r _ [37, 6, 16, 17, 38, 20, 15, 39, 40, 41, 42, 4, 43, 44, 45, 46, 47, 48, 49, 50, 51, 52, 53, 54, 55, 56, 57, 58, 59, 60, 61, 62, 63, 64, 65, 66, 67, 68, 69, 70, 71, 72, 73, 74, 75, 76, 77, 78, 79, 80, 81, 82] (by decide +kernel) (by decide +kernel)
set_option maxRecDepth 20000 in
theorem gX11_roofOfText_X11_goesOn : GoodIn wsX11_roofOfText (wsV RX11 239 RX11 yX11_goesOn wsX11_goesOn) := goodIn_app (goodIn_of _ (by decide +kernel)) ggX11_roofOfText_X11_goesOn
set_option maxRecDepth 20000 in
theorem ggX11_settingHere_X11_isWord : GoodIn wsX11_settingHere wsX11_isWord := goodIn_r _ [5, 6, 7, 8, 9, 10, 11, 12, 13, 14, 15, 16, 17, 18, 19, 20, 21, 22, 23, 24, 25, 26, 27, 28, 29, 30, 31, 32, 33, 34, 35, 36, 37, 38, 39, 40, 41, 42, 43, 44, 45, 46, 47, 48, 49, 50, 51, 52, 53, 54, 55, 56, 57, 58, 59, 60, 61, 62, 63, 64, 65, 66, 67, 68, 69, 70, 71, 72, 73, 74, 75, 76, 77, 78, 79, 80, 81, 82, 83, 84, 85, 86, 87] (by decide +kernel) (by decide +kernel)
set_option maxRecDepth 20000 in
theorem gX11_settingHere_X11_isWord : GoodIn wsX11_settingHere (wsV RX11 260 RX11 yX11_isWord wsX11_isWord) := goodIn_app (goodIn_of _ (by decide +kernel)) ggX11_settingHere_X11_isWord
set_option maxRecDepth 20000 in
theorem ggX11_readsRoof_X11_need : GoodIn wsX11_readsRoof wsX11_need := goodIn_r _ [7, 2, 8, 9, 59, 60, 61, 62, 63, 64, 65, 66, 67, 68, 69, 70, 71, 72, 73, 74, 75, 76, 77, 78, 79, 80, 81, 82, 83, 84, 85, 86] (by decide +kernel) (by decide +kernel)
set_option maxRecDepth 20000 in
theorem gX11_readsRoof_X11_need : GoodIn wsX11_readsRoof (wsV RX11 242 RX11 yX11_need wsX11_need) := goodIn_app (goodIn_of _ (by decide +kernel)) ggX11_readsRoof_X11_need
set_option maxRecDepth 20000 in
theorem ggX11_readsRoof_X11_goesOn : GoodIn wsX11_readsRoof wsX11_goesOn := goodIn_r _ [13, 2, 14, 8, 15, 16, 17, 18, 19, 20, 21, 6, 22, 23, 24, 25, 26, 27, 28, 29, 30, 31, 32, 33, 59, 60, 61, 62, 63, 64, 65, 66, 67, 68, 69, 70, 71, 72, 73, 74, 75, 76, 77, 78, 79, 80, 81, 82, 83, 84, 85, 86] (by decide +kernel) (by decide +kernel)
set_option maxRecDepth 20000 in
theorem gX11_readsRoof_X11_goesOn : GoodIn wsX11_readsRoof (wsV RX11 239 RX11 yX11_goesOn wsX11_goesOn) := goodIn_app (goodIn_of _ (by decide +kernel)) ggX11_readsRoof_X11_goesOn
set_option maxRecDepth 20000 in
theorem ggX11_readsRoof_X11_spells : GoodIn wsX11_readsRoof wsX11_spells := goodIn_r _ [37, 17, 14, 8, 2, 38, 39, 16, 3, 4, 5, 6, 7, 9, 59, 60, 61, 62, 63, 64, 65, 66, 67, 68, 69, 70, 71, 72, 73, 74, 75, 76, 77, 78, 79, 80, 81, 82, 83, 84, 85, 86] (by decide +kernel) (by decide +kernel)
set_option maxRecDepth 20000 in
theorem gX11_readsRoof_X11_spells : GoodIn wsX11_readsRoof (wsV RX11 249 RX11 yX11_spells wsX11_spells) := goodIn_app (goodIn_of _ (by decide +kernel)) ggX11_readsRoof_X11_spells
set_option maxRecDepth 20000 in
theorem ggX11_readsRoof_X11_named : GoodIn wsX11_readsRoof wsX11_named := goodIn_r _ [43, 1, 38, 39, 44, 45, 6, 46, 59, 60, 61, 62, 63, 64, 65, 66, 67, 68, 69, 70, 71, 72, 73, 74, 75, 76, 77, 78, 79, 80, 81, 82, 83, 84, 85, 86] (by decide +kernel) (by decide +kernel)
set_option maxRecDepth 20000 in
theorem gX11_readsRoof_X11_named : GoodIn wsX11_readsRoof (wsV RX11 252 RX11 yX11_named wsX11_named) := goodIn_app (goodIn_of _ (by decide +kernel)) ggX11_readsRoof_X11_named
set_option maxRecDepth 20000 in
theorem ggX11_readsRoof_X11_number : GoodIn wsX11_readsRoof wsX11_number := goodIn_r _ [50, 51, 52, 53, 6, 54, 17, 18, 2, 3, 4, 5, 7, 8, 9, 25, 26, 27, 10, 11, 12, 13, 14, 15, 16, 19, 20, 21, 22, 23, 24, 28, 29, 30, 31, 32, 33, 59, 60, 61, 62, 63, 64, 65, 66, 67, 68, 69, 70, 71, 72, 73, 74, 75, 76, 77, 78, 79, 80, 81, 82, 83, 84, 85, 86] (by decide +kernel) (by decide +kernel)
set_option maxRecDepth 20000 in
theorem gX11_readsRoof_X11_number : GoodIn wsX11_readsRoof (wsV RX11 268 RX11 yX11_number wsX11_number) := goodIn_app (goodIn_of _ (by decide +kernel)) ggX11_readsRoof_X11_number
set_option maxRecDepth 20000 in
theorem ggX11_readsRoof_X11_newRoof : GoodIn wsX11_readsRoof wsX11_newRoof := goodIn_r _ [58, 1, 38, 39, 44, 45, 6, 46, 59, 60, 61, 62, 63, 64, 65, 66, 67, 68, 69, 70, 71, 72, 73, 74, 75, 76, 77, 78, 79, 80, 81, 82, 83, 84, 85, 86] (by decide +kernel) (by decide +kernel)
set_option maxRecDepth 20000 in
theorem gX11_readsRoof_X11_newRoof : GoodIn wsX11_readsRoof (wsV RX11 70 RX11 yX11_newRoof wsX11_newRoof) := goodIn_app (goodIn_of _ (by decide +kernel)) ggX11_readsRoof_X11_newRoof
set_option maxRecDepth 20000 in
theorem ggX11_readsWay_X11_need : GoodIn wsX11_readsWay wsX11_need := goodIn_r _ [7, 2, 8, 9, 82, 83, 84, 85, 86, 87, 88, 89, 90, 91, 92, 93, 94, 95, 96, 97, 98, 99, 100, 101, 102, 103, 104, 105, 106, 107, 108, 109] (by decide +kernel) (by decide +kernel)
set_option maxRecDepth 20000 in
theorem gX11_readsWay_X11_need : GoodIn wsX11_readsWay (wsV RX11 242 RX11 yX11_need wsX11_need) := goodIn_app (goodIn_of _ (by decide +kernel)) ggX11_readsWay_X11_need
set_option maxRecDepth 20000 in
theorem ggX11_readsWay_X11_goesOn : GoodIn wsX11_readsWay wsX11_goesOn := goodIn_r _ [13, 2, 14, 8, 15, 16, 17, 18, 19, 20, 21, 6, 22, 23, 24, 25, 26, 27, 28, 29, 30, 31, 32, 33, 82, 83, 84, 85, 86, 87, 88, 89, 90, 91, 92, 93, 94, 95, 96, 97, 98, 99, 100, 101, 102, 103, 104, 105, 106, 107, 108, 109] (by decide +kernel) (by decide +kernel)
set_option maxRecDepth 20000 in
theorem gX11_readsWay_X11_goesOn : GoodIn wsX11_readsWay (wsV RX11 239 RX11 yX11_goesOn wsX11_goesOn) := goodIn_app (goodIn_of _ (by decide +kernel)) ggX11_readsWay_X11_goesOn
set_option maxRecDepth 20000 in
theorem ggX11_readsWay_X11_roofOfText : GoodIn wsX11_readsWay wsX11_roofOfText := goodIn_r _ [37, 38, 39, 40, 6, 41, 2, 42, 43, 44, 45, 46, 47, 48, 49, 17, 14, 8, 50, 51, 16, 3, 4, 5, 7, 9, 52, 53, 54, 55, 1, 56, 57, 58, 10, 11, 12, 13, 15, 18, 19, 20, 21, 22, 23, 24, 25, 26, 27, 28, 29, 30, 31, 32, 33, 82, 83, 84, 85, 86, 87, 88, 89, 90, 91, 92, 93, 94, 95, 96, 97, 98, 99, 100, 101, 102, 103, 104, 105, 106, 107, 108, 109] (by decide +kernel) (by decide +kernel)
set_option maxRecDepth 20000 in
theorem gX11_readsWay_X11_roofOfText : GoodIn wsX11_readsWay (wsV RX11 271 RX11 yX11_roofOfText wsX11_roofOfText) := goodIn_app (goodIn_of _ (by decide +kernel)) ggX11_readsWay_X11_roofOfText
set_option maxRecDepth 20000 in
theorem ggX11_readsWay_X11_roofHere : GoodIn wsX11_readsWay wsX11_roofHere := goodIn_r _ [41, 2, 42, 43, 44, 45, 46, 47, 48, 6, 49, 17, 14, 8, 50, 51, 16, 3, 4, 5, 7, 9, 52, 53, 54, 55, 1, 56, 57, 58, 82, 83, 84, 85, 86, 87, 88, 89, 90, 91, 92, 93, 94, 95, 96, 97, 98, 99, 100, 101, 102, 103, 104, 105, 106, 107, 108, 109] (by decide +kernel) (by decide +kernel)
set_option maxRecDepth 20000 in
theorem gX11_readsWay_X11_roofHere : GoodIn wsX11_readsWay (wsV RX11 255 RX11 yX11_roofHere wsX11_roofHere) := goodIn_app (goodIn_of _ (by decide +kernel)) ggX11_readsWay_X11_roofHere
set_option maxRecDepth 20000 in
theorem ggX11_readsWay_X11_wayBetween : GoodIn wsX11_readsWay wsX11_wayBetween := goodIn_r _ [62, 1, 63, 64, 65, 6, 66, 67, 68, 69, 82, 83, 84, 85, 86, 87, 88, 89, 90, 91, 92, 93, 94, 95, 96, 97, 98, 99, 100, 101, 102, 103, 104, 105, 106, 107, 108, 109] (by decide +kernel) (by decide +kernel)
set_option maxRecDepth 20000 in
theorem gX11_readsWay_X11_wayBetween : GoodIn wsX11_readsWay (wsV RX11 169 RX11 yX11_wayBetween wsX11_wayBetween) := goodIn_app (goodIn_of _ (by decide +kernel)) ggX11_readsWay_X11_wayBetween
set_option maxRecDepth 20000 in
theorem ggX11_readsWay_X11_number : GoodIn wsX11_readsWay wsX11_number := goodIn_r _ [73, 74, 75, 76, 6, 77, 17, 18, 2, 3, 4, 5, 7, 8, 9, 25, 26, 27, 10, 11, 12, 13, 14, 15, 16, 19, 20, 21, 22, 23, 24, 28, 29, 30, 31, 32, 33, 82, 83, 84, 85, 86, 87, 88, 89, 90, 91, 92, 93, 94, 95, 96, 97, 98, 99, 100, 101, 102, 103, 104, 105, 106, 107, 108, 109] (by decide +kernel) (by decide +kernel)
set_option maxRecDepth 20000 in
theorem gX11_readsWay_X11_number : GoodIn wsX11_readsWay (wsV RX11 268 RX11 yX11_number wsX11_number) := goodIn_app (goodIn_of _ (by decide +kernel)) ggX11_readsWay_X11_number
set_option maxRecDepth 20000 in
theorem ggX11_readsWay_X11_newWay : GoodIn wsX11_readsWay wsX11_newWay := goodIn_r _ [81, 1, 67, 68, 6, 69, 82, 83, 84, 85, 86, 87, 88, 89, 90, 91, 92, 93, 94, 95, 96, 97, 98, 99, 100, 101, 102, 103, 104, 105, 106, 107, 108, 109] (by decide +kernel) (by decide +kernel)
set_option maxRecDepth 20000 in
theorem gX11_readsWay_X11_newWay : GoodIn wsX11_readsWay (wsV RX11 74 RX11 yX11_newWay wsX11_newWay) := goodIn_app (goodIn_of _ (by decide +kernel)) ggX11_readsWay_X11_newWay
set_option maxRecDepth 20000 in
theorem ggX11_readsSetting_X11_settingHere : GoodIn wsX11_readsSetting wsX11_settingHere := goodIn_r _ [7, 8, 9, 10, 6, 11, 1, 12, 13, 14, 15, 16, 17, 18, 19, 20, 21, 22, 23, 24, 25, 26, 27, 28, 29, 30, 31, 32, 33, 34, 35, 36, 37, 38, 39, 40, 41, 42, 43, 44, 45, 46, 47, 48, 49, 50, 51, 52, 53, 54, 55, 56, 57, 58, 59, 60, 61, 62, 63, 64, 105, 106, 107, 108, 109, 110, 111, 112, 113, 114, 115, 116, 117, 118, 119, 120, 121, 122, 123, 124, 125, 126, 127, 128, 129, 130, 131, 132] (by decide +kernel) (by decide +kernel)
set_option maxRecDepth 20000 in
theorem gX11_readsSetting_X11_settingHere : GoodIn wsX11_readsSetting (wsV RX11 274 RX11 yX11_settingHere wsX11_settingHere) := goodIn_app (goodIn_of _ (by decide +kernel)) ggX11_readsSetting_X11_settingHere
set_option maxRecDepth 20000 in
theorem ggX11_readsSetting_X11_need : GoodIn wsX11_readsSetting wsX11_need := goodIn_r _ [68, 1, 14, 69, 105, 106, 107, 108, 109, 110, 111, 112, 113, 114, 115, 116, 117, 118, 119, 120, 121, 122, 123, 124, 125, 126, 127, 128, 129, 130, 131, 132] (by decide +kernel) (by decide +kernel)
set_option maxRecDepth 20000 in
theorem gX11_readsSetting_X11_need : GoodIn wsX11_readsSetting (wsV RX11 242 RX11 yX11_need wsX11_need) := goodIn_app (goodIn_of _ (by decide +kernel)) ggX11_readsSetting_X11_need
set_option maxRecDepth 20000 in
theorem ggX11_readsSetting_X11_goesOn : GoodIn wsX11_readsSetting wsX11_goesOn := goodIn_r _ [73, 1, 13, 14, 74, 15, 12, 75, 76, 77, 78, 6, 79, 80, 81, 82, 83, 84, 85, 86, 87, 88, 89, 90, 105, 106, 107, 108, 109, 110, 111, 112, 113, 114, 115, 116, 117, 118, 119, 120, 121, 122, 123, 124, 125, 126, 127, 128, 129, 130, 131, 132] (by decide +kernel) (by decide +kernel)
set_option maxRecDepth 20000 in
theorem gX11_readsSetting_X11_goesOn : GoodIn wsX11_readsSetting (wsV RX11 239 RX11 yX11_goesOn wsX11_goesOn) := goodIn_app (goodIn_of _ (by decide +kernel)) ggX11_readsSetting_X11_goesOn
set_option maxRecDepth 20000 in
theorem ggX11_readsSetting_X11_lowOf : GoodIn wsX11_readsSetting wsX11_lowOf := goodIn_r _ [93] (by decide +kernel) (by decide +kernel)
set_option maxRecDepth 20000 in
theorem gX11_readsSetting_X11_lowOf : GoodIn wsX11_readsSetting (va_wsS RX11 277 yX11_lowOf wsX11_lowOf) := goodIn_app (goodIn_of _ (by decide +kernel)) ggX11_readsSetting_X11_lowOf
set_option maxRecDepth 20000 in
theorem ggX11_readsSetting_X11_highOf : GoodIn wsX11_readsSetting wsX11_highOf := goodIn_r _ [96] (by decide +kernel) (by decide +kernel)
set_option maxRecDepth 20000 in
theorem gX11_readsSetting_X11_highOf : GoodIn wsX11_readsSetting (va_wsS RX11 280 yX11_highOf wsX11_highOf) := goodIn_app (goodIn_of _ (by decide +kernel)) ggX11_readsSetting_X11_highOf
set_option maxRecDepth 20000 in
theorem ggX11_readsSetting_X11_number : GoodIn wsX11_readsSetting wsX11_number := goodIn_r _ [100, 101, 102, 103, 6, 104, 12, 75, 1, 65, 66, 67, 68, 14, 69, 82, 83, 84, 70, 71, 72, 73, 13, 74, 15, 76, 77, 78, 79, 80, 81, 85, 86, 87, 88, 89, 90, 105, 106, 107, 108, 109, 110, 111, 112, 113, 114, 115, 116, 117, 118, 119, 120, 121, 122, 123, 124, 125, 126, 127, 128, 129, 130, 131, 132] (by decide +kernel) (by decide +kernel)
set_option maxRecDepth 20000 in
theorem gX11_readsSetting_X11_number : GoodIn wsX11_readsSetting (wsV RX11 268 RX11 yX11_number wsX11_number) := goodIn_app (goodIn_of _ (by decide +kernel)) ggX11_readsSetting_X11_number
set_option maxRecDepth 20000 in
theorem ggX11_readsStatement_X11_isWord : GoodIn wsX11_readsStatement wsX11_isWord := goodIn_r _ [5, 6, 7, 8, 9, 10, 11, 12, 13, 14, 15, 16, 17, 18, 19, 20, 21, 22, 23, 24, 25, 26, 27, 28, 29, 30, 31, 32, 33, 34, 35, 36, 37, 38, 39, 40, 41, 42, 43, 44, 45, 46, 47, 48, 49, 50, 51, 52, 53, 54, 55, 56, 57, 58, 59, 165, 166, 167, 168, 169, 170, 171, 172, 173, 174, 175, 176, 177, 178, 179, 180, 181, 182, 183, 184, 185, 186, 187, 188, 189, 190, 191, 192] (by decide +kernel) (by decide +kernel)
set_option maxRecDepth 20000 in
theorem gX11_readsStatement_X11_isWord : GoodIn wsX11_readsStatement (wsV RX11 260 RX11 yX11_isWord wsX11_isWord) := goodIn_app (goodIn_of _ (by decide +kernel)) ggX11_readsStatement_X11_isWord
set_option maxRecDepth 20000 in
theorem ggX11_readsStatement_X11_readsRoof : GoodIn wsX11_readsStatement wsX11_readsRoof := goodIn_r _ [63, 64, 6, 65, 66, 67, 4, 68, 9, 69, 70, 71, 72, 73, 8, 74, 10, 7, 75, 76, 77, 78, 79, 80, 81, 82, 83, 84, 85, 86, 87, 88, 89, 90, 91, 92, 93, 94, 95, 96, 97, 98, 99, 100, 101, 102, 103, 104, 105, 106, 107, 108, 109, 110, 111, 112, 113, 114, 115, 165, 166, 167, 168, 169, 170, 171, 172, 173, 174, 175, 176, 177, 178, 179, 180, 181, 182, 183, 184, 185, 186, 187, 188, 189, 190, 191, 192] (by decide +kernel) (by decide +kernel)
set_option maxRecDepth 20000 in
theorem gX11_readsStatement_X11_readsRoof : GoodIn wsX11_readsStatement (wsV RX11 285 RX11 yX11_readsRoof wsX11_readsRoof) := goodIn_app (goodIn_of _ (by decide +kernel)) ggX11_readsStatement_X11_readsRoof
set_option maxRecDepth 20000 in
theorem ggX11_readsStatement_X11_readsWay : GoodIn wsX11_readsStatement wsX11_readsWay := goodIn_r _ [119, 64, 6, 65, 66, 67, 4, 68, 9, 69, 70, 71, 72, 73, 8, 74, 10, 7, 75, 76, 77, 78, 79, 80, 81, 82, 83, 84, 85, 86, 87, 88, 89, 90, 120, 121, 122, 123, 124, 125, 126, 127, 128, 129, 130, 131, 91, 92, 93, 94, 95, 96, 97, 98, 99, 100, 101, 102, 103, 132, 133, 134, 135, 136, 137, 138, 139, 140, 141, 142, 104, 105, 106, 107, 108, 109, 110, 111, 143, 144, 145, 146, 165, 166, 167, 168, 169, 170, 171, 172, 173, 174, 175, 176, 177, 178, 179, 180, 181, 182, 183, 184, 185, 186, 187, 188, 189, 190, 191, 192] (by decide +kernel) (by decide +kernel)
set_option maxRecDepth 20000 in
theorem gX11_readsStatement_X11_readsWay : GoodIn wsX11_readsStatement (wsV RX11 290 RX11 yX11_readsWay wsX11_readsWay) := goodIn_app (goodIn_of _ (by decide +kernel)) ggX11_readsStatement_X11_readsWay
set_option maxRecDepth 20000 in
theorem ggX11_readsStatement_X11_readsSetting : GoodIn wsX11_readsStatement wsX11_readsSetting := goodIn_r _ [150, 6, 64, 151, 152, 153, 4, 154, 1, 2, 3, 5, 7, 8, 9, 10, 11, 12, 13, 14, 15, 16, 17, 18, 19, 20, 21, 22, 23, 24, 25, 26, 27, 28, 29, 30, 31, 32, 33, 34, 35, 36, 37, 38, 39, 40, 41, 42, 43, 44, 45, 46, 47, 48, 49, 50, 51, 52, 53, 54, 55, 56, 57, 58, 59, 65, 66, 67, 68, 69, 70, 71, 72, 73, 74, 75, 76, 77, 78, 79, 80, 81, 82, 83, 84, 85, 86, 87, 88, 89, 90, 155, 156, 157, 158, 159, 160, 104, 105, 106, 107, 108, 109, 110, 111, 165, 166, 167, 168, 169, 170, 171, 172, 173, 174, 175, 176, 177, 178, 179, 180, 181, 182, 183, 184, 185, 186, 187, 188, 189, 190, 191, 192] (by decide +kernel) (by decide +kernel)
set_option maxRecDepth 20000 in
theorem gX11_readsStatement_X11_readsSetting : GoodIn wsX11_readsStatement (wsV RX11 293 RX11 yX11_readsSetting wsX11_readsSetting) := goodIn_app (goodIn_of _ (by decide +kernel)) ggX11_readsStatement_X11_readsSetting
set_option maxRecDepth 20000 in
theorem ggX11_readsStatement_X11_semicolon : GoodIn wsX11_readsStatement wsX11_semicolon := goodIn_r _ [164, 7, 65, 66, 67, 4, 68, 6, 9, 69, 70, 71, 72, 73, 8, 74, 10, 75, 76, 77, 78, 79, 80, 81, 82, 83, 84, 85, 86, 87, 88, 89, 90, 165, 166, 167, 168, 169, 170, 171, 172, 173, 174, 175, 176, 177, 178, 179, 180, 181, 182, 183, 184, 185, 186, 187, 188, 189, 190, 191, 192] (by decide +kernel) (by decide +kernel)
set_option maxRecDepth 20000 in
theorem gX11_readsStatement_X11_semicolon : GoodIn wsX11_readsStatement (wsV RX11 296 RX11 yX11_semicolon wsX11_semicolon) := goodIn_app (goodIn_of _ (by decide +kernel)) ggX11_readsStatement_X11_semicolon
set_option maxRecDepth 20000 in
theorem ggX11_loadPost_X11_copies : GoodIn wsX11_loadPost wsX11_copies := goodIn_r _ [12, 5, 195, 196, 197, 198, 199, 200, 201, 202, 203, 204, 205, 206, 207, 208, 209, 210, 211, 212, 213, 214, 215, 216, 217, 218, 219, 220, 221, 222] (by decide +kernel) (by decide +kernel)
set_option maxRecDepth 20000 in
theorem gX11_loadPost_X11_copies : GoodIn wsX11_loadPost (wsV RX11 299 RX11 yX11_copies wsX11_copies) := goodIn_app (goodIn_of _ (by decide +kernel)) ggX11_loadPost_X11_copies
set_option maxRecDepth 20000 in
theorem ggX11_loadPost_X11_clears : GoodIn wsX11_loadPost wsX11_clears := goodIn_r _ [16, 5, 195, 196, 197, 198, 199, 200, 201, 202, 203, 204, 205, 206, 207, 208, 209, 210, 211, 212, 213, 214, 215, 216, 217, 218, 219, 220, 221, 222] (by decide +kernel) (by decide +kernel)
set_option maxRecDepth 20000 in
theorem gX11_loadPost_X11_clears : GoodIn wsX11_loadPost (wsV RX11 52 RX11 yX11_clears wsX11_clears) := goodIn_app (goodIn_of _ (by decide +kernel)) ggX11_loadPost_X11_clears
set_option maxRecDepth 20000 in
theorem ggX11_loadPost_X11_starts : GoodIn wsX11_loadPost wsX11_starts := goodIn_r _ [20, 3, 21, 22, 23, 24, 11, 25, 26, 27, 28, 4, 29, 30, 31, 32, 33, 34, 35, 36, 37, 38, 39, 40, 41, 42, 43, 44, 195, 196, 197, 198, 199, 200, 201, 202, 203, 204, 205, 206, 207, 208, 209, 210, 211, 212, 213, 214, 215, 216, 217, 218, 219, 220, 221, 222] (by decide +kernel) (by decide +kernel)
set_option maxRecDepth 20000 in
theorem gX11_loadPost_X11_starts : GoodIn wsX11_loadPost (wsV RX11 303 RX11 yX11_starts wsX11_starts) := goodIn_app (goodIn_of _ (by decide +kernel)) ggX11_loadPost_X11_starts
set_option maxRecDepth 20000 in
theorem ggX11_loadPost_X11_readsStatement : GoodIn wsX11_loadPost wsX11_readsStatement := goodIn_r _ [48, 49, 50, 51, 11, 52, 3, 4, 21, 26, 28, 53, 54, 55, 56, 57, 58, 59, 60, 61, 62, 63, 64, 65, 66, 67, 68, 69, 70, 71, 72, 73, 74, 75, 76, 77, 78, 79, 80, 81, 82, 83, 84, 85, 86, 87, 88, 89, 90, 91, 92, 93, 94, 95, 96, 97, 98, 99, 100, 101, 102, 103, 104, 105, 5, 106, 107, 108, 109, 110, 22, 23, 24, 25, 27, 29, 30, 31, 32, 33, 34, 35, 36, 37, 38, 39, 40, 41, 42, 43, 44, 111, 112, 113, 114, 115, 116, 117, 118, 119, 120, 121, 122, 123, 124, 125, 126, 127, 128, 129, 130, 131, 132, 133, 134, 135, 136, 137, 138, 139, 140, 141, 142, 143, 144, 145, 146, 147, 148, 149, 150, 151, 152, 153, 154, 155, 156, 157, 158, 159, 160, 161, 162, 163, 164, 165, 166, 167, 168, 169, 170, 171, 172, 173, 174, 175, 176, 177, 178, 179, 180, 181, 182, 183, 184, 195, 196, 197, 198, 199, 200, 201, 202, 203, 204, 205, 206, 207, 208, 209, 210, 211, 212, 213, 214, 215, 216, 217, 218, 219, 220, 221, 222] (by decide +kernel) (by decide +kernel)
set_option maxRecDepth 20000 in
theorem gX11_loadPost_X11_readsStatement : GoodIn wsX11_loadPost (wsV RX11 306 RX11 yX11_readsStatement wsX11_readsStatement) := goodIn_app (goodIn_of _ (by decide +kernel)) ggX11_loadPost_X11_readsStatement
set_option maxRecDepth 20000 in
theorem ggX11_loadPost_X11_need : GoodIn wsX11_loadPost wsX11_need := goodIn_r _ [109, 3, 26, 110, 195, 196, 197, 198, 199, 200, 201, 202, 203, 204, 205, 206, 207, 208, 209, 210, 211, 212, 213, 214, 215, 216, 217, 218, 219, 220, 221, 222] (by decide +kernel) (by decide +kernel)
set_option maxRecDepth 20000 in
theorem gX11_loadPost_X11_need : GoodIn wsX11_loadPost (wsV RX11 242 RX11 yX11_need wsX11_need) := goodIn_app (goodIn_of _ (by decide +kernel)) ggX11_loadPost_X11_need
set_option maxRecDepth 20000 in
theorem ggX11_loadPost_X11_ending : GoodIn wsX11_loadPost wsX11_ending := goodIn_r _ [188, 3, 189, 110, 190, 27, 195, 196, 197, 198, 199, 200, 201, 202, 203, 204, 205, 206, 207, 208, 209, 210, 211, 212, 213, 214, 215, 216, 217, 218, 219, 220, 221, 222] (by decide +kernel) (by decide +kernel)
set_option maxRecDepth 20000 in
theorem gX11_loadPost_X11_ending : GoodIn wsX11_loadPost (wsV RX11 309 RX11 yX11_ending wsX11_ending) := goodIn_app (goodIn_of _ (by decide +kernel)) ggX11_loadPost_X11_ending
set_option maxRecDepth 20000 in
theorem ggX11_loadPost_X11_gives : GoodIn wsX11_loadPost wsX11_gives := goodIn_r _ [194, 5, 195, 196, 197, 198, 199, 200, 201, 202, 203, 204, 205, 206, 207, 208, 209, 210, 211, 212, 213, 214, 215, 216, 217, 218, 219, 220, 221, 222] (by decide +kernel) (by decide +kernel)
set_option maxRecDepth 20000 in
theorem gX11_loadPost_X11_gives : GoodIn wsX11_loadPost (wsV RX11 312 RX11 yX11_gives wsX11_gives) := goodIn_app (goodIn_of _ (by decide +kernel)) ggX11_loadPost_X11_gives
set_option maxRecDepth 20000 in
theorem ggX11_kindHere_X11_isWord : GoodIn wsX11_kindHere wsX11_isWord := goodIn_r _ [5, 6, 7, 8, 9, 10, 11, 12, 13, 14, 15, 16, 17, 18, 19, 20, 21, 22, 23, 24, 25, 26, 27, 28, 29, 30, 31, 32, 33, 34, 35, 36, 37, 38, 39, 40, 41, 42, 43, 44, 45, 46, 47, 48, 49, 50, 51, 52, 53, 54, 55, 56, 57, 58, 59, 64, 65, 66, 67, 68, 69, 70, 71, 72, 73, 74, 75, 76, 77, 78, 79, 80, 81, 82, 83, 84, 85, 86, 87, 88, 89, 90, 91] (by decide +kernel) (by decide +kernel)
set_option maxRecDepth 20000 in
theorem gX11_kindHere_X11_isWord : GoodIn wsX11_kindHere (wsV RX11 260 RX11 yX11_isWord wsX11_isWord) := goodIn_app (goodIn_of _ (by decide +kernel)) ggX11_kindHere_X11_isWord
set_option maxRecDepth 20000 in
theorem ggX11_kindHere_X11_settingHere : GoodIn wsX11_kindHere wsX11_settingHere := goodIn_r _ [63, 1, 2, 3, 4, 5, 6, 7, 8, 9, 10, 11, 12, 13, 14, 15, 16, 17, 18, 19, 20, 21, 22, 23, 24, 25, 26, 27, 28, 29, 30, 31, 32, 33, 34, 35, 36, 37, 38, 39, 40, 41, 42, 43, 44, 45, 46, 47, 48, 49, 50, 51, 52, 53, 54, 55, 56, 57, 58, 59, 64, 65, 66, 67, 68, 69, 70, 71, 72, 73, 74, 75, 76, 77, 78, 79, 80, 81, 82, 83, 84, 85, 86, 87, 88, 89, 90, 91] (by decide +kernel) (by decide +kernel)
set_option maxRecDepth 20000 in
theorem gX11_kindHere_X11_settingHere : GoodIn wsX11_kindHere (wsV RX11 274 RX11 yX11_settingHere wsX11_settingHere) := goodIn_app (goodIn_of _ (by decide +kernel)) ggX11_kindHere_X11_settingHere
set_option maxRecDepth 20000 in
theorem ggX11_readsNotes_X11_numberHere : GoodIn wsX11_readsNotes wsX11_numberHere := goodIn_r _ [8, 3, 9, 1, 10, 11, 12, 7, 13, 14, 15, 16, 17, 18, 38, 39, 40, 41, 42, 43, 44, 45, 46, 47, 48, 49, 50, 51, 52, 53, 54, 55, 56, 57, 58, 59, 60, 61, 62, 63, 64, 65] (by decide +kernel) (by decide +kernel)
set_option maxRecDepth 20000 in
theorem gX11_readsNotes_X11_numberHere : GoodIn wsX11_readsNotes (wsV RX11 246 RX11 yX11_numberHere wsX11_numberHere) := goodIn_app (goodIn_of _ (by decide +kernel)) ggX11_readsNotes_X11_numberHere
set_option maxRecDepth 20000 in
theorem ggX11_readsNotes_X11_need : GoodIn wsX11_readsNotes wsX11_need := goodIn_r _ [13, 1, 14, 15, 38, 39, 40, 41, 42, 43, 44, 45, 46, 47, 48, 49, 50, 51, 52, 53, 54, 55, 56, 57, 58, 59, 60, 61, 62, 63, 64, 65] (by decide +kernel) (by decide +kernel)
set_option maxRecDepth 20000 in
theorem gX11_readsNotes_X11_need : GoodIn wsX11_readsNotes (wsV RX11 242 RX11 yX11_need wsX11_need) := goodIn_app (goodIn_of _ (by decide +kernel)) ggX11_readsNotes_X11_need
set_option maxRecDepth 20000 in
theorem ggX11_readsNotes_X11_goesOn : GoodIn wsX11_readsNotes wsX11_goesOn := goodIn_r _ [22, 1, 23, 14, 24, 25, 3, 9, 26, 27, 28, 7, 29, 30, 31, 16, 17, 18, 32, 33, 34, 35, 36, 37, 38, 39, 40, 41, 42, 43, 44, 45, 46, 47, 48, 49, 50, 51, 52, 53, 54, 55, 56, 57, 58, 59, 60, 61, 62, 63, 64, 65] (by decide +kernel) (by decide +kernel)
set_option maxRecDepth 20000 in
theorem gX11_readsNotes_X11_goesOn : GoodIn wsX11_readsNotes (wsV RX11 239 RX11 yX11_goesOn wsX11_goesOn) := goodIn_app (goodIn_of _ (by decide +kernel)) ggX11_readsNotes_X11_goesOn
set_option maxRecDepth 20000 in
theorem ggX11_readsDeed_X11_kindHere : GoodIn wsX11_readsDeed wsX11_kindHere := goodIn_r _ [8, 9, 10, 11, 7, 12, 2, 13, 14, 15, 16, 17, 18, 19, 20, 21, 22, 23, 24, 25, 26, 27, 28, 29, 30, 31, 32, 33, 34, 35, 36, 37, 38, 39, 40, 41, 42, 43, 44, 45, 46, 47, 48, 49, 50, 51, 52, 53, 54, 55, 56, 57, 58, 59, 60, 61, 62, 63, 64, 65, 66, 67, 68, 69, 144, 145, 146, 147, 148, 149, 150, 151, 152, 153, 154, 155, 156, 157, 158, 159, 160, 161, 162, 163, 164, 165, 166, 167, 168, 169, 170, 171] (by decide +kernel) (by decide +kernel)
set_option maxRecDepth 20000 in
theorem gX11_readsDeed_X11_kindHere : GoodIn wsX11_readsDeed (wsV RX11 330 RX11 yX11_kindHere wsX11_kindHere) := goodIn_app (goodIn_of _ (by decide +kernel)) ggX11_readsDeed_X11_kindHere
set_option maxRecDepth 20000 in
theorem ggX11_readsDeed_X11_settingHere : GoodIn wsX11_readsDeed wsX11_settingHere := goodIn_r _ [69, 9, 10, 11, 7, 12, 2, 13, 14, 15, 16, 17, 18, 19, 20, 21, 22, 23, 24, 25, 26, 27, 28, 29, 30, 31, 32, 33, 34, 35, 36, 37, 38, 39, 40, 41, 42, 43, 44, 45, 46, 47, 48, 49, 50, 51, 52, 53, 54, 55, 56, 57, 58, 59, 60, 61, 62, 63, 64, 65, 144, 145, 146, 147, 148, 149, 150, 151, 152, 153, 154, 155, 156, 157, 158, 159, 160, 161, 162, 163, 164, 165, 166, 167, 168, 169, 170, 171] (by decide +kernel) (by decide +kernel)
set_option maxRecDepth 20000 in
theorem gX11_readsDeed_X11_settingHere : GoodIn wsX11_readsDeed (wsV RX11 274 RX11 yX11_settingHere wsX11_settingHere) := goodIn_app (goodIn_of _ (by decide +kernel)) ggX11_readsDeed_X11_settingHere
set_option maxRecDepth 20000 in
theorem ggX11_readsDeed_X11_need : GoodIn wsX11_readsDeed wsX11_need := goodIn_r _ [73, 2, 15, 74, 144, 145, 146, 147, 148, 149, 150, 151, 152, 153, 154, 155, 156, 157, 158, 159, 160, 161, 162, 163, 164, 165, 166, 167, 168, 169, 170, 171] (by decide +kernel) (by decide +kernel)
set_option maxRecDepth 20000 in
theorem gX11_readsDeed_X11_need : GoodIn wsX11_readsDeed (wsV RX11 242 RX11 yX11_need wsX11_need) := goodIn_app (goodIn_of _ (by decide +kernel)) ggX11_readsDeed_X11_need
set_option maxRecDepth 20000 in
theorem ggX11_readsDeed_X11_goesOn : GoodIn wsX11_readsDeed wsX11_goesOn := goodIn_r _ [78, 2, 14, 15, 79, 16, 13, 80, 81, 82, 83, 7, 84, 85, 86, 87, 88, 89, 90, 91, 92, 93, 94, 95, 144, 145, 146, 147, 148, 149, 150, 151, 152, 153, 154, 155, 156, 157, 158, 159, 160, 161, 162, 163, 164, 165, 166, 167, 168, 169, 170, 171] (by decide +kernel) (by decide +kernel)
set_option maxRecDepth 20000 in
theorem gX11_readsDeed_X11_goesOn : GoodIn wsX11_readsDeed (wsV RX11 239 RX11 yX11_goesOn wsX11_goesOn) := goodIn_app (goodIn_of _ (by decide +kernel)) ggX11_readsDeed_X11_goesOn
set_option maxRecDepth 20000 in
theorem ggX11_readsDeed_X11_roofOfText : GoodIn wsX11_readsDeed wsX11_roofOfText := goodIn_r _ [99, 100, 101, 102, 7, 103, 2, 104, 105, 106, 107, 108, 109, 110, 111, 13, 14, 15, 112, 113, 16, 70, 71, 72, 73, 74, 114, 115, 116, 117, 118, 119, 120, 121, 75, 76, 77, 78, 79, 80, 81, 82, 83, 84, 85, 86, 87, 88, 89, 90, 91, 92, 93, 94, 95, 144, 145, 146, 147, 148, 149, 150, 151, 152, 153, 154, 155, 156, 157, 158, 159, 160, 161, 162, 163, 164, 165, 166, 167, 168, 169, 170, 171] (by decide +kernel) (by decide +kernel)
set_option maxRecDepth 20000 in
theorem gX11_readsDeed_X11_roofOfText : GoodIn wsX11_readsDeed (wsV RX11 271 RX11 yX11_roofOfText wsX11_roofOfText) := goodIn_app (goodIn_of _ (by decide +kernel)) ggX11_readsDeed_X11_roofOfText
set_option maxRecDepth 20000 in
theorem ggX11_readsDeed_X11_readsNotes : GoodIn wsX11_readsDeed wsX11_readsNotes := goodIn_r _ [125, 2, 3, 13, 126, 127, 128, 7, 129, 80, 70, 71, 72, 73, 15, 74, 87, 88, 89, 75, 76, 77, 78, 14, 79, 16, 81, 82, 83, 84, 85, 86, 90, 91, 92, 93, 94, 95, 144, 145, 146, 147, 148, 149, 150, 151, 152, 153, 154, 155, 156, 157, 158, 159, 160, 161, 162, 163, 164, 165, 166, 167, 168, 169, 170, 171] (by decide +kernel) (by decide +kernel)
set_option maxRecDepth 20000 in
theorem gX11_readsDeed_X11_readsNotes : GoodIn wsX11_readsDeed (wsV RX11 336 RX11 yX11_readsNotes wsX11_readsNotes) := goodIn_app (goodIn_of _ (by decide +kernel)) ggX11_readsDeed_X11_readsNotes
set_option maxRecDepth 20000 in
theorem ggX11_readsDeed_X11_number : GoodIn wsX11_readsDeed wsX11_number := goodIn_r _ [133, 126, 127, 128, 7, 129, 13, 80, 2, 70, 71, 72, 73, 15, 74, 87, 88, 89, 75, 76, 77, 78, 14, 79, 16, 81, 82, 83, 84, 85, 86, 90, 91, 92, 93, 94, 95, 144, 145, 146, 147, 148, 149, 150, 151, 152, 153, 154, 155, 156, 157, 158, 159, 160, 161, 162, 163, 164, 165, 166, 167, 168, 169, 170, 171] (by decide +kernel) (by decide +kernel)
set_option maxRecDepth 20000 in
theorem gX11_readsDeed_X11_number : GoodIn wsX11_readsDeed (wsV RX11 268 RX11 yX11_number wsX11_number) := goodIn_app (goodIn_of _ (by decide +kernel)) ggX11_readsDeed_X11_number
set_option maxRecDepth 20000 in
theorem ggX11_readsDeed_X11_lowOf : GoodIn wsX11_readsDeed wsX11_lowOf := goodIn_r _ [136] (by decide +kernel) (by decide +kernel)
set_option maxRecDepth 20000 in
theorem gX11_readsDeed_X11_lowOf : GoodIn wsX11_readsDeed (va_wsS RX11 277 yX11_lowOf wsX11_lowOf) := goodIn_app (goodIn_of _ (by decide +kernel)) ggX11_readsDeed_X11_lowOf
set_option maxRecDepth 20000 in
theorem ggX11_readsDeed_X11_highOf : GoodIn wsX11_readsDeed wsX11_highOf := goodIn_r _ [139] (by decide +kernel) (by decide +kernel)
set_option maxRecDepth 20000 in
theorem gX11_readsDeed_X11_highOf : GoodIn wsX11_readsDeed (va_wsS RX11 280 yX11_highOf wsX11_highOf) := goodIn_app (goodIn_of _ (by decide +kernel)) ggX11_readsDeed_X11_highOf
set_option maxRecDepth 20000 in
theorem ggX11_readsDeed_X11_semicolon : GoodIn wsX11_readsDeed wsX11_semicolon := goodIn_r _ [143, 13, 70, 71, 72, 7, 73, 2, 15, 74, 75, 76, 77, 78, 14, 79, 16, 80, 81, 82, 83, 84, 85, 86, 87, 88, 89, 90, 91, 92, 93, 94, 95, 144, 145, 146, 147, 148, 149, 150, 151, 152, 153, 154, 155, 156, 157, 158, 159, 160, 161, 162, 163, 164, 165, 166, 167, 168, 169, 170, 171] (by decide +kernel) (by decide +kernel)
set_option maxRecDepth 20000 in
theorem gX11_readsDeed_X11_semicolon : GoodIn wsX11_readsDeed (wsV RX11 296 RX11 yX11_semicolon wsX11_semicolon) := goodIn_app (goodIn_of _ (by decide +kernel)) ggX11_readsDeed_X11_semicolon
set_option maxRecDepth 20000 in
theorem ggX11_sendsDeed_X11_newTune : GoodIn wsX11_sendsDeed wsX11_newTune := goodIn_r _ [8, 9, 2, 3, 10, 11, 7, 12, 13, 14, 15, 16, 17, 18, 19, 20, 21, 22, 23, 24, 25, 26, 27, 28, 29, 30, 31, 32, 33, 34, 35, 36, 37, 38, 39, 40, 41, 42, 43, 44, 45, 46, 47, 48, 49, 50, 51] (by decide +kernel) (by decide +kernel)
set_option maxRecDepth 20000 in
theorem gX11_sendsDeed_X11_newTune : GoodIn wsX11_sendsDeed (wsV RX11 144 RX11 yX11_newTune wsX11_newTune) := goodIn_app (goodIn_of _ (by decide +kernel)) ggX11_sendsDeed_X11_newTune
set_option maxRecDepth 20000 in
theorem ggX11_does_X11_sendsDeed : GoodIn wsX11_does wsX11_sendsDeed := goodIn_r _ [7, 1, 8, 9, 10, 11, 12, 6, 13, 2, 14, 15, 16, 17, 18, 19, 20, 21, 22, 23, 24, 25, 26, 27, 150, 151, 152, 153, 154, 155, 156, 157, 158, 159, 160, 161, 162, 163, 164, 165, 166, 167, 168, 169, 170, 171, 172, 173, 174, 175, 176, 177] (by decide +kernel) (by decide +kernel)
set_option maxRecDepth 20000 in
theorem gX11_does_X11_sendsDeed : GoodIn wsX11_does (wsV RX11 339 RX11 yX11_sendsDeed wsX11_sendsDeed) := goodIn_app (goodIn_of _ (by decide +kernel)) ggX11_does_X11_sendsDeed
set_option maxRecDepth 20000 in
theorem ggX11_does_X11_goes : GoodIn wsX11_does wsX11_goes := goodIn_r _ [31, 2, 32, 33, 34, 6, 35, 24, 25, 26, 27, 36, 37, 38, 39, 14, 15, 16, 40, 41, 42, 43, 44, 45, 46, 47, 48, 49, 50, 51, 52, 53, 54, 55, 56, 57, 58, 59, 60, 61, 62, 63, 64, 65, 17, 18, 19, 20, 21, 22, 23, 66, 67, 68, 69, 8, 9, 10, 11, 12, 13, 70, 71, 72, 73, 74, 75, 76, 77, 78, 79, 80, 81, 82, 83, 84, 85, 86, 87, 88, 89, 90, 91, 92, 93, 94, 95, 96, 97, 98, 99, 100, 101, 102, 103, 104, 105, 106, 107, 108, 109, 110, 111, 112, 113, 114, 115, 116, 117, 118, 119, 120, 121, 122, 123, 124, 125, 126, 127, 128, 129, 130, 131, 132, 133, 134, 135, 136, 137, 150, 151, 152, 153, 154, 155, 156, 157, 158, 159, 160, 161, 162, 163, 164, 165, 166, 167, 168, 169, 170, 171, 172, 173, 174, 175, 176, 177] (by decide +kernel) (by decide +kernel)
set_option maxRecDepth 20000 in
theorem gX11_does_X11_goes : GoodIn wsX11_does (wsV RX11 342 RX11 yX11_goes wsX11_goes) := goodIn_app (goodIn_of _ (by decide +kernel)) ggX11_does_X11_goes
set_option maxRecDepth 20000 in
theorem ggX11_does_X11_r : GoodIn wsX11_does wsX11_r := goodIn_r _ [61] (by decide +kernel) (by decide +kernel)
set_option maxRecDepth 20000 in
theorem gX11_does_X11_r : GoodIn wsX11_does (va_wsS RX11 84 yX11_r wsX11_r) := goodIn_app (goodIn_of _ (by decide +kernel)) ggX11_does_X11_r
set_option maxRecDepth 20000 in
theorem ggX11_does_X11_givesCoins : GoodIn wsX11_does wsX11_givesCoins := goodIn_r _ [141, 2, 59, 60, 6, 61, 24, 25, 26, 27, 150, 151, 152, 153, 154, 155, 156, 157, 158, 159, 160, 161, 162, 163, 164, 165, 166, 167, 168, 169, 170, 171, 172, 173, 174, 175, 176, 177] (by decide +kernel) (by decide +kernel)
set_option maxRecDepth 20000 in
theorem gX11_does_X11_givesCoins : GoodIn wsX11_does (wsV RX11 345 RX11 yX11_givesCoins wsX11_givesCoins) := goodIn_app (goodIn_of _ (by decide +kernel)) ggX11_does_X11_givesCoins
set_option maxRecDepth 20000 in
theorem ggX11_does_X11_wayBetween : GoodIn wsX11_does wsX11_wayBetween := goodIn_r _ [133, 2, 122, 123, 124, 6, 125, 111, 112, 113, 150, 151, 152, 153, 154, 155, 156, 157, 158, 159, 160, 161, 162, 163, 164, 165, 166, 167, 168, 169, 170, 171, 172, 173, 174, 175, 176, 177] (by decide +kernel) (by decide +kernel)
set_option maxRecDepth 20000 in
theorem gX11_does_X11_wayBetween : GoodIn wsX11_does (wsV RX11 169 RX11 yX11_wayBetween wsX11_wayBetween) := goodIn_app (goodIn_of _ (by decide +kernel)) ggX11_does_X11_wayBetween
set_option maxRecDepth 20000 in
theorem ggX11_does_X11_cuts : GoodIn wsX11_does wsX11_cuts := goodIn_r _ [145, 2, 111, 112, 6, 113, 150, 151, 152, 153, 154, 155, 156, 157, 158, 159, 160, 161, 162, 163, 164, 165, 166, 167, 168, 169, 170, 171, 172, 173, 174, 175, 176, 177] (by decide +kernel) (by decide +kernel)
set_option maxRecDepth 20000 in
theorem gX11_does_X11_cuts : GoodIn wsX11_does (wsV RX11 348 RX11 yX11_cuts wsX11_cuts) := goodIn_app (goodIn_of _ (by decide +kernel)) ggX11_does_X11_cuts
set_option maxRecDepth 20000 in
theorem ggX11_does_X11_sets : GoodIn wsX11_does wsX11_sets := goodIn_r _ [149, 2, 150, 151, 152, 153, 154, 155, 156, 157, 158, 159, 160, 161, 162, 163, 164, 165, 166, 167, 168, 169, 170, 171, 172, 173, 174, 175, 176, 177] (by decide +kernel) (by decide +kernel)
set_option maxRecDepth 20000 in
theorem gX11_does_X11_sets : GoodIn wsX11_does (wsV RX11 351 RX11 yX11_sets wsX11_sets) := goodIn_app (goodIn_of _ (by decide +kernel)) ggX11_does_X11_sets
set_option maxRecDepth 20000 in
theorem ggX11_playScript_X11_starts : GoodIn wsX11_playScript wsX11_starts := goodIn_r _ [9, 3, 10, 11, 12, 13, 8, 14, 15, 16, 17, 4, 18, 19, 20, 21, 22, 23, 24, 25, 26, 27, 28, 29, 30, 31, 32, 33, 308, 309, 310, 311, 312, 313, 314, 315, 316, 317, 318, 319, 320, 321, 322, 323, 324, 325, 326, 327, 328, 329, 330, 331, 332, 333, 334, 335] (by decide +kernel) (by decide +kernel)
set_option maxRecDepth 20000 in
theorem gX11_playScript_X11_starts : GoodIn wsX11_playScript (wsV RX11 303 RX11 yX11_starts wsX11_starts) := goodIn_app (goodIn_of _ (by decide +kernel)) ggX11_playScript_X11_starts
set_option maxRecDepth 20000 in
theorem ggX11_playScript_X11_readsDeed : GoodIn wsX11_playScript wsX11_readsDeed := goodIn_r _ [37, 2, 3, 38, 39, 40, 41, 8, 42, 43, 44, 45, 46, 4, 10, 15, 17, 47, 48, 49, 50, 51, 52, 53, 54, 55, 56, 57, 58, 59, 60, 61, 62, 63, 64, 65, 66, 67, 68, 69, 70, 71, 72, 73, 74, 75, 76, 77, 78, 79, 80, 81, 82, 83, 84, 85, 86, 87, 88, 89, 90, 91, 92, 93, 94, 95, 96, 97, 98, 99, 100, 101, 102, 103, 104, 11, 12, 13, 14, 16, 18, 19, 20, 21, 22, 23, 24, 25, 26, 27, 28, 29, 30, 31, 32, 33, 105, 106, 107, 108, 109, 110, 111, 112, 113, 114, 115, 116, 117, 118, 119, 120, 121, 122, 123, 124, 125, 126, 127, 128, 129, 130, 131, 132, 133, 134, 135, 136, 137, 138, 139, 140, 141, 142, 143, 144, 145, 146, 147, 148, 149, 150, 151, 152, 308, 309, 310, 311, 312, 313, 314, 315, 316, 317, 318, 319, 320, 321, 322, 323, 324, 325, 326, 327, 328, 329, 330, 331, 332, 333, 334, 335] (by decide +kernel) (by decide +kernel)
set_option maxRecDepth 20000 in
theorem gX11_playScript_X11_readsDeed : GoodIn wsX11_playScript (wsV RX11 354 RX11 yX11_readsDeed wsX11_readsDeed) := goodIn_app (goodIn_of _ (by decide +kernel)) ggX11_playScript_X11_readsDeed
set_option maxRecDepth 20000 in
theorem ggX11_playScript_X11_ending : GoodIn wsX11_playScript wsX11_ending := goodIn_r _ [156, 3, 157, 104, 158, 16, 308, 309, 310, 311, 312, 313, 314, 315, 316, 317, 318, 319, 320, 321, 322, 323, 324, 325, 326, 327, 328, 329, 330, 331, 332, 333, 334, 335] (by decide +kernel) (by decide +kernel)
set_option maxRecDepth 20000 in
theorem gX11_playScript_X11_ending : GoodIn wsX11_playScript (wsV RX11 309 RX11 yX11_ending wsX11_ending) := goodIn_app (goodIn_of _ (by decide +kernel)) ggX11_playScript_X11_ending
set_option maxRecDepth 20000 in
theorem ggX11_playScript_X11_remembers : GoodIn wsX11_playScript wsX11_remembers := goodIn_r _ [162, 163, 164, 127, 308, 309, 310, 311, 312, 313, 314, 315, 316, 317, 318, 319, 320, 321, 322, 323, 324, 325, 326, 327, 328, 329, 330, 331, 332, 333, 334, 335] (by decide +kernel) (by decide +kernel)
set_option maxRecDepth 20000 in
theorem gX11_playScript_X11_remembers : GoodIn wsX11_playScript (wsV RX11 357 RX11 yX11_remembers wsX11_remembers) := goodIn_app (goodIn_of _ (by decide +kernel)) ggX11_playScript_X11_remembers
set_option maxRecDepth 20000 in
theorem ggX11_playScript_X11_does : GoodIn wsX11_playScript wsX11_does := goodIn_r _ [168, 38, 127, 169, 170, 171, 8, 172, 173, 174, 175, 176, 177, 178, 179, 180, 181, 182, 183, 184, 185, 186, 187, 188, 189, 190, 191, 192, 193, 194, 195, 196, 197, 198, 199, 200, 201, 202, 203, 204, 205, 206, 207, 208, 209, 210, 211, 212, 213, 214, 215, 216, 113, 114, 115, 116, 217, 218, 219, 128, 129, 130, 220, 221, 222, 223, 224, 225, 226, 227, 228, 229, 230, 231, 232, 233, 234, 235, 236, 237, 238, 239, 240, 241, 242, 243, 244, 245, 246, 247, 248, 249, 250, 251, 252, 253, 254, 255, 256, 257, 258, 259, 260, 261, 262, 263, 264, 265, 266, 267, 268, 269, 270, 271, 272, 273, 274, 275, 276, 277, 278, 279, 280, 281, 282, 283, 284, 285, 286, 287, 288, 289, 290, 291, 292, 293, 294, 295, 296, 297, 298, 299, 300, 301, 302, 303, 304, 305, 306, 307, 308, 309, 310, 311, 312, 313, 314, 315, 316, 317, 318, 319, 320, 321, 322, 323, 324, 325, 326, 327, 328, 329, 330, 331, 332, 333, 334, 335] (by decide +kernel) (by decide +kernel)
set_option maxRecDepth 20000 in
theorem gX11_playScript_X11_does : GoodIn wsX11_playScript (wsV RX11 360 RX11 yX11_does wsX11_does) := goodIn_app (goodIn_of _ (by decide +kernel)) ggX11_playScript_X11_does
set_option maxRecDepth 20000 in
theorem ggX11_those_X11_t : GoodIn wsX11_those wsX11_t := goodIn_r _ [5] (by decide +kernel) (by decide +kernel)
set_option maxRecDepth 20000 in
theorem gX11_those_X11_t : GoodIn wsX11_those (va_wsS RX11 109 yX11_t wsX11_t) := goodIn_app (goodIn_of _ (by decide +kernel)) ggX11_those_X11_t
set_option maxRecDepth 20000 in
theorem ggX11_those_X11_one : GoodIn wsX11_those wsX11_one := goodIn_r _ [8] (by decide +kernel) (by decide +kernel)
set_option maxRecDepth 20000 in
theorem gX11_those_X11_one : GoodIn wsX11_those (va_wsS RX11 115 yX11_one wsX11_one) := goodIn_app (goodIn_of _ (by decide +kernel)) ggX11_those_X11_one
set_option maxRecDepth 20000 in
theorem ggX11_busyMany_X11_isBusy : GoodIn wsX11_busyMany wsX11_isBusy := goodIn_r _ [6, 1, 7, 8, 5, 9, 13, 14, 15, 16, 17, 18, 19, 20, 21, 22, 23, 24, 25, 26, 27, 28, 29, 30, 31, 32, 33, 34, 35, 36, 37, 38, 39, 40] (by decide +kernel) (by decide +kernel)
set_option maxRecDepth 20000 in
theorem gX11_busyMany_X11_isBusy : GoodIn wsX11_busyMany (wsV RX11 178 RX11 yX11_isBusy wsX11_isBusy) := goodIn_app (goodIn_of _ (by decide +kernel)) ggX11_busyMany_X11_isBusy
set_option maxRecDepth 20000 in
theorem ggX11_busyMany_X11_one : GoodIn wsX11_busyMany wsX11_one := goodIn_r _ [12] (by decide +kernel) (by decide +kernel)
set_option maxRecDepth 20000 in
theorem gX11_busyMany_X11_one : GoodIn wsX11_busyMany (va_wsS RX11 115 yX11_one wsX11_one) := goodIn_app (goodIn_of _ (by decide +kernel)) ggX11_busyMany_X11_one
set_option maxRecDepth 20000 in
theorem ggX11_purses_X11_r : GoodIn wsX11_purses wsX11_r := goodIn_r _ [5] (by decide +kernel) (by decide +kernel)
set_option maxRecDepth 20000 in
theorem gX11_purses_X11_r : GoodIn wsX11_purses (va_wsS RX11 84 yX11_r wsX11_r) := goodIn_app (goodIn_of _ (by decide +kernel)) ggX11_purses_X11_r
set_option maxRecDepth 20000 in
theorem ggX11_count_X11_in : GoodIn wsX11_count wsX11_in := goodIn_r _ [7] (by decide +kernel) (by decide +kernel)
set_option maxRecDepth 20000 in
theorem gX11_count_X11_in : GoodIn wsX11_count (va_wsS RX11 199 yX11_in wsX11_in) := goodIn_app (goodIn_of _ (by decide +kernel)) ggX11_count_X11_in
set_option maxRecDepth 20000 in
theorem ggX11_count_X11_may : GoodIn wsX11_count wsX11_may := goodIn_r _ [11, 12, 38, 39, 40, 41, 42, 43, 44, 45, 46, 47, 48, 49, 50, 51, 52, 53, 54, 55, 56, 57, 58, 59, 60, 61, 62, 63, 64, 65] (by decide +kernel) (by decide +kernel)
set_option maxRecDepth 20000 in
theorem gX11_count_X11_may : GoodIn wsX11_count (wsV RX11 365 RX11 yX11_may wsX11_may) := goodIn_app (goodIn_of _ (by decide +kernel)) ggX11_count_X11_may
set_option maxRecDepth 20000 in
theorem ggX11_count_X11_those : GoodIn wsX11_count wsX11_those := goodIn_r _ [16, 2, 17, 18, 6, 19, 20, 21, 22, 38, 39, 40, 41, 42, 43, 44, 45, 46, 47, 48, 49, 50, 51, 52, 53, 54, 55, 56, 57, 58, 59, 60, 61, 62, 63, 64, 65] (by decide +kernel) (by decide +kernel)
set_option maxRecDepth 20000 in
theorem gX11_count_X11_those : GoodIn wsX11_count (wsV RX11 369 RX11 yX11_those wsX11_those) := goodIn_app (goodIn_of _ (by decide +kernel)) ggX11_count_X11_those
set_option maxRecDepth 20000 in
theorem ggX11_count_X11_busyMany : GoodIn wsX11_count wsX11_busyMany := goodIn_r _ [26, 2, 27, 28, 29, 6, 30, 31, 32, 33, 20, 21, 22, 38, 39, 40, 41, 42, 43, 44, 45, 46, 47, 48, 49, 50, 51, 52, 53, 54, 55, 56, 57, 58, 59, 60, 61, 62, 63, 64, 65] (by decide +kernel) (by decide +kernel)
set_option maxRecDepth 20000 in
theorem gX11_count_X11_busyMany : GoodIn wsX11_count (wsV RX11 372 RX11 yX11_busyMany wsX11_busyMany) := goodIn_app (goodIn_of _ (by decide +kernel)) ggX11_count_X11_busyMany
set_option maxRecDepth 20000 in
theorem ggX11_count_X11_purses : GoodIn wsX11_count wsX11_purses := goodIn_r _ [37, 2, 31, 32, 6, 33, 38, 39, 40, 41, 42, 43, 44, 45, 46, 47, 48, 49, 50, 51, 52, 53, 54, 55, 56, 57, 58, 59, 60, 61, 62, 63, 64, 65] (by decide +kernel) (by decide +kernel)
set_option maxRecDepth 20000 in
theorem gX11_count_X11_purses : GoodIn wsX11_count (wsV RX11 375 RX11 yX11_purses wsX11_purses) := goodIn_app (goodIn_of _ (by decide +kernel)) ggX11_count_X11_purses
set_option maxRecDepth 20000 in
theorem ggX11_account_X11_in : GoodIn wsX11_account wsX11_in := goodIn_r _ [6] (by decide +kernel) (by decide +kernel)
set_option maxRecDepth 20000 in
theorem gX11_account_X11_in : GoodIn wsX11_account (va_wsS RX11 199 yX11_in wsX11_in) := goodIn_app (goodIn_of _ (by decide +kernel)) ggX11_account_X11_in
set_option maxRecDepth 20000 in
theorem ggX11_account_X11_may : GoodIn wsX11_account wsX11_may := goodIn_r _ [10, 11, 12, 13, 14, 15, 16, 17, 18, 19, 20, 21, 22, 23, 24, 25, 26, 27, 28, 29, 30, 31, 32, 33, 34, 35, 36, 37, 38, 39] (by decide +kernel) (by decide +kernel)
set_option maxRecDepth 20000 in
theorem gX11_account_X11_may : GoodIn wsX11_account (wsV RX11 365 RX11 yX11_may wsX11_may) := goodIn_app (goodIn_of _ (by decide +kernel)) ggX11_account_X11_may
set_option maxRecDepth 20000 in
theorem ggX11_isRoof_X11_in : GoodIn wsX11_isRoof wsX11_in := goodIn_r _ [5] (by decide +kernel) (by decide +kernel)
set_option maxRecDepth 20000 in
theorem gX11_isRoof_X11_in : GoodIn wsX11_isRoof (va_wsS RX11 199 yX11_in wsX11_in) := goodIn_app (goodIn_of _ (by decide +kernel)) ggX11_isRoof_X11_in
set_option maxRecDepth 20000 in
theorem ggX11_areRoofs_X11_isRoof : GoodIn wsX11_areRoofs wsX11_isRoof := goodIn_r _ [5, 6, 7, 8, 4, 9, 10, 11, 12, 13, 14, 15, 16, 17, 18, 19, 20, 21, 22, 23, 24, 25, 26, 27, 28, 29, 30, 31, 32, 33, 34, 35, 36, 37] (by decide +kernel) (by decide +kernel)
set_option maxRecDepth 20000 in
theorem gX11_areRoofs_X11_isRoof : GoodIn wsX11_areRoofs (wsV RX11 380 RX11 yX11_isRoof wsX11_isRoof) := goodIn_app (goodIn_of _ (by decide +kernel)) ggX11_areRoofs_X11_isRoof
set_option maxRecDepth 20000 in
theorem ggX11_isTune_X11_in : GoodIn wsX11_isTune wsX11_in := goodIn_r _ [5] (by decide +kernel) (by decide +kernel)
set_option maxRecDepth 20000 in
theorem gX11_isTune_X11_in : GoodIn wsX11_isTune (va_wsS RX11 199 yX11_in wsX11_in) := goodIn_app (goodIn_of _ (by decide +kernel)) ggX11_isTune_X11_in
