set_option maxHeartbeats 4000000 in
set_option maxRecDepth 100000 in
theorem l_X11_send_b57 {x : Cx} (F : Nat) (a0 : Nat) (h0 : shK a0 = 10 + 9) (p1 : Int) (p2 : Int) (p3 : Int) (p4 : Int)  (hx : CxOK x RX11 cX11_send 6 3 0 (some .int))   (z0 : Int) (z1 : Int) (z2 : Int) (z3 : Nat) (hz3 : shK z3 = 10 + 9) (w : aI) : En x jvIW 0 0 57 [(0, .ref a0), (1, .int (oI p1)), (2, .int (oI p2)), (4, .int (oI p4))] [.int (oI z0), .int (oI z1), .int (oI z2), .ref z3] (cm w) (f_X11_send_b57 F a0 p1 p2 p3 p4    z0 z1 z2 z3 w) := by
  unfold f_X11_send_b57
  refine I_cVBW  (pc := 57) hx [.int (oI z2), .int (oI z1), .int (oI z0)] [] (ev_X11_may F z3 hz3 z2 z1 z0 w) vm_X11_may fc9 hz3 g1714 dX11_send_57 rfl rfl (Nat.le_of_ble_eq_true rfl) (Nat.le_of_ble_eq_true rfl) (Nat.le_of_ble_eq_true rfl) (fun r4 w5 => ?_)
  refine I_ifB_ne (pc := 60) hx 65 dX11_send_60 rfl ?_ ?_
  · refine E_aload_n (pc := 65) hx 0 dX11_send_65 rfl rfl ?_
    refine I_cVV  (pc := 66) hx [] [] (ev_X11_remembers F a0 h0 w5) vm_X11_remembers fc9 h0 g1578 dX11_send_66 rfl rfl (Nat.le_of_ble_eq_true rfl) (Nat.le_of_ble_eq_true rfl) (Nat.le_of_ble_eq_true rfl) (fun w6 => ?_)
    refine E_aload_n (pc := 69) hx 0 dX11_send_69 rfl rfl ?_
    refine E_iload_n (pc := 70) hx 1 dX11_send_70 rfl rfl ?_
    refine E_iload_n (pc := 71) hx 2 dX11_send_71 rfl rfl ?_
    refine I_iconst (pc := 72) hx 0 dX11_send_72 ?_
    refine E_iload (pc := 73) hx 3 dX11_send_73 rfl ?_
    refine I_cVIW  (pc := 75) hx [.int (oI p1), .int (oI p2), .int (oI 0), .int (oI p4)] [] (ev_X11_newTune F a0 h0 p1 p2 0 p4 w6) vm_X11_newTune fc9 h0 g1590 dX11_send_75 rfl rfl (Nat.le_of_ble_eq_true rfl) (Nat.le_of_ble_eq_true rfl) (Nat.le_of_ble_eq_true rfl) (fun r7 w8 => ?_)
    exact E_iret (pc := 78) hx dX11_send_78 rfl rfl (Nat.le_of_ble_eq_true rfl)
  refine I_iconst (pc := 63) hx 0 dX11_send_63 ?_
  exact E_iret (pc := 64) hx dX11_send_64 rfl rfl (Nat.le_of_ble_eq_true rfl)
set_option maxHeartbeats 4000000 in
set_option maxRecDepth 100000 in
theorem l_X11_send_b30 {x : Cx} (F : Nat) (a0 : Nat) (h0 : shK a0 = 10 + 9) (p1 : Int) (p2 : Int) (p3 : Int) (p4 : Int)  (hx : CxOK x RX11 cX11_send 6 3 0 (some .int))   (z0 : Int) (w : aI) : En x jvIW 0 0 30 [(0, .ref a0), (1, .int (oI p1)), (2, .int (oI p2)), (4, .int (oI p4))] [.int (oI z0)] (cm w) (f_X11_send_b30 F a0 p1 p2 p3 p4    z0 w) := by
  unfold f_X11_send_b30
  refine E_istore (pc := 30) hx dX11_send_30 (Nat.le_of_ble_eq_true rfl) rfl ?_
  refine E_aload_n (pc := 32) hx 1 dX11_send_32 rfl rfl ?_
  refine E_aload_n (pc := 33) hx 1 dX11_send_33 rfl rfl ?_
  refine E_iload_n (pc := 34) hx 2 dX11_send_34 rfl rfl ?_
  refine E_iload_n (pc := 35) hx 3 dX11_send_35 rfl rfl ?_
  refine I_cVB  (pc := 36) hx [.int (oI p1), .int (oI p2)] [.ref a0] (ev_X11_areRoofs F a0 h0 p1 p2 w) vm_X11_areRoofs fc9 h0 g1765 dX11_send_36 rfl rfl (Nat.le_of_ble_eq_true rfl) (Nat.le_of_ble_eq_true rfl) (Nat.le_of_ble_eq_true rfl) (fun r2 => ?_)
  refine E_iload (pc := 39) hx 0 dX11_send_39 rfl ?_
  refine E_aload_n (pc := 41) hx 1 dX11_send_41 rfl rfl ?_
  refine E_getR (pc := 42) hx 0 fc9 h0 rfl ⟨rfl, rfl, rfl⟩ g1332 dX11_send_42 ?_
  refine I_iconst (pc := 45) hx 2 dX11_send_45 ?_
  refine I_iald (pc := 46) hx (kt_9_0 h0) dX11_send_46 ?_
  refine I_bipush (pc := 47) hx 30 dX11_send_47 rfl ?_
  refine E_gd (fun hr3 => ?_)
  refine I_icmp_ge (pc := 49) hx 56 dX11_send_49 rfl ⟨hr3, (by decide)⟩ ?_ ?_
  · refine I_iconst (pc := 56) hx 0 dX11_send_56 ?_
    refine En.sub [1, 2, 3, 4] rfl ?_
    exact l_X11_send_b57 F a0 h0 p1 p2 p3 p4 hx 0 z0 (bI r2) a0 h0 w
  refine I_iconst (pc := 52) hx 1 dX11_send_52 ?_
  refine E_goto (pc := 53) hx 57 dX11_send_53 rfl ?_
  refine En.sub [1, 2, 3, 4] rfl ?_
  exact l_X11_send_b57 F a0 h0 p1 p2 p3 p4 hx 1 z0 (bI r2) a0 h0 w
set_option maxHeartbeats 4000000 in
set_option maxRecDepth 100000 in
theorem l_X11_send_b29 {x : Cx} (F : Nat) (a0 : Nat) (h0 : shK a0 = 10 + 9) (p1 : Int) (p2 : Int) (p3 : Int) (p4 : Int)  (hx : CxOK x RX11 cX11_send 6 3 0 (some .int))    (w : aI) : En x jvIW 0 0 29 [(0, .ref a0), (1, .int (oI p1)), (2, .int (oI p2)), (4, .int (oI p4))] [] (cm w) (f_X11_send_b29 F a0 p1 p2 p3 p4    w) := by
  unfold f_X11_send_b29
  refine I_iconst (pc := 29) hx 0 dX11_send_29 ?_
  exact l_X11_send_b30 F a0 h0 p1 p2 p3 p4 hx 0 w
set_option maxHeartbeats 4000000 in
set_option maxRecDepth 100000 in
theorem ev_X11_send (F : Nat) (a0 : Nat) (h0 : shK a0 = 10 + 9) (p1 : Int) (p2 : Int) (p3 : Int) (p4 : Int) (w : aI) : Ev yX11_send cX11_send 6 (some .int) 3 0 jvIW [.ref a0, .int (oI p1), .int (oI p2), .int (oI p3), .int (oI p4)] (cm w) (f_X11_send F a0 p1 p2 p3 p4 w) := by
  refine Ev.of (own := RX11) (by decide +kernel) rfl (Nat.le_of_ble_eq_true rfl) (fun x hx => ?_)
  show En x jvIW 0 0 0 [(0, .ref a0), (1, .int (oI p1)), (2, .int (oI p2)), (3, .int (oI p3)), (4, .int (oI p4))] [] (cm w) _
  unfold f_X11_send
  refine E_iload_n (pc := 0) hx 1 dX11_send_0 rfl rfl ?_
  refine E_iload_n (pc := 1) hx 2 dX11_send_1 rfl rfl ?_
  refine E_gd (fun hr1 => ?_)
  refine I_icmp_eq (pc := 2) hx 29 dX11_send_2 rfl ⟨hr1.1, hr1.2⟩ ?_ ?_
  · refine En.sub [0, 1, 2, 4] rfl ?_
    exact l_X11_send_b29 F a0 h0 p1 p2 p3 p4 hx w
  refine E_iload_n (pc := 5) hx 3 dX11_send_5 rfl rfl ?_
  refine E_gd (fun hr9 => ?_)
  refine I_i2l (pc := 6) hx dX11_send_6 hr9 ?_
  refine I_lconst (pc := 7) hx 0 dX11_send_7 rfl ?_
  refine I_ldc2 (pc := 8) hx 77777777 g1872 rfl dX11_send_8 ?_
  refine I_cSB  (pc := 11) hx [.long (oL p3), .long (oL 0), .long (oL 77777777)] [] (ev_X11_in F p3 0 77777777 w) sm_X11_in g1434 dX11_send_11 rfl rfl (Nat.le_of_ble_eq_true rfl) (Nat.le_of_ble_eq_true rfl) (Nat.le_of_ble_eq_true rfl) (fun r10 => ?_)
  refine I_ifB_eq (pc := 14) hx 29 dX11_send_14 rfl ?_ ?_
  · refine En.sub [0, 1, 2, 4] rfl ?_
    exact l_X11_send_b29 F a0 h0 p1 p2 p3 p4 hx w
  refine E_aload_n (pc := 17) hx 0 dX11_send_17 rfl rfl ?_
  refine E_iload_n (pc := 18) hx 3 dX11_send_18 rfl rfl ?_
  refine I_cVBW  (pc := 19) hx [.int (oI p3)] [] (ev_X11_sings F a0 h0 p3 w) vm_X11_sings fc9 h0 g1873 dX11_send_19 rfl rfl (Nat.le_of_ble_eq_true rfl) (Nat.le_of_ble_eq_true rfl) (Nat.le_of_ble_eq_true rfl) (fun r11 w12 => ?_)
  refine I_ifB_eq (pc := 22) hx 29 dX11_send_22 rfl ?_ ?_
  · refine En.sub [0, 1, 2, 4] rfl ?_
    exact l_X11_send_b29 F a0 h0 p1 p2 p3 p4 hx w12
  refine I_iconst (pc := 25) hx 1 dX11_send_25 ?_
  refine E_goto (pc := 26) hx 30 dX11_send_26 rfl ?_
  refine En.sub [0, 1, 2, 4] rfl ?_
  exact l_X11_send_b30 F a0 h0 p1 p2 p3 p4 hx 1 w12
set_option maxHeartbeats 4000000 in
set_option maxRecDepth 100000 in
theorem l_X11_tick_b32 {x : Cx} (F : Nat) (a0 : Nat) (h0 : shK a0 = 10 + 9) (p1 : Int)  (hx : CxOK x RX11 cX11_tick 2 9 0 (some .int))   (z0 : Int) (z1 : Int) (z2 : Nat) (hz2 : shK z2 = 10 + 9) (w : aI) : En x jvIW 0 0 32 [(0, .ref a0), (1, .int (oI p1))] [.int (oI z0), .int (oI z1), .ref z2] (cm w) (f_X11_tick_b32 F a0 p1    z0 z1 z2 w) := by
  unfold f_X11_tick_b32
  refine I_iconst (pc := 32) hx 1 dX11_tick_32 ?_
  refine I_cVBW  (pc := 33) hx [.int (oI z1), .int (oI z0), .int (oI 1)] [] (ev_X11_may F z2 hz2 z1 z0 1 w) vm_X11_may fc9 hz2 g1714 dX11_tick_33 rfl rfl (Nat.le_of_ble_eq_true rfl) (Nat.le_of_ble_eq_true rfl) (Nat.le_of_ble_eq_true rfl) (fun r5 w6 => ?_)
  refine I_ifB_ne (pc := 36) hx 41 dX11_tick_36 rfl ?_ ?_
  · refine E_aload_n (pc := 41) hx 0 dX11_tick_41 rfl rfl ?_
    refine I_cVV  (pc := 42) hx [] [] (ev_X11_remembers F a0 h0 w6) vm_X11_remembers fc9 h0 g1578 dX11_tick_42 rfl rfl (Nat.le_of_ble_eq_true rfl) (Nat.le_of_ble_eq_true rfl) (Nat.le_of_ble_eq_true rfl) (fun w7 => ?_)
    refine E_aload_n (pc := 45) hx 0 dX11_tick_45 rfl rfl ?_
    refine E_iload_n (pc := 46) hx 1 dX11_tick_46 rfl rfl ?_
    refine I_cVIW  (pc := 47) hx [.int (oI p1)] [] (ev_X11_goes F a0 h0 p1 w7) vm_X11_goes fc9 h0 g1608 dX11_tick_47 rfl rfl (Nat.le_of_ble_eq_true rfl) (Nat.le_of_ble_eq_true rfl) (Nat.le_of_ble_eq_true rfl) (fun r8 w9 => ?_)
    exact E_iret (pc := 50) hx dX11_tick_50 rfl rfl (Nat.le_of_ble_eq_true rfl)
  refine I_iconst (pc := 39) hx 0 dX11_tick_39 ?_
  exact E_iret (pc := 40) hx dX11_tick_40 rfl rfl (Nat.le_of_ble_eq_true rfl)
set_option maxHeartbeats 4000000 in
set_option maxRecDepth 100000 in
theorem ev_X11_tick (F : Nat) (a0 : Nat) (h0 : shK a0 = 10 + 9) (p1 : Int) (w : aI) : Ev yX11_tick cX11_tick 2 (some .int) 9 0 jvIW [.ref a0, .int (oI p1)] (cm w) (f_X11_tick F a0 p1 w) := by
  refine Ev.of (own := RX11) (by decide +kernel) rfl (Nat.le_of_ble_eq_true rfl) (fun x hx => ?_)
  show En x jvIW 0 0 0 [(0, .ref a0), (1, .int (oI p1))] [] (cm w) _
  unfold f_X11_tick
  refine E_aload_n (pc := 0) hx 0 dX11_tick_0 rfl rfl ?_
  refine E_iload_n (pc := 1) hx 1 dX11_tick_1 rfl rfl ?_
  refine E_gd (fun hr1 => ?_)
  refine I_i2l (pc := 2) hx dX11_tick_2 hr1 ?_
  refine I_lconst (pc := 3) hx 1 dX11_tick_3 rfl ?_
  refine I_ldc2 (pc := 4) hx 200 g1831 rfl dX11_tick_4 ?_
  refine I_cSB  (pc := 7) hx [.long (oL p1), .long (oL 1), .long (oL 200)] [.ref a0] (ev_X11_in F p1 1 200 w) sm_X11_in g1434 dX11_tick_7 rfl rfl (Nat.le_of_ble_eq_true rfl) (Nat.le_of_ble_eq_true rfl) (Nat.le_of_ble_eq_true rfl) (fun r2 => ?_)
  refine E_aload_n (pc := 10) hx 0 dX11_tick_10 rfl rfl ?_
  refine E_getR (pc := 11) hx 0 fc9 h0 rfl ⟨rfl, rfl, rfl⟩ g1332 dX11_tick_11 ?_
  refine I_iconst (pc := 14) hx 3 dX11_tick_14 ?_
  refine I_iald (pc := 15) hx (kt_9_0 h0) dX11_tick_15 ?_
  refine E_gd (fun hr3 => ?_)
  refine I_i2l (pc := 16) hx dX11_tick_16 hr3 ?_
  refine E_iload_n (pc := 17) hx 1 dX11_tick_17 rfl rfl ?_
  refine I_i2l (pc := 18) hx dX11_tick_18 hr1 ?_
  refine I_ladd (pc := 19) hx dX11_tick_19 ?_
  refine I_ldc2 (pc := 20) hx 9999 g1881 rfl dX11_tick_20 ?_
  refine E_gd (fun hl4 => ?_)
  refine I_lcmp (pc := 23) hx dX11_tick_23 ⟨hl4, (by decide)⟩ ?_
  refine I_if_gt (pc := 24) hx 31 dX11_tick_24 rfl (lcmp_rg _ _) ?_ ?_
  · refine I_iconst (pc := 31) hx 0 dX11_tick_31 ?_
    exact l_X11_tick_b32 F a0 h0 p1 hx 0 (bI r2) a0 h0 w
  refine I_iconst (pc := 27) hx 1 dX11_tick_27 ?_
  refine E_goto (pc := 28) hx 32 dX11_tick_28 rfl ?_
  exact l_X11_tick_b32 F a0 h0 p1 hx 1 (bI r2) a0 h0 w
set_option maxHeartbeats 4000000 in
set_option maxRecDepth 100000 in
theorem l_X11_give_b55 {x : Cx} (F : Nat) (a0 : Nat) (h0 : shK a0 = 10 + 9) (p1 : Int) (p2 : Int)  (hx : CxOK x RX11 cX11_give 5 2 0 (some .int))   (z0 : Int) (z1 : Int) (z2 : Int) (z3 : Nat) (hz3 : shK z3 = 10 + 9) (w : aI) : En x jvIW 0 0 55 [(0, .ref a0), (1, .int (oI p1)), (2, .int (oI p2))] [.int (oI z0), .int (oI z1), .int (oI z2), .ref z3] (cm w) (f_X11_give_b55 F a0 p1 p2    z0 z1 z2 z3 w) := by
  unfold f_X11_give_b55
  refine I_cVBW  (pc := 55) hx [.int (oI z2), .int (oI z1), .int (oI z0)] [] (ev_X11_may F z3 hz3 z2 z1 z0 w) vm_X11_may fc9 hz3 g1714 dX11_give_55 rfl rfl (Nat.le_of_ble_eq_true rfl) (Nat.le_of_ble_eq_true rfl) (Nat.le_of_ble_eq_true rfl) (fun r4 w5 => ?_)
  refine I_ifB_ne (pc := 58) hx 63 dX11_give_58 rfl ?_ ?_
  · refine E_aload_n (pc := 63) hx 0 dX11_give_63 rfl rfl ?_
    refine I_cVV  (pc := 64) hx [] [] (ev_X11_remembers F a0 h0 w5) vm_X11_remembers fc9 h0 g1578 dX11_give_64 rfl rfl (Nat.le_of_ble_eq_true rfl) (Nat.le_of_ble_eq_true rfl) (Nat.le_of_ble_eq_true rfl) (fun w6 => ?_)
    refine E_aload_n (pc := 67) hx 0 dX11_give_67 rfl rfl ?_
    refine E_iload_n (pc := 68) hx 1 dX11_give_68 rfl rfl ?_
    refine E_iload_n (pc := 69) hx 2 dX11_give_69 rfl rfl ?_
    refine I_cVIW  (pc := 70) hx [.int (oI p1), .int (oI p2)] [] (ev_X11_givesCoins F a0 h0 p1 p2 w6) vm_X11_givesCoins fc9 h0 g1697 dX11_give_70 rfl rfl (Nat.le_of_ble_eq_true rfl) (Nat.le_of_ble_eq_true rfl) (Nat.le_of_ble_eq_true rfl) (fun r7 w8 => ?_)
    exact E_iret (pc := 73) hx dX11_give_73 rfl rfl (Nat.le_of_ble_eq_true rfl)
  refine I_iconst (pc := 61) hx 0 dX11_give_61 ?_
  exact E_iret (pc := 62) hx dX11_give_62 rfl rfl (Nat.le_of_ble_eq_true rfl)
set_option maxHeartbeats 4000000 in
set_option maxRecDepth 100000 in
theorem l_X11_give_b54 {x : Cx} (F : Nat) (a0 : Nat) (h0 : shK a0 = 10 + 9) (p1 : Int) (p2 : Int)  (hx : CxOK x RX11 cX11_give 5 2 0 (some .int))   (z0 : Int) (z1 : Int) (z2 : Nat) (hz2 : shK z2 = 10 + 9) (w : aI) : En x jvIW 0 0 54 [(0, .ref a0), (1, .int (oI p1)), (2, .int (oI p2))] [.int (oI z0), .int (oI z1), .ref z2] (cm w) (f_X11_give_b54 F a0 p1 p2    z0 z1 z2 w) := by
  unfold f_X11_give_b54
  refine I_iconst (pc := 54) hx 0 dX11_give_54 ?_
  exact l_X11_give_b55 F a0 h0 p1 p2 hx 0 z0 z1 z2 hz2 w
set_option maxHeartbeats 4000000 in
set_option maxRecDepth 100000 in
theorem ev_X11_give (F : Nat) (a0 : Nat) (h0 : shK a0 = 10 + 9) (p1 : Int) (p2 : Int) (w : aI) : Ev yX11_give cX11_give 5 (some .int) 2 0 jvIW [.ref a0, .int (oI p1), .int (oI p2)] (cm w) (f_X11_give F a0 p1 p2 w) := by
  refine Ev.of (own := RX11) (by decide +kernel) rfl (Nat.le_of_ble_eq_true rfl) (fun x hx => ?_)
  show En x jvIW 0 0 0 [(0, .ref a0), (1, .int (oI p1)), (2, .int (oI p2))] [] (cm w) _
  unfold f_X11_give
  refine E_aload_n (pc := 0) hx 0 dX11_give_0 rfl rfl ?_
  refine E_iload_n (pc := 1) hx 1 dX11_give_1 rfl rfl ?_
  refine I_cVB  (pc := 2) hx [.int (oI p1)] [] (ev_X11_isRoof F a0 h0 p1 w) vm_X11_isRoof fc9 h0 g1739 dX11_give_2 rfl rfl (Nat.le_of_ble_eq_true rfl) (Nat.le_of_ble_eq_true rfl) (Nat.le_of_ble_eq_true rfl) (fun r1 => ?_)
  refine E_istore_n (pc := 5) hx dX11_give_5 rfl (Nat.le_of_ble_eq_true rfl) rfl ?_
  refine E_iload_n (pc := 6) hx 3 dX11_give_6 rfl rfl ?_
  refine E_gd (fun hr2 => ?_)
  refine I_i2l (pc := 7) hx dX11_give_7 hr2 ?_
  refine I_lconst (pc := 8) hx 1 dX11_give_8 rfl ?_
  refine I_ldc2 (pc := 9) hx 99 g1886 rfl dX11_give_9 ?_
  refine I_cSB  (pc := 12) hx [.long (oL p2), .long (oL 1), .long (oL 99)] [] (ev_X11_in F p2 1 99 w) sm_X11_in g1434 dX11_give_12 rfl rfl (Nat.le_of_ble_eq_true rfl) (Nat.le_of_ble_eq_true rfl) (Nat.le_of_ble_eq_true rfl) (fun r3 => ?_)
  refine E_istore (pc := 15) hx dX11_give_15 (Nat.le_of_ble_eq_true rfl) rfl ?_
  refine E_aload_n (pc := 17) hx 2 dX11_give_17 rfl rfl ?_
  refine E_iload_n (pc := 18) hx 1 dX11_give_18 rfl rfl ?_
  refine E_iload (pc := 19) hx 0 dX11_give_19 rfl ?_
  refine E_iload_n (pc := 21) hx 1 dX11_give_21 rfl rfl ?_
  refine I_ifB_eq (pc := 22) hx 54 dX11_give_22 rfl ?_ ?_
  · refine En.sub [2, 3, 4] rfl ?_
    exact l_X11_give_b54 F a0 h0 p1 p2 hx (bI r3) (bI r1) a0 h0 w
  refine E_iload (pc := 25) hx 0 dX11_give_25 rfl ?_
  refine I_ifB_eq (pc := 27) hx 54 dX11_give_27 rfl ?_ ?_
  · refine En.sub [2, 3, 4] rfl ?_
    exact l_X11_give_b54 F a0 h0 p1 p2 hx (bI r3) (bI r1) a0 h0 w
  refine E_aload_n (pc := 30) hx 2 dX11_give_30 rfl rfl ?_
  refine E_getR (pc := 31) hx 0 fc9 h0 rfl ⟨rfl, rfl, rfl⟩ g1332 dX11_give_31 ?_
  refine E_iload_n (pc := 34) hx 3 dX11_give_34 rfl rfl ?_
  refine I_cSI  (pc := 35) hx [.int (oI p1)] [.ref (shR a0 0), .int (oI (bI r3)), .int (oI (bI r1)), .ref a0] (ev_X11_r F p1 w) sm_X11_r g1322 dX11_give_35 rfl rfl (Nat.le_of_ble_eq_true rfl) (Nat.le_of_ble_eq_true rfl) (Nat.le_of_ble_eq_true rfl) (fun r9 => ?_)
  refine I_bipush (pc := 38) hx 10 dX11_give_38 rfl ?_
  refine I_iadd (pc := 40) hx dX11_give_40 ?_
  refine I_iald (pc := 41) hx (kt_9_0 h0) dX11_give_41 ?_
  refine E_iload_n (pc := 42) hx 4 dX11_give_42 rfl rfl ?_
  refine I_iadd (pc := 43) hx dX11_give_43 ?_
  refine I_sipush (pc := 44) hx 9999 dX11_give_44 rfl ?_
  refine E_gd (fun hr10 => ?_)
  refine I_icmp_gt (pc := 47) hx 54 dX11_give_47 rfl ⟨hr10, (by decide)⟩ ?_ ?_
  · refine En.sub [2, 3, 4] rfl ?_
    exact l_X11_give_b54 F a0 h0 p1 p2 hx (bI r3) (bI r1) a0 h0 w
  refine I_iconst (pc := 50) hx 1 dX11_give_50 ?_
  refine E_goto (pc := 51) hx 55 dX11_give_51 rfl ?_
  refine En.sub [2, 3, 4] rfl ?_
  exact l_X11_give_b55 F a0 h0 p1 p2 hx 1 (bI r3) (bI r1) a0 h0 w
set_option maxHeartbeats 4000000 in
set_option maxRecDepth 100000 in
theorem l_X11_cut_b28 {x : Cx} (F : Nat) (a0 : Nat) (h0 : shK a0 = 10 + 9) (p1 : Int) (p2 : Int)  (hx : CxOK x RX11 cX11_cut 4 3 0 (some .int))   (z0 : Int) (z1 : Int) (z2 : Nat) (hz2 : shK z2 = 10 + 9) (w : aI) : En x jvIW 0 0 28 [(0, .ref a0), (1, .int (oI p1)), (2, .int (oI p2))] [.int (oI z0), .int (oI z1), .ref z2] (cm w) (f_X11_cut_b28 F a0 p1 p2    z0 z1 z2 w) := by
  unfold f_X11_cut_b28
  refine I_iconst (pc := 28) hx 1 dX11_cut_28 ?_
  refine I_cVBW  (pc := 29) hx [.int (oI z1), .int (oI z0), .int (oI 1)] [] (ev_X11_may F z2 hz2 z1 z0 1 w) vm_X11_may fc9 hz2 g1714 dX11_cut_29 rfl rfl (Nat.le_of_ble_eq_true rfl) (Nat.le_of_ble_eq_true rfl) (Nat.le_of_ble_eq_true rfl) (fun r2 w3 => ?_)
  refine I_ifB_ne (pc := 32) hx 37 dX11_cut_32 rfl ?_ ?_
  · refine E_aload_n (pc := 37) hx 0 dX11_cut_37 rfl rfl ?_
    refine I_cVV  (pc := 38) hx [] [] (ev_X11_remembers F a0 h0 w3) vm_X11_remembers fc9 h0 g1578 dX11_cut_38 rfl rfl (Nat.le_of_ble_eq_true rfl) (Nat.le_of_ble_eq_true rfl) (Nat.le_of_ble_eq_true rfl) (fun w4 => ?_)
    refine E_aload_n (pc := 41) hx 0 dX11_cut_41 rfl rfl ?_
    refine E_aload_n (pc := 42) hx 0 dX11_cut_42 rfl rfl ?_
    refine E_iload_n (pc := 43) hx 1 dX11_cut_43 rfl rfl ?_
    refine E_iload_n (pc := 44) hx 2 dX11_cut_44 rfl rfl ?_
    refine I_cVI  (pc := 45) hx [.int (oI p1), .int (oI p2)] [.ref a0] (ev_X11_wayBetween F a0 h0 p1 p2 w4) vm_X11_wayBetween fc9 h0 g1520 dX11_cut_45 rfl rfl (Nat.le_of_ble_eq_true rfl) (Nat.le_of_ble_eq_true rfl) (Nat.le_of_ble_eq_true rfl) (fun r5 => ?_)
    refine I_cVIW  (pc := 48) hx [.int (oI r5)] [] (ev_X11_cuts F a0 h0 r5 w4) vm_X11_cuts fc9 h0 g1701 dX11_cut_48 rfl rfl (Nat.le_of_ble_eq_true rfl) (Nat.le_of_ble_eq_true rfl) (Nat.le_of_ble_eq_true rfl) (fun r6 w7 => ?_)
    exact E_iret (pc := 51) hx dX11_cut_51 rfl rfl (Nat.le_of_ble_eq_true rfl)
  refine I_iconst (pc := 35) hx 0 dX11_cut_35 ?_
  exact E_iret (pc := 36) hx dX11_cut_36 rfl rfl (Nat.le_of_ble_eq_true rfl)
set_option maxHeartbeats 4000000 in
set_option maxRecDepth 100000 in
theorem l_X11_cut_b27 {x : Cx} (F : Nat) (a0 : Nat) (h0 : shK a0 = 10 + 9) (p1 : Int) (p2 : Int)  (hx : CxOK x RX11 cX11_cut 4 3 0 (some .int))   (z0 : Int) (z1 : Nat) (hz1 : shK z1 = 10 + 9) (w : aI) : En x jvIW 0 0 27 [(0, .ref a0), (1, .int (oI p1)), (2, .int (oI p2))] [.int (oI z0), .ref z1] (cm w) (f_X11_cut_b27 F a0 p1 p2    z0 z1 w) := by
  unfold f_X11_cut_b27
  refine I_iconst (pc := 27) hx 0 dX11_cut_27 ?_
  exact l_X11_cut_b28 F a0 h0 p1 p2 hx 0 z0 z1 hz1 w
set_option maxHeartbeats 4000000 in
set_option maxRecDepth 100000 in
theorem ev_X11_cut (F : Nat) (a0 : Nat) (h0 : shK a0 = 10 + 9) (p1 : Int) (p2 : Int) (w : aI) : Ev yX11_cut cX11_cut 4 (some .int) 3 0 jvIW [.ref a0, .int (oI p1), .int (oI p2)] (cm w) (f_X11_cut F a0 p1 p2 w) := by
  refine Ev.of (own := RX11) (by decide +kernel) rfl (Nat.le_of_ble_eq_true rfl) (fun x hx => ?_)
  show En x jvIW 0 0 0 [(0, .ref a0), (1, .int (oI p1)), (2, .int (oI p2))] [] (cm w) _
  unfold f_X11_cut
  refine E_aload_n (pc := 0) hx 0 dX11_cut_0 rfl rfl ?_
  refine E_iload_n (pc := 1) hx 1 dX11_cut_1 rfl rfl ?_
  refine E_iload_n (pc := 2) hx 2 dX11_cut_2 rfl rfl ?_
  refine I_cVB  (pc := 3) hx [.int (oI p1), .int (oI p2)] [] (ev_X11_areRoofs F a0 h0 p1 p2 w) vm_X11_areRoofs fc9 h0 g1765 dX11_cut_3 rfl rfl (Nat.le_of_ble_eq_true rfl) (Nat.le_of_ble_eq_true rfl) (Nat.le_of_ble_eq_true rfl) (fun r1 => ?_)
  refine E_istore_n (pc := 6) hx dX11_cut_6 rfl (Nat.le_of_ble_eq_true rfl) rfl ?_
  refine E_aload_n (pc := 7) hx 1 dX11_cut_7 rfl rfl ?_
  refine E_iload_n (pc := 8) hx 0 dX11_cut_8 rfl rfl ?_
  refine E_iload_n (pc := 9) hx 0 dX11_cut_9 rfl rfl ?_
  refine I_ifB_eq (pc := 10) hx 27 dX11_cut_10 rfl ?_ ?_
  · refine En.sub [1, 2, 3] rfl ?_
    exact l_X11_cut_b27 F a0 h0 p1 p2 hx (bI r1) a0 h0 w
  refine E_aload_n (pc := 13) hx 1 dX11_cut_13 rfl rfl ?_
  refine E_iload_n (pc := 14) hx 2 dX11_cut_14 rfl rfl ?_
  refine E_iload_n (pc := 15) hx 3 dX11_cut_15 rfl rfl ?_
  refine I_cVI  (pc := 16) hx [.int (oI p1), .int (oI p2)] [.int (oI (bI r1)), .ref a0] (ev_X11_wayBetween F a0 h0 p1 p2 w) vm_X11_wayBetween fc9 h0 g1520 dX11_cut_16 rfl rfl (Nat.le_of_ble_eq_true rfl) (Nat.le_of_ble_eq_true rfl) (Nat.le_of_ble_eq_true rfl) (fun r8 => ?_)
  refine I_iconst (pc := 19) hx (-1) dX11_cut_19 ?_
  refine E_gd (fun hr9 => ?_)
  refine I_icmp_eq (pc := 20) hx 27 dX11_cut_20 rfl ⟨hr9, (by decide)⟩ ?_ ?_
  · refine En.sub [1, 2, 3] rfl ?_
    exact l_X11_cut_b27 F a0 h0 p1 p2 hx (bI r1) a0 h0 w
  refine I_iconst (pc := 23) hx 1 dX11_cut_23 ?_
  refine E_goto (pc := 24) hx 28 dX11_cut_24 rfl ?_
  refine En.sub [1, 2, 3] rfl ?_
  exact l_X11_cut_b28 F a0 h0 p1 p2 hx 1 (bI r1) a0 h0 w
set_option maxHeartbeats 4000000 in
set_option maxRecDepth 100000 in
theorem l_X11_set_b54 {x : Cx} (F : Nat) (a0 : Nat) (h0 : shK a0 = 10 + 9) (p1 : Int) (p2 : Int)  (hx : CxOK x RX11 cX11_set 4 1 0 (some .int))   (v3 : Int) (z0 : Int) (z1 : Nat) (hz1 : shK z1 = 10 + 9) (w : aI) : En x jvIW 0 0 54 [(0, .ref a0), (2, .int (oI p2)), (3, .int (oI v3))] [.int (oI z0), .ref z1] (cm w) (f_X11_set_b54 F a0 p1 p2    v3 z0 z1 w) := by
  unfold f_X11_set_b54
  refine I_iconst (pc := 54) hx 1 dX11_set_54 ?_
  refine I_iconst (pc := 55) hx 1 dX11_set_55 ?_
  refine I_cVBW  (pc := 56) hx [.int (oI z0), .int (oI 1), .int (oI 1)] [] (ev_X11_may F z1 hz1 z0 1 1 w) vm_X11_may fc9 hz1 g1714 dX11_set_56 rfl rfl (Nat.le_of_ble_eq_true rfl) (Nat.le_of_ble_eq_true rfl) (Nat.le_of_ble_eq_true rfl) (fun r4 w5 => ?_)
  refine I_ifB_ne (pc := 59) hx 64 dX11_set_59 rfl ?_ ?_
  · refine E_aload_n (pc := 64) hx 0 dX11_set_64 rfl rfl ?_
    refine I_cVV  (pc := 65) hx [] [] (ev_X11_remembers F a0 h0 w5) vm_X11_remembers fc9 h0 g1578 dX11_set_65 rfl rfl (Nat.le_of_ble_eq_true rfl) (Nat.le_of_ble_eq_true rfl) (Nat.le_of_ble_eq_true rfl) (fun w6 => ?_)
    refine E_aload_n (pc := 68) hx 0 dX11_set_68 rfl rfl ?_
    refine E_iload_n (pc := 69) hx 2 dX11_set_69 rfl rfl ?_
    refine E_iload_n (pc := 70) hx 1 dX11_set_70 rfl rfl ?_
    refine I_cVIW  (pc := 71) hx [.int (oI v3), .int (oI p2)] [] (ev_X11_sets F a0 h0 v3 p2 w6) vm_X11_sets fc9 h0 g1705 dX11_set_71 rfl rfl (Nat.le_of_ble_eq_true rfl) (Nat.le_of_ble_eq_true rfl) (Nat.le_of_ble_eq_true rfl) (fun r7 w8 => ?_)
    exact E_iret (pc := 74) hx dX11_set_74 rfl rfl (Nat.le_of_ble_eq_true rfl)
  refine I_iconst (pc := 62) hx 0 dX11_set_62 ?_
  exact E_iret (pc := 63) hx dX11_set_63 rfl rfl (Nat.le_of_ble_eq_true rfl)
set_option maxHeartbeats 4000000 in
set_option maxRecDepth 100000 in
theorem l_X11_set_b53 {x : Cx} (F : Nat) (a0 : Nat) (h0 : shK a0 = 10 + 9) (p1 : Int) (p2 : Int)  (hx : CxOK x RX11 cX11_set 4 1 0 (some .int))   (v3 : Int) (z0 : Nat) (hz0 : shK z0 = 10 + 9) (w : aI) : En x jvIW 0 0 53 [(0, .ref a0), (2, .int (oI p2)), (3, .int (oI v3))] [.ref z0] (cm w) (f_X11_set_b53 F a0 p1 p2    v3 z0 w) := by
  unfold f_X11_set_b53
  refine I_iconst (pc := 53) hx 0 dX11_set_53 ?_
  exact l_X11_set_b54 F a0 h0 p1 p2 hx v3 0 z0 hz0 w
set_option maxHeartbeats 4000000 in
set_option maxRecDepth 100000 in
theorem l_X11_set_b24 {x : Cx} (F : Nat) (a0 : Nat) (h0 : shK a0 = 10 + 9) (p1 : Int) (p2 : Int)  (hx : CxOK x RX11 cX11_set 4 1 0 (some .int))   (z0 : Int) (w : aI) : En x jvIW 0 0 24 [(0, .ref a0), (2, .int (oI p2))] [.int (oI z0)] (cm w) (f_X11_set_b24 F a0 p1 p2    z0 w) := by
  unfold f_X11_set_b24
  refine E_istore_n (pc := 24) hx dX11_set_24 rfl (Nat.le_of_ble_eq_true rfl) rfl ?_
  refine E_aload_n (pc := 25) hx 1 dX11_set_25 rfl rfl ?_
  refine E_iload_n (pc := 26) hx 0 dX11_set_26 rfl rfl ?_
  refine I_iconst (pc := 27) hx (-1) dX11_set_27 ?_
  refine E_gd (fun hr3 => ?_)
  refine I_icmp_eq (pc := 28) hx 53 dX11_set_28 rfl ⟨hr3, (by decide)⟩ ?_ ?_
  · refine En.sub [1, 2, 0] rfl ?_
    exact l_X11_set_b53 F a0 h0 p1 p2 hx z0 a0 h0 w
  refine E_iload_n (pc := 31) hx 2 dX11_set_31 rfl rfl ?_
  refine E_gd (fun hr9 => ?_)
  refine I_i2l (pc := 32) hx dX11_set_32 hr9 ?_
  refine E_iload_n (pc := 33) hx 0 dX11_set_33 rfl rfl ?_
  refine I_cSI  (pc := 34) hx [.int (oI z0)] [.long (oL p2), .ref a0] (ev_X11_lowOf F z0 w) sm_X11_lowOf g1539 dX11_set_34 rfl rfl (Nat.le_of_ble_eq_true rfl) (Nat.le_of_ble_eq_true rfl) (Nat.le_of_ble_eq_true rfl) (fun r10 => ?_)
  refine E_gd (fun hr11 => ?_)
  refine I_i2l (pc := 37) hx dX11_set_37 hr11 ?_
  refine E_iload_n (pc := 38) hx 0 dX11_set_38 rfl rfl ?_
  refine I_cSI  (pc := 39) hx [.int (oI z0)] [.long (oL r10), .long (oL p2), .ref a0] (ev_X11_highOf F z0 w) sm_X11_highOf g1542 dX11_set_39 rfl rfl (Nat.le_of_ble_eq_true rfl) (Nat.le_of_ble_eq_true rfl) (Nat.le_of_ble_eq_true rfl) (fun r12 => ?_)
  refine E_gd (fun hr13 => ?_)
  refine I_i2l (pc := 42) hx dX11_set_42 hr13 ?_
  refine I_cSB  (pc := 43) hx [.long (oL p2), .long (oL r10), .long (oL r12)] [.ref a0] (ev_X11_in F p2 r10 r12 w) sm_X11_in g1434 dX11_set_43 rfl rfl (Nat.le_of_ble_eq_true rfl) (Nat.le_of_ble_eq_true rfl) (Nat.le_of_ble_eq_true rfl) (fun r14 => ?_)
  refine I_ifB_eq (pc := 46) hx 53 dX11_set_46 rfl ?_ ?_
  · refine En.sub [1, 2, 0] rfl ?_
    exact l_X11_set_b53 F a0 h0 p1 p2 hx z0 a0 h0 w
  refine I_iconst (pc := 49) hx 1 dX11_set_49 ?_
  refine E_goto (pc := 50) hx 54 dX11_set_50 rfl ?_
  refine En.sub [1, 2, 0] rfl ?_
  exact l_X11_set_b54 F a0 h0 p1 p2 hx z0 1 a0 h0 w
set_option maxHeartbeats 4000000 in
set_option maxRecDepth 100000 in
theorem ev_X11_set (F : Nat) (a0 : Nat) (h0 : shK a0 = 10 + 9) (p1 : Int) (p2 : Int) (w : aI) : Ev yX11_set cX11_set 4 (some .int) 1 0 jvIW [.ref a0, .int (oI p1), .int (oI p2)] (cm w) (f_X11_set F a0 p1 p2 w) := by
  refine Ev.of (own := RX11) (by decide +kernel) rfl (Nat.le_of_ble_eq_true rfl) (fun x hx => ?_)
  show En x jvIW 0 0 0 [(0, .ref a0), (1, .int (oI p1)), (2, .int (oI p2))] [] (cm w) _
  unfold f_X11_set
  refine E_iload_n (pc := 0) hx 1 dX11_set_0 rfl rfl ?_
  refine E_gd (fun hr1 => ?_)
  refine I_i2l (pc := 1) hx dX11_set_1 hr1 ?_
  refine I_ldc2 (pc := 2) hx 8 g1810 rfl dX11_set_2 ?_
  refine I_ldc2 (pc := 5) hx 10 g1734 rfl dX11_set_5 ?_
  refine I_cSB  (pc := 8) hx [.long (oL p1), .long (oL 8), .long (oL 10)] [] (ev_X11_in F p1 8 10 w) sm_X11_in g1434 dX11_set_8 rfl rfl (Nat.le_of_ble_eq_true rfl) (Nat.le_of_ble_eq_true rfl) (Nat.le_of_ble_eq_true rfl) (fun r2 => ?_)
  refine I_ifB_eq (pc := 11) hx 23 dX11_set_11 rfl ?_ ?_
  · refine I_iconst (pc := 23) hx (-1) dX11_set_23 ?_
    refine En.sub [0, 2] rfl ?_
    exact l_X11_set_b24 F a0 h0 p1 p2 hx (-1) w
  refine I_iconst (pc := 14) hx 4 dX11_set_14 ?_
  refine E_iload_n (pc := 15) hx 1 dX11_set_15 rfl rfl ?_
  refine I_iadd (pc := 16) hx dX11_set_16 ?_
  refine I_bipush (pc := 17) hx 8 dX11_set_17 rfl ?_
  refine I_isub (pc := 19) hx dX11_set_19 ?_
  refine E_goto (pc := 20) hx 24 dX11_set_20 rfl ?_
  refine En.sub [0, 2] rfl ?_
  exact l_X11_set_b24 F a0 h0 p1 p2 hx ((4 + p1) - 8) w
set_option maxHeartbeats 4000000 in
set_option maxRecDepth 100000 in
theorem l_X11_undo_b35_b {x : Cx} (F : Nat) (a0 : Nat) (h0 : shK a0 = 10 + 9)  (hx : CxOK x RX11 cX11_undo 2 1 0 (some .int))  (k35 : Int → aI → Option (Int × aI)) (hk35 : ∀ (v1 : Int) (w : aI), En x jvIW 0 0 35 [(0, .ref a0), (1, .int (oI v1))] [] (cm w) (k35 v1 w)) (v1 : Int) (w : aI) : En x jvIW 0 0 35 [(0, .ref a0), (1, .int (oI v1))] [] (cm w) (f_X11_undo_b35_b F a0   k35 v1 w) := by
  unfold f_X11_undo_b35_b
  refine E_iload_n (pc := 35) hx 1 dX11_undo_35 rfl rfl ?_
  refine I_sipush (pc := 36) hx 1030 dX11_undo_36 rfl ?_
  refine E_gd (fun hr5 => ?_)
  refine I_icmp_ge (pc := 39) hx 69 dX11_undo_39 rfl ⟨hr5, (by decide)⟩ ?_ ?_
  · refine E_aload_n (pc := 69) hx 0 dX11_undo_69 rfl rfl ?_
    refine I_getI (pc := 70) hx 4 4 rfl fc9 h0 rfl ⟨rfl, rfl, rfl⟩ g1336 dX11_undo_70 ?_
    exact E_iret (pc := 73) hx dX11_undo_73 rfl rfl (Nat.le_of_ble_eq_true rfl)
  refine E_aload_n (pc := 42) hx 0 dX11_undo_42 rfl rfl ?_
  refine E_getR (pc := 43) hx 0 fc9 h0 rfl ⟨rfl, rfl, rfl⟩ g1332 dX11_undo_43 ?_
  refine E_iload_n (pc := 46) hx 1 dX11_undo_46 rfl rfl ?_
  refine E_aload_n (pc := 47) hx 0 dX11_undo_47 rfl rfl ?_
  refine E_getR (pc := 48) hx 3 fc9 h0 rfl ⟨rfl, rfl, rfl⟩ g1335 dX11_undo_48 ?_
  refine I_sipush (pc := 51) hx 1030 dX11_undo_51 rfl ?_
  refine E_aload_n (pc := 54) hx 0 dX11_undo_54 rfl rfl ?_
  refine I_getI (pc := 55) hx 4 4 rfl fc9 h0 rfl ⟨rfl, rfl, rfl⟩ g1336 dX11_undo_55 ?_
  refine I_imul (pc := 58) hx dX11_undo_58 ?_
  refine E_iload_n (pc := 59) hx 1 dX11_undo_59 rfl rfl ?_
  refine I_iadd (pc := 60) hx dX11_undo_60 ?_
  refine I_iald (pc := 61) hx (kt_9_3 h0) dX11_undo_61 ?_
  refine I_iast (pc := 62) hx (kt_9_0 h0) dX11_undo_62 (fun w6 => ?_)
  refine I_iinc (pc := 63) hx 1 1 dX11_undo_63 rfl (Nat.le_of_ble_eq_true rfl) rfl ?_
  refine E_goto (pc := 66) hx 35 dX11_undo_66 rfl ?_
  refine En.sub [1, 0] rfl ?_
  exact hk35 (v1 + 1) w6
theorem l_X11_undo_b35 {x : Cx} (F : Nat) (a0 : Nat) (h0 : shK a0 = 10 + 9)  (hx : CxOK x RX11 cX11_undo 2 1 0 (some .int))  : ∀ (n : Nat) (v1 : Int) (w : aI), En x jvIW 0 0 35 [(0, .ref a0), (1, .int (oI v1))] [] (cm w) (f_X11_undo_b35 F a0   n v1 w) := by
  intro n
  induction n with
  | zero => intro v1 w; exact E_none
  | succ n ih => intro v1 w; exact l_X11_undo_b35_b F a0 h0  hx  _ ih v1 w
set_option maxHeartbeats 4000000 in
set_option maxRecDepth 100000 in
theorem l_X11_undo_b13 {x : Cx} (F : Nat) (a0 : Nat) (h0 : shK a0 = 10 + 9)  (hx : CxOK x RX11 cX11_undo 2 1 0 (some .int))   (z0 : Int) (z1 : Nat) (hz1 : shK z1 = 10 + 9) (w : aI) : En x jvIW 0 0 13 [(0, .ref a0)] [.int (oI z0), .ref z1] (cm w) (f_X11_undo_b13 F a0    z0 z1 w) := by
  unfold f_X11_undo_b13
  refine I_iconst (pc := 13) hx 1 dX11_undo_13 ?_
  refine I_iconst (pc := 14) hx 1 dX11_undo_14 ?_
  refine I_cVBW  (pc := 15) hx [.int (oI z0), .int (oI 1), .int (oI 1)] [] (ev_X11_may F z1 hz1 z0 1 1 w) vm_X11_may fc9 hz1 g1714 dX11_undo_15 rfl rfl (Nat.le_of_ble_eq_true rfl) (Nat.le_of_ble_eq_true rfl) (Nat.le_of_ble_eq_true rfl) (fun r2 w3 => ?_)
  refine I_ifB_ne (pc := 18) hx 23 dX11_undo_18 rfl ?_ ?_
  · refine E_aload_n (pc := 23) hx 0 dX11_undo_23 rfl rfl ?_
    refine E_dup (pc := 24) hx dX11_undo_24 rfl ?_
    refine I_getI (pc := 25) hx 4 4 rfl fc9 h0 rfl ⟨rfl, rfl, rfl⟩ g1336 dX11_undo_25 ?_
    refine I_iconst (pc := 28) hx 1 dX11_undo_28 ?_
    refine I_isub (pc := 29) hx dX11_undo_29 ?_
    refine I_put (pc := 30) hx 4 4 rfl .int tyX11 fc9 tyX11_ok h0 rfl ⟨rfl, rfl, rfl, rfl, pfd_I⟩ rfl rfl g1336 dX11_undo_30 (fun w4 => ?_)
    refine I_iconst (pc := 33) hx 0 dX11_undo_33 ?_
    refine E_istore_n (pc := 34) hx dX11_undo_34 rfl (Nat.le_of_ble_eq_true rfl) rfl ?_
    refine En.sub [1, 0] rfl ?_
    exact l_X11_undo_b35 F a0 h0 hx F 0 w4
  refine I_iconst (pc := 21) hx 0 dX11_undo_21 ?_
  exact E_iret (pc := 22) hx dX11_undo_22 rfl rfl (Nat.le_of_ble_eq_true rfl)
set_option maxHeartbeats 4000000 in
set_option maxRecDepth 100000 in
theorem ev_X11_undo (F : Nat) (a0 : Nat) (h0 : shK a0 = 10 + 9) (w : aI) : Ev yX11_undo cX11_undo 2 (some .int) 1 0 jvIW [.ref a0] (cm w) (f_X11_undo F a0 w) := by
  refine Ev.of (own := RX11) (by decide +kernel) rfl (Nat.le_of_ble_eq_true rfl) (fun x hx => ?_)
  show En x jvIW 0 0 0 [(0, .ref a0)] [] (cm w) _
  unfold f_X11_undo
  refine E_aload_n (pc := 0) hx 0 dX11_undo_0 rfl rfl ?_
  refine E_aload_n (pc := 1) hx 0 dX11_undo_1 rfl rfl ?_
  refine I_getI (pc := 2) hx 4 4 rfl fc9 h0 rfl ⟨rfl, rfl, rfl⟩ g1336 dX11_undo_2 ?_
  refine E_gd (fun hr1 => ?_)
  refine I_if_le (pc := 5) hx 12 dX11_undo_5 rfl hr1 ?_ ?_
  · refine I_iconst (pc := 12) hx 0 dX11_undo_12 ?_
    exact l_X11_undo_b13 F a0 h0 hx 0 a0 h0 w
  refine I_iconst (pc := 8) hx 1 dX11_undo_8 ?_
  refine E_goto (pc := 9) hx 13 dX11_undo_9 rfl ?_
  exact l_X11_undo_b13 F a0 h0 hx 1 a0 h0 w
set_option maxHeartbeats 4000000 in
set_option maxRecDepth 100000 in
theorem ev_X11_says (F : Nat) (a0 : Nat) (h0 : shK a0 = 10 + 9) (p1 : Int) (w : aI) : Ev yX11_says cX11_says 2 none 0 0 jvV [.ref a0, .int (oI p1)] (cm w) (f_X11_says F a0 p1 w) := by
  refine Ev.of (own := RX11) (by decide +kernel) rfl (Nat.le_of_ble_eq_true rfl) (fun x hx => ?_)
  show En x jvV 0 0 0 [(0, .ref a0), (1, .int (oI p1))] [] (cm w) _
  unfold f_X11_says
  refine E_aload_n (pc := 0) hx 0 dX11_says_0 rfl rfl ?_
  refine E_getR (pc := 1) hx 26 fc9 h0 rfl ⟨rfl, rfl, rfl⟩ g1358 dX11_says_1 ?_
  refine E_aload_n (pc := 4) hx 0 dX11_says_4 rfl rfl ?_
  refine I_getI (pc := 5) hx 27 27 rfl fc9 h0 rfl ⟨rfl, rfl, rfl⟩ g1359 dX11_says_5 ?_
  refine E_iload_n (pc := 8) hx 1 dX11_says_8 rfl rfl ?_
  refine I_i2b (pc := 9) hx dX11_says_9 ?_
  refine I_bast (pc := 10) hx (kt_9_26 h0) dX11_says_10 (fun w1 => ?_)
  refine E_aload_n (pc := 11) hx 0 dX11_says_11 rfl rfl ?_
  refine E_dup (pc := 12) hx dX11_says_12 rfl ?_
  refine I_getI (pc := 13) hx 27 27 rfl fc9 h0 rfl ⟨rfl, rfl, rfl⟩ g1359 dX11_says_13 ?_
  refine I_iconst (pc := 16) hx 1 dX11_says_16 ?_
  refine I_iadd (pc := 17) hx dX11_says_17 ?_
  refine I_put (pc := 18) hx 27 27 rfl .int tyX11 fc9 tyX11_ok h0 rfl ⟨rfl, rfl, rfl, rfl, pfd_I⟩ rfl rfl g1359 dX11_says_18 (fun w2 => ?_)
  exact E_vret (pc := 21) hx dX11_says_21 rfl rfl (Nat.le_of_ble_eq_true rfl)
set_option maxHeartbeats 4000000 in
set_option maxRecDepth 100000 in
theorem l_X11_saysNumber_b18_b {x : Cx} (F : Nat) (a0 : Nat) (h0 : shK a0 = 10 + 9) (p1 : Int)  (hx : CxOK x RX11 cX11_saysNumber 3 1 0 none)  (k18 : Int → aI → Option aI) (hk18 : ∀ (v2 : Int) (w : aI), En x jvV 0 0 18 [(0, .ref a0), (1, .int (oI p1)), (2, .int (oI v2))] [] (cm w) (k18 v2 w)) (v2 : Int) (w : aI) : En x jvV 0 0 18 [(0, .ref a0), (1, .int (oI p1)), (2, .int (oI v2))] [] (cm w) (f_X11_saysNumber_b18_b F a0 p1   k18 v2 w) := by
  unfold f_X11_saysNumber_b18_b
  refine E_iload_n (pc := 18) hx 2 dX11_saysNumber_18 rfl rfl ?_
  refine E_gd (fun hr4 => ?_)
  refine I_if_le (pc := 19) hx 43 dX11_saysNumber_19 rfl hr4 ?_ ?_
  · exact E_vret (pc := 43) hx dX11_saysNumber_43 rfl rfl (Nat.le_of_ble_eq_true rfl)
  refine E_aload_n (pc := 22) hx 0 dX11_saysNumber_22 rfl rfl ?_
  refine I_bipush (pc := 23) hx 48 dX11_saysNumber_23 rfl ?_
  refine E_iload_n (pc := 25) hx 1 dX11_saysNumber_25 rfl rfl ?_
  refine E_iload_n (pc := 26) hx 2 dX11_saysNumber_26 rfl rfl ?_
  refine E_gd (fun hr5 => ?_)
  refine E_gd (fun hd6 => ?_)
  refine I_idiv (pc := 27) hx dX11_saysNumber_27 ⟨hr5, hr4, hd6⟩ ?_
  refine I_bipush (pc := 28) hx 10 dX11_saysNumber_28 rfl ?_
  refine E_gd (fun hr7 => ?_)
  refine I_irem (pc := 30) hx dX11_saysNumber_30 ⟨hr7, (by decide), (by decide)⟩ ?_
  refine I_iadd (pc := 31) hx dX11_saysNumber_31 ?_
  refine I_cVV  (pc := 32) hx [.int (oI (48 + (Int.tmod (Int.tdiv p1 v2) 10)))] [] (ev_X11_says F a0 h0 (48 + (Int.tmod (Int.tdiv p1 v2) 10)) w) vm_X11_says fc9 h0 g1907 dX11_saysNumber_32 rfl rfl (Nat.le_of_ble_eq_true rfl) (Nat.le_of_ble_eq_true rfl) (Nat.le_of_ble_eq_true rfl) (fun w8 => ?_)
  refine E_iload_n (pc := 35) hx 2 dX11_saysNumber_35 rfl rfl ?_
  refine I_bipush (pc := 36) hx 10 dX11_saysNumber_36 rfl ?_
  refine I_idiv (pc := 38) hx dX11_saysNumber_38 ⟨hr4, (by decide), (by decide)⟩ ?_
  refine I_ltv (fun v2_9 => ?_)
  refine E_istore_n (pc := 39) hx dX11_saysNumber_39 rfl (Nat.le_of_ble_eq_true rfl) rfl ?_
  refine E_goto (pc := 40) hx 18 dX11_saysNumber_40 rfl ?_
  refine En.sub [1, 2, 0] rfl ?_
  exact hk18 v2_9 w8
theorem l_X11_saysNumber_b18 {x : Cx} (F : Nat) (a0 : Nat) (h0 : shK a0 = 10 + 9) (p1 : Int)  (hx : CxOK x RX11 cX11_saysNumber 3 1 0 none)  : ∀ (n : Nat) (v2 : Int) (w : aI), En x jvV 0 0 18 [(0, .ref a0), (1, .int (oI p1)), (2, .int (oI v2))] [] (cm w) (f_X11_saysNumber_b18 F a0 p1   n v2 w) := by
  intro n
  induction n with
  | zero => intro v2 w; exact E_none
  | succ n ih => intro v2 w; exact l_X11_saysNumber_b18_b F a0 h0 p1  hx  _ ih v2 w
set_option maxHeartbeats 4000000 in
set_option maxRecDepth 100000 in
theorem l_X11_saysNumber_b2_b {x : Cx} (F : Nat) (a0 : Nat) (h0 : shK a0 = 10 + 9) (p1 : Int)  (hx : CxOK x RX11 cX11_saysNumber 3 1 0 none)  (k2 : Int → aI → Option aI) (hk2 : ∀ (v2 : Int) (w : aI), En x jvV 0 0 2 [(0, .ref a0), (1, .int (oI p1)), (2, .int (oI v2))] [] (cm w) (k2 v2 w)) (v2 : Int) (w : aI) : En x jvV 0 0 2 [(0, .ref a0), (1, .int (oI p1)), (2, .int (oI v2))] [] (cm w) (f_X11_saysNumber_b2_b F a0 p1   k2 v2 w) := by
  unfold f_X11_saysNumber_b2_b
  refine E_iload_n (pc := 2) hx 1 dX11_saysNumber_2 rfl rfl ?_
  refine E_iload_n (pc := 3) hx 2 dX11_saysNumber_3 rfl rfl ?_
  refine E_gd (fun hr1 => ?_)
  refine E_gd (fun hd2 => ?_)
  refine I_idiv (pc := 4) hx dX11_saysNumber_4 ⟨hr1.1, hr1.2, hd2⟩ ?_
  refine I_bipush (pc := 5) hx 9 dX11_saysNumber_5 rfl ?_
  refine E_gd (fun hr3 => ?_)
  refine I_icmp_le (pc := 7) hx 18 dX11_saysNumber_7 rfl ⟨hr3, (by decide)⟩ ?_ ?_
  · exact l_X11_saysNumber_b18 F a0 h0 p1 hx F v2 w
  refine E_iload_n (pc := 10) hx 2 dX11_saysNumber_10 rfl rfl ?_
  refine I_bipush (pc := 11) hx 10 dX11_saysNumber_11 rfl ?_
  refine I_imul (pc := 13) hx dX11_saysNumber_13 ?_
  refine I_ltv (fun v2_10 => ?_)
  refine E_istore_n (pc := 14) hx dX11_saysNumber_14 rfl (Nat.le_of_ble_eq_true rfl) rfl ?_
  refine E_goto (pc := 15) hx 2 dX11_saysNumber_15 rfl ?_
  refine En.sub [1, 2, 0] rfl ?_
  exact hk2 v2_10 w
theorem l_X11_saysNumber_b2 {x : Cx} (F : Nat) (a0 : Nat) (h0 : shK a0 = 10 + 9) (p1 : Int)  (hx : CxOK x RX11 cX11_saysNumber 3 1 0 none)  : ∀ (n : Nat) (v2 : Int) (w : aI), En x jvV 0 0 2 [(0, .ref a0), (1, .int (oI p1)), (2, .int (oI v2))] [] (cm w) (f_X11_saysNumber_b2 F a0 p1   n v2 w) := by
  intro n
  induction n with
  | zero => intro v2 w; exact E_none
  | succ n ih => intro v2 w; exact l_X11_saysNumber_b2_b F a0 h0 p1  hx  _ ih v2 w
set_option maxHeartbeats 4000000 in
set_option maxRecDepth 100000 in
theorem ev_X11_saysNumber (F : Nat) (a0 : Nat) (h0 : shK a0 = 10 + 9) (p1 : Int) (w : aI) : Ev yX11_saysNumber cX11_saysNumber 3 none 1 0 jvV [.ref a0, .int (oI p1)] (cm w) (f_X11_saysNumber F a0 p1 w) := by
  refine Ev.of (own := RX11) (by decide +kernel) rfl (Nat.le_of_ble_eq_true rfl) (fun x hx => ?_)
  show En x jvV 0 0 0 [(0, .ref a0), (1, .int (oI p1))] [] (cm w) _
  unfold f_X11_saysNumber
  refine I_iconst (pc := 0) hx 1 dX11_saysNumber_0 ?_
  refine E_istore_n (pc := 1) hx dX11_saysNumber_1 rfl (Nat.le_of_ble_eq_true rfl) rfl ?_
  refine En.sub [1, 2, 0] rfl ?_
  exact l_X11_saysNumber_b2 F a0 h0 p1 hx F 1 w
set_option maxHeartbeats 4000000 in
set_option maxRecDepth 100000 in
theorem l_X11_saysName_b2_b {x : Cx} (F : Nat) (a0 : Nat) (h0 : shK a0 = 10 + 9) (p1 : Int)  (hx : CxOK x RX11 cX11_saysName 3 1 0 none)  (k2 : Int → aI → Option aI) (hk2 : ∀ (v2 : Int) (w : aI), En x jvV 0 0 2 [(0, .ref a0), (1, .int (oI p1)), (2, .int (oI v2))] [] (cm w) (k2 v2 w)) (v2 : Int) (w : aI) : En x jvV 0 0 2 [(0, .ref a0), (1, .int (oI p1)), (2, .int (oI v2))] [] (cm w) (f_X11_saysName_b2_b F a0 p1   k2 v2 w) := by
  unfold f_X11_saysName_b2_b
  refine E_iload_n (pc := 2) hx 2 dX11_saysName_2 rfl rfl ?_
  refine E_aload_n (pc := 3) hx 0 dX11_saysName_3 rfl rfl ?_
  refine E_getR (pc := 4) hx 0 fc9 h0 rfl ⟨rfl, rfl, rfl⟩ g1332 dX11_saysName_4 ?_
  refine E_iload_n (pc := 7) hx 1 dX11_saysName_7 rfl rfl ?_
  refine I_cSI  (pc := 8) hx [.int (oI p1)] [.ref (shR a0 0), .int (oI v2)] (ev_X11_r F p1 w) sm_X11_r g1322 dX11_saysName_8 rfl rfl (Nat.le_of_ble_eq_true rfl) (Nat.le_of_ble_eq_true rfl) (Nat.le_of_ble_eq_true rfl) (fun r1 => ?_)
  refine I_iald (pc := 11) hx (kt_9_0 h0) dX11_saysName_11 ?_
  refine E_gd (fun hr2 => ?_)
  refine I_icmp_ge (pc := 12) hx 38 dX11_saysName_12 rfl ⟨hr2.1, hr2.2⟩ ?_ ?_
  · exact E_vret (pc := 38) hx dX11_saysName_38 rfl rfl (Nat.le_of_ble_eq_true rfl)
  refine E_aload_n (pc := 15) hx 0 dX11_saysName_15 rfl rfl ?_
  refine E_aload_n (pc := 16) hx 0 dX11_saysName_16 rfl rfl ?_
  refine E_getR (pc := 17) hx 0 fc9 h0 rfl ⟨rfl, rfl, rfl⟩ g1332 dX11_saysName_17 ?_
  refine E_iload_n (pc := 20) hx 1 dX11_saysName_20 rfl rfl ?_
  refine I_cSI  (pc := 21) hx [.int (oI p1)] [.ref (shR a0 0), .ref a0] (ev_X11_r F p1 w) sm_X11_r g1322 dX11_saysName_21 rfl rfl (Nat.le_of_ble_eq_true rfl) (Nat.le_of_ble_eq_true rfl) (Nat.le_of_ble_eq_true rfl) (fun r3 => ?_)
  refine I_iconst (pc := 24) hx 1 dX11_saysName_24 ?_
  refine I_iadd (pc := 25) hx dX11_saysName_25 ?_
  refine E_iload_n (pc := 26) hx 2 dX11_saysName_26 rfl rfl ?_
  refine I_iadd (pc := 27) hx dX11_saysName_27 ?_
  refine I_iald (pc := 28) hx (kt_9_0 h0) dX11_saysName_28 ?_
  refine I_cVV  (pc := 29) hx [.int (oI (w (shR a0 0) ((r3 + 1) + v2)))] [] (ev_X11_says F a0 h0 (w (shR a0 0) ((r3 + 1) + v2)) w) vm_X11_says fc9 h0 g1907 dX11_saysName_29 rfl rfl (Nat.le_of_ble_eq_true rfl) (Nat.le_of_ble_eq_true rfl) (Nat.le_of_ble_eq_true rfl) (fun w4 => ?_)
  refine I_iinc (pc := 32) hx 1 2 dX11_saysName_32 rfl (Nat.le_of_ble_eq_true rfl) rfl ?_
  refine E_goto (pc := 35) hx 2 dX11_saysName_35 rfl ?_
  refine En.sub [1, 2, 0] rfl ?_
  exact hk2 (v2 + 1) w4
theorem l_X11_saysName_b2 {x : Cx} (F : Nat) (a0 : Nat) (h0 : shK a0 = 10 + 9) (p1 : Int)  (hx : CxOK x RX11 cX11_saysName 3 1 0 none)  : ∀ (n : Nat) (v2 : Int) (w : aI), En x jvV 0 0 2 [(0, .ref a0), (1, .int (oI p1)), (2, .int (oI v2))] [] (cm w) (f_X11_saysName_b2 F a0 p1   n v2 w) := by
  intro n
  induction n with
  | zero => intro v2 w; exact E_none
  | succ n ih => intro v2 w; exact l_X11_saysName_b2_b F a0 h0 p1  hx  _ ih v2 w
set_option maxHeartbeats 4000000 in
set_option maxRecDepth 100000 in
theorem ev_X11_saysName (F : Nat) (a0 : Nat) (h0 : shK a0 = 10 + 9) (p1 : Int) (w : aI) : Ev yX11_saysName cX11_saysName 3 none 1 0 jvV [.ref a0, .int (oI p1)] (cm w) (f_X11_saysName F a0 p1 w) := by
  refine Ev.of (own := RX11) (by decide +kernel) rfl (Nat.le_of_ble_eq_true rfl) (fun x hx => ?_)
  show En x jvV 0 0 0 [(0, .ref a0), (1, .int (oI p1))] [] (cm w) _
  unfold f_X11_saysName
  refine I_iconst (pc := 0) hx 0 dX11_saysName_0 ?_
  refine E_istore_n (pc := 1) hx dX11_saysName_1 rfl (Nat.le_of_ble_eq_true rfl) rfl ?_
  refine En.sub [1, 2, 0] rfl ?_
  exact l_X11_saysName_b2 F a0 h0 p1 hx F 0 w
set_option maxHeartbeats 4000000 in
set_option maxRecDepth 100000 in
theorem l_X11_saysRoof_b57 {x : Cx} (F : Nat) (a0 : Nat) (h0 : shK a0 = 10 + 9) (p1 : Int)  (hx : CxOK x RX11 cX11_saysRoof 2 3 0 none)    (w : aI) : En x jvV 0 0 57 [(0, .ref a0), (1, .int (oI p1))] [] (cm w) (f_X11_saysRoof_b57 F a0 p1    w) := by
  unfold f_X11_saysRoof_b57
  refine E_aload_n (pc := 57) hx 0 dX11_saysRoof_57 rfl rfl ?_
  refine E_iload_n (pc := 58) hx 1 dX11_saysRoof_58 rfl rfl ?_
  refine I_cVI  (pc := 59) hx [.int (oI p1)] [] (ev_X11_waitingMany F a0 h0 p1 w) vm_X11_waitingMany fc9 h0 g1748 dX11_saysRoof_59 rfl rfl (Nat.le_of_ble_eq_true rfl) (Nat.le_of_ble_eq_true rfl) (Nat.le_of_ble_eq_true rfl) (fun r7 => ?_)
  refine E_gd (fun hr8 => ?_)
  refine I_if_le (pc := 62) hx 80 dX11_saysRoof_62 rfl hr8 ?_ ?_
  · exact E_vret (pc := 80) hx dX11_saysRoof_80 rfl rfl (Nat.le_of_ble_eq_true rfl)
  refine E_aload_n (pc := 65) hx 0 dX11_saysRoof_65 rfl rfl ?_
  refine I_bipush (pc := 66) hx 47 dX11_saysRoof_66 rfl ?_
  refine I_cVV  (pc := 68) hx [.int (oI 47)] [] (ev_X11_says F a0 h0 47 w) vm_X11_says fc9 h0 g1907 dX11_saysRoof_68 rfl rfl (Nat.le_of_ble_eq_true rfl) (Nat.le_of_ble_eq_true rfl) (Nat.le_of_ble_eq_true rfl) (fun w9 => ?_)
  refine E_aload_n (pc := 71) hx 0 dX11_saysRoof_71 rfl rfl ?_
  refine E_aload_n (pc := 72) hx 0 dX11_saysRoof_72 rfl rfl ?_
  refine E_iload_n (pc := 73) hx 1 dX11_saysRoof_73 rfl rfl ?_
  refine I_cVI  (pc := 74) hx [.int (oI p1)] [.ref a0] (ev_X11_waitingMany F a0 h0 p1 w9) vm_X11_waitingMany fc9 h0 g1748 dX11_saysRoof_74 rfl rfl (Nat.le_of_ble_eq_true rfl) (Nat.le_of_ble_eq_true rfl) (Nat.le_of_ble_eq_true rfl) (fun r10 => ?_)
  refine I_cVV  (pc := 77) hx [.int (oI r10)] [] (ev_X11_saysNumber F a0 h0 r10 w9) vm_X11_saysNumber fc9 h0 g1915 dX11_saysRoof_77 rfl rfl (Nat.le_of_ble_eq_true rfl) (Nat.le_of_ble_eq_true rfl) (Nat.le_of_ble_eq_true rfl) (fun w11 => ?_)
  exact E_vret (pc := 80) hx dX11_saysRoof_80 rfl rfl (Nat.le_of_ble_eq_true rfl)
set_option maxHeartbeats 4000000 in
set_option maxRecDepth 100000 in
theorem l_X11_saysRoof_b10 {x : Cx} (F : Nat) (a0 : Nat) (h0 : shK a0 = 10 + 9) (p1 : Int)  (hx : CxOK x RX11 cX11_saysRoof 2 3 0 none)    (w : aI) : En x jvV 0 0 10 [(0, .ref a0), (1, .int (oI p1))] [] (cm w) (f_X11_saysRoof_b10 F a0 p1    w) := by
  unfold f_X11_saysRoof_b10
  refine E_aload_n (pc := 10) hx 0 dX11_saysRoof_10 rfl rfl ?_
  refine E_iload_n (pc := 11) hx 1 dX11_saysRoof_11 rfl rfl ?_
  refine I_cVV  (pc := 12) hx [.int (oI p1)] [] (ev_X11_saysName F a0 h0 p1 w) vm_X11_saysName fc9 h0 g1911 dX11_saysRoof_12 rfl rfl (Nat.le_of_ble_eq_true rfl) (Nat.le_of_ble_eq_true rfl) (Nat.le_of_ble_eq_true rfl) (fun w2 => ?_)
  refine E_aload_n (pc := 15) hx 0 dX11_saysRoof_15 rfl rfl ?_
  refine I_bipush (pc := 16) hx 58 dX11_saysRoof_16 rfl ?_
  refine I_cVV  (pc := 18) hx [.int (oI 58)] [] (ev_X11_says F a0 h0 58 w2) vm_X11_says fc9 h0 g1907 dX11_saysRoof_18 rfl rfl (Nat.le_of_ble_eq_true rfl) (Nat.le_of_ble_eq_true rfl) (Nat.le_of_ble_eq_true rfl) (fun w3 => ?_)
  refine E_aload_n (pc := 21) hx 0 dX11_saysRoof_21 rfl rfl ?_
  refine E_aload_n (pc := 22) hx 0 dX11_saysRoof_22 rfl rfl ?_
  refine E_getR (pc := 23) hx 0 fc9 h0 rfl ⟨rfl, rfl, rfl⟩ g1332 dX11_saysRoof_23 ?_
  refine E_iload_n (pc := 26) hx 1 dX11_saysRoof_26 rfl rfl ?_
  refine I_cSI  (pc := 27) hx [.int (oI p1)] [.ref (shR a0 0), .ref a0] (ev_X11_r F p1 w3) sm_X11_r g1322 dX11_saysRoof_27 rfl rfl (Nat.le_of_ble_eq_true rfl) (Nat.le_of_ble_eq_true rfl) (Nat.le_of_ble_eq_true rfl) (fun r4 => ?_)
  refine I_bipush (pc := 30) hx 10 dX11_saysRoof_30 rfl ?_
  refine I_iadd (pc := 32) hx dX11_saysRoof_32 ?_
  refine I_iald (pc := 33) hx (kt_9_0 h0) dX11_saysRoof_33 ?_
  refine I_cVV  (pc := 34) hx [.int (oI (w3 (shR a0 0) (r4 + 10)))] [] (ev_X11_saysNumber F a0 h0 (w3 (shR a0 0) (r4 + 10)) w3) vm_X11_saysNumber fc9 h0 g1915 dX11_saysRoof_34 rfl rfl (Nat.le_of_ble_eq_true rfl) (Nat.le_of_ble_eq_true rfl) (Nat.le_of_ble_eq_true rfl) (fun w5 => ?_)
  refine E_aload_n (pc := 37) hx 0 dX11_saysRoof_37 rfl rfl ?_
  refine E_iload_n (pc := 38) hx 1 dX11_saysRoof_38 rfl rfl ?_
  refine E_aload_n (pc := 39) hx 0 dX11_saysRoof_39 rfl rfl ?_
  refine E_getR (pc := 40) hx 0 fc9 h0 rfl ⟨rfl, rfl, rfl⟩ g1332 dX11_saysRoof_40 ?_
  refine I_iconst (pc := 43) hx 3 dX11_saysRoof_43 ?_
  refine I_iald (pc := 44) hx (kt_9_0 h0) dX11_saysRoof_44 ?_
  refine I_cVB  (pc := 45) hx [.int (oI p1), .int (oI (w5 (shR a0 0) 3))] [] (ev_X11_isBusy F a0 h0 p1 (w5 (shR a0 0) 3) w5) vm_X11_isBusy fc9 h0 g1641 dX11_saysRoof_45 rfl rfl (Nat.le_of_ble_eq_true rfl) (Nat.le_of_ble_eq_true rfl) (Nat.le_of_ble_eq_true rfl) (fun r6 => ?_)
  refine I_ifB_eq (pc := 48) hx 57 dX11_saysRoof_48 rfl ?_ ?_
  · exact l_X11_saysRoof_b57 F a0 h0 p1 hx w5
  refine E_aload_n (pc := 51) hx 0 dX11_saysRoof_51 rfl rfl ?_
  refine I_bipush (pc := 52) hx 33 dX11_saysRoof_52 rfl ?_
  refine I_cVV  (pc := 54) hx [.int (oI 33)] [] (ev_X11_says F a0 h0 33 w5) vm_X11_says fc9 h0 g1907 dX11_saysRoof_54 rfl rfl (Nat.le_of_ble_eq_true rfl) (Nat.le_of_ble_eq_true rfl) (Nat.le_of_ble_eq_true rfl) (fun w12 => ?_)
  exact l_X11_saysRoof_b57 F a0 h0 p1 hx w12
set_option maxHeartbeats 4000000 in
set_option maxRecDepth 100000 in
theorem ev_X11_saysRoof (F : Nat) (a0 : Nat) (h0 : shK a0 = 10 + 9) (p1 : Int) (w : aI) : Ev yX11_saysRoof cX11_saysRoof 2 none 3 0 jvV [.ref a0, .int (oI p1)] (cm w) (f_X11_saysRoof F a0 p1 w) := by
  refine Ev.of (own := RX11) (by decide +kernel) rfl (Nat.le_of_ble_eq_true rfl) (fun x hx => ?_)
  show En x jvV 0 0 0 [(0, .ref a0), (1, .int (oI p1))] [] (cm w) _
  unfold f_X11_saysRoof
  refine E_iload_n (pc := 0) hx 1 dX11_saysRoof_0 rfl rfl ?_
  refine E_gd (fun hr1 => ?_)
  refine I_if_le (pc := 1) hx 10 dX11_saysRoof_1 rfl hr1 ?_ ?_
  · exact l_X11_saysRoof_b10 F a0 h0 p1 hx w
  refine E_aload_n (pc := 4) hx 0 dX11_saysRoof_4 rfl rfl ?_
  refine I_bipush (pc := 5) hx 32 dX11_saysRoof_5 rfl ?_
  refine I_cVV  (pc := 7) hx [.int (oI 32)] [] (ev_X11_says F a0 h0 32 w) vm_X11_says fc9 h0 g1907 dX11_saysRoof_7 rfl rfl (Nat.le_of_ble_eq_true rfl) (Nat.le_of_ble_eq_true rfl) (Nat.le_of_ble_eq_true rfl) (fun w13 => ?_)
  exact l_X11_saysRoof_b10 F a0 h0 p1 hx w13
set_option maxHeartbeats 4000000 in
set_option maxRecDepth 100000 in
theorem l_X11_printRoofs_b12_b {x : Cx} (F : Nat) (a0 : Nat) (h0 : shK a0 = 10 + 9)  (hx : CxOK x RX11 cX11_printRoofs 2 4 0 (some .int))  (k12 : Int → aI → Option (Int × aI)) (hk12 : ∀ (v1 : Int) (w : aI), En x jvIW 0 0 12 [(0, .ref a0), (1, .int (oI v1))] [] (cm w) (k12 v1 w)) (v1 : Int) (w : aI) : En x jvIW 0 0 12 [(0, .ref a0), (1, .int (oI v1))] [] (cm w) (f_X11_printRoofs_b12_b F a0   k12 v1 w) := by
  unfold f_X11_printRoofs_b12_b
  refine E_iload_n (pc := 12) hx 1 dX11_printRoofs_12 rfl rfl ?_
  refine E_aload_n (pc := 13) hx 0 dX11_printRoofs_13 rfl rfl ?_
  refine E_getR (pc := 14) hx 0 fc9 h0 rfl ⟨rfl, rfl, rfl⟩ g1332 dX11_printRoofs_14 ?_
  refine I_iconst (pc := 17) hx 0 dX11_printRoofs_17 ?_
  refine I_iald (pc := 18) hx (kt_9_0 h0) dX11_printRoofs_18 ?_
  refine E_gd (fun hr3 => ?_)
  refine I_icmp_ge (pc := 19) hx 33 dX11_printRoofs_19 rfl ⟨hr3.1, hr3.2⟩ ?_ ?_
  · refine E_aload_n (pc := 33) hx 0 dX11_printRoofs_33 rfl rfl ?_
    refine I_getI (pc := 34) hx 27 27 rfl fc9 h0 rfl ⟨rfl, rfl, rfl⟩ g1359 dX11_printRoofs_34 ?_
    exact E_iret (pc := 37) hx dX11_printRoofs_37 rfl rfl (Nat.le_of_ble_eq_true rfl)
  refine E_aload_n (pc := 22) hx 0 dX11_printRoofs_22 rfl rfl ?_
  refine E_iload_n (pc := 23) hx 1 dX11_printRoofs_23 rfl rfl ?_
  refine I_cVV  (pc := 24) hx [.int (oI v1)] [] (ev_X11_saysRoof F a0 h0 v1 w) vm_X11_saysRoof fc9 h0 g1903 dX11_printRoofs_24 rfl rfl (Nat.le_of_ble_eq_true rfl) (Nat.le_of_ble_eq_true rfl) (Nat.le_of_ble_eq_true rfl) (fun w4 => ?_)
  refine I_iinc (pc := 27) hx 1 1 dX11_printRoofs_27 rfl (Nat.le_of_ble_eq_true rfl) rfl ?_
  refine E_goto (pc := 30) hx 12 dX11_printRoofs_30 rfl ?_
  refine En.sub [1, 0] rfl ?_
  exact hk12 (v1 + 1) w4
theorem l_X11_printRoofs_b12 {x : Cx} (F : Nat) (a0 : Nat) (h0 : shK a0 = 10 + 9)  (hx : CxOK x RX11 cX11_printRoofs 2 4 0 (some .int))  : ∀ (n : Nat) (v1 : Int) (w : aI), En x jvIW 0 0 12 [(0, .ref a0), (1, .int (oI v1))] [] (cm w) (f_X11_printRoofs_b12 F a0   n v1 w) := by
  intro n
  induction n with
  | zero => intro v1 w; exact E_none
  | succ n ih => intro v1 w; exact l_X11_printRoofs_b12_b F a0 h0  hx  _ ih v1 w
set_option maxHeartbeats 4000000 in
set_option maxRecDepth 100000 in
theorem ev_X11_printRoofs (F : Nat) (a0 : Nat) (h0 : shK a0 = 10 + 9) (w : aI) : Ev yX11_printRoofs cX11_printRoofs 2 (some .int) 4 0 jvIW [.ref a0] (cm w) (f_X11_printRoofs F a0 w) := by
  refine Ev.of (own := RX11) (by decide +kernel) rfl (Nat.le_of_ble_eq_true rfl) (fun x hx => ?_)
  show En x jvIW 0 0 0 [(0, .ref a0)] [] (cm w) _
  unfold f_X11_printRoofs
  refine E_aload_n (pc := 0) hx 0 dX11_printRoofs_0 rfl rfl ?_
  refine I_iconst (pc := 1) hx 0 dX11_printRoofs_1 ?_
  refine I_put (pc := 2) hx 6 6 rfl .int tyX11 fc9 tyX11_ok h0 rfl ⟨rfl, rfl, rfl, rfl, pfd_I⟩ rfl rfl g1338 dX11_printRoofs_2 (fun w1 => ?_)
  refine E_aload_n (pc := 5) hx 0 dX11_printRoofs_5 rfl rfl ?_
  refine I_iconst (pc := 6) hx 0 dX11_printRoofs_6 ?_
  refine I_put (pc := 7) hx 27 27 rfl .int tyX11 fc9 tyX11_ok h0 rfl ⟨rfl, rfl, rfl, rfl, pfd_I⟩ rfl rfl g1359 dX11_printRoofs_7 (fun w2 => ?_)
  refine I_iconst (pc := 10) hx 0 dX11_printRoofs_10 ?_
  refine E_istore_n (pc := 11) hx dX11_printRoofs_11 rfl (Nat.le_of_ble_eq_true rfl) rfl ?_
  refine En.sub [1, 0] rfl ?_
  exact l_X11_printRoofs_b12 F a0 h0 hx F 0 w2
set_option maxHeartbeats 4000000 in
set_option maxRecDepth 100000 in
theorem l_X11_printTune_b28_b {x : Cx} (F : Nat) (a0 : Nat) (h0 : shK a0 = 10 + 9) (p1 : Int)  (hx : CxOK x RX11 cX11_printTune 4 2 0 (some .int))  (k28 : Int → Int → aI → Option (Int × aI)) (hk28 : ∀ (v2 : Int) (v3 : Int) (w : aI), En x jvIW 0 0 28 [(0, .ref a0), (2, .int (oI v2)), (3, .int (oI v3))] [] (cm w) (k28 v2 v3 w)) (v2 : Int) (v3 : Int) (w : aI) : En x jvIW 0 0 28 [(0, .ref a0), (2, .int (oI v2)), (3, .int (oI v3))] [] (cm w) (f_X11_printTune_b28_b F a0 p1   k28 v2 v3 w) := by
  unfold f_X11_printTune_b28_b
  refine E_iload_n (pc := 28) hx 2 dX11_printTune_28 rfl rfl ?_
  refine E_aload_n (pc := 29) hx 0 dX11_printTune_29 rfl rfl ?_
  refine E_getR (pc := 30) hx 0 fc9 h0 rfl ⟨rfl, rfl, rfl⟩ g1332 dX11_printTune_30 ?_
  refine E_iload_n (pc := 33) hx 1 dX11_printTune_33 rfl rfl ?_
  refine I_iconst (pc := 34) hx 2 dX11_printTune_34 ?_
  refine I_iadd (pc := 35) hx dX11_printTune_35 ?_
  refine I_iald (pc := 36) hx (kt_9_0 h0) dX11_printTune_36 ?_
  refine E_gd (fun hr6 => ?_)
  refine I_icmp_ge (pc := 37) hx 95 dX11_printTune_37 rfl ⟨hr6.1, hr6.2⟩ ?_ ?_
  · refine E_aload_n (pc := 95) hx 0 dX11_printTune_95 rfl rfl ?_
    refine I_bipush (pc := 96) hx 62 dX11_printTune_96 rfl ?_
    refine I_cVV  (pc := 98) hx [.int (oI 62)] [] (ev_X11_says F a0 h0 62 w) vm_X11_says fc9 h0 g1907 dX11_printTune_98 rfl rfl (Nat.le_of_ble_eq_true rfl) (Nat.le_of_ble_eq_true rfl) (Nat.le_of_ble_eq_true rfl) (fun w7 => ?_)
    refine E_aload_n (pc := 101) hx 0 dX11_printTune_101 rfl rfl ?_
    refine E_aload_n (pc := 102) hx 0 dX11_printTune_102 rfl rfl ?_
    refine E_getR (pc := 103) hx 0 fc9 h0 rfl ⟨rfl, rfl, rfl⟩ g1332 dX11_printTune_103 ?_
    refine E_iload_n (pc := 106) hx 1 dX11_printTune_106 rfl rfl ?_
    refine I_iconst (pc := 107) hx 1 dX11_printTune_107 ?_
    refine I_iadd (pc := 108) hx dX11_printTune_108 ?_
    refine I_iald (pc := 109) hx (kt_9_0 h0) dX11_printTune_109 ?_
    refine I_cVV  (pc := 110) hx [.int (oI (w7 (shR a0 0) (v2 + 1)))] [] (ev_X11_saysName F a0 h0 (w7 (shR a0 0) (v2 + 1)) w7) vm_X11_saysName fc9 h0 g1911 dX11_printTune_110 rfl rfl (Nat.le_of_ble_eq_true rfl) (Nat.le_of_ble_eq_true rfl) (Nat.le_of_ble_eq_true rfl) (fun w8 => ?_)
    refine E_aload_n (pc := 113) hx 0 dX11_printTune_113 rfl rfl ?_
    refine I_getI (pc := 114) hx 27 27 rfl fc9 h0 rfl ⟨rfl, rfl, rfl⟩ g1359 dX11_printTune_114 ?_
    exact E_iret (pc := 117) hx dX11_printTune_117 rfl rfl (Nat.le_of_ble_eq_true rfl)
  refine E_aload_n (pc := 40) hx 0 dX11_printTune_40 rfl rfl ?_
  refine I_bipush (pc := 41) hx 48 dX11_printTune_41 rfl ?_
  refine E_aload_n (pc := 43) hx 0 dX11_printTune_43 rfl rfl ?_
  refine E_getR (pc := 44) hx 0 fc9 h0 rfl ⟨rfl, rfl, rfl⟩ g1332 dX11_printTune_44 ?_
  refine E_iload_n (pc := 47) hx 1 dX11_printTune_47 rfl rfl ?_
  refine I_bipush (pc := 48) hx 19 dX11_printTune_48 rfl ?_
  refine I_iadd (pc := 50) hx dX11_printTune_50 ?_
  refine E_iload_n (pc := 51) hx 2 dX11_printTune_51 rfl rfl ?_
  refine I_iadd (pc := 52) hx dX11_printTune_52 ?_
  refine I_iald (pc := 53) hx (kt_9_0 h0) dX11_printTune_53 ?_
  refine I_iadd (pc := 54) hx dX11_printTune_54 ?_
  refine I_cVV  (pc := 55) hx [.int (oI (48 + (w (shR a0 0) ((v2 + 19) + v3))))] [] (ev_X11_says F a0 h0 (48 + (w (shR a0 0) ((v2 + 19) + v3))) w) vm_X11_says fc9 h0 g1907 dX11_printTune_55 rfl rfl (Nat.le_of_ble_eq_true rfl) (Nat.le_of_ble_eq_true rfl) (Nat.le_of_ble_eq_true rfl) (fun w9 => ?_)
  refine E_aload_n (pc := 58) hx 0 dX11_printTune_58 rfl rfl ?_
  refine E_getR (pc := 59) hx 0 fc9 h0 rfl ⟨rfl, rfl, rfl⟩ g1332 dX11_printTune_59 ?_
  refine E_iload_n (pc := 62) hx 1 dX11_printTune_62 rfl rfl ?_
  refine I_bipush (pc := 63) hx 19 dX11_printTune_63 rfl ?_
  refine I_iadd (pc := 65) hx dX11_printTune_65 ?_
  refine E_iload_n (pc := 66) hx 2 dX11_printTune_66 rfl rfl ?_
  refine I_iadd (pc := 67) hx dX11_printTune_67 ?_
  refine I_iald (pc := 68) hx (kt_9_0 h0) dX11_printTune_68 ?_
  refine E_aload_n (pc := 69) hx 0 dX11_printTune_69 rfl rfl ?_
  refine E_getR (pc := 70) hx 0 fc9 h0 rfl ⟨rfl, rfl, rfl⟩ g1332 dX11_printTune_70 ?_
  refine E_iload_n (pc := 73) hx 1 dX11_printTune_73 rfl rfl ?_
  refine I_bipush (pc := 74) hx 11 dX11_printTune_74 rfl ?_
  refine I_iadd (pc := 76) hx dX11_printTune_76 ?_
  refine E_iload_n (pc := 77) hx 2 dX11_printTune_77 rfl rfl ?_
  refine I_iadd (pc := 78) hx dX11_printTune_78 ?_
  refine I_iald (pc := 79) hx (kt_9_0 h0) dX11_printTune_79 ?_
  refine E_gd (fun hr10 => ?_)
  refine I_icmp_eq (pc := 80) hx 89 dX11_printTune_80 rfl ⟨hr10.1, hr10.2⟩ ?_ ?_
  · refine I_iinc (pc := 89) hx 1 2 dX11_printTune_89 rfl (Nat.le_of_ble_eq_true rfl) rfl ?_
    refine E_goto (pc := 92) hx 28 dX11_printTune_92 rfl ?_
    refine En.sub [1, 2, 0] rfl ?_
    exact hk28 v2 (v3 + 1) w9
  refine E_aload_n (pc := 83) hx 0 dX11_printTune_83 rfl rfl ?_
  refine I_bipush (pc := 84) hx 39 dX11_printTune_84 rfl ?_
  refine I_cVV  (pc := 86) hx [.int (oI 39)] [] (ev_X11_says F a0 h0 39 w9) vm_X11_says fc9 h0 g1907 dX11_printTune_86 rfl rfl (Nat.le_of_ble_eq_true rfl) (Nat.le_of_ble_eq_true rfl) (Nat.le_of_ble_eq_true rfl) (fun w11 => ?_)
  refine I_iinc (pc := 89) hx 1 2 dX11_printTune_89 rfl (Nat.le_of_ble_eq_true rfl) rfl ?_
  refine E_goto (pc := 92) hx 28 dX11_printTune_92 rfl ?_
  refine En.sub [1, 2, 0] rfl ?_
  exact hk28 v2 (v3 + 1) w11
theorem l_X11_printTune_b28 {x : Cx} (F : Nat) (a0 : Nat) (h0 : shK a0 = 10 + 9) (p1 : Int)  (hx : CxOK x RX11 cX11_printTune 4 2 0 (some .int))  : ∀ (n : Nat) (v2 : Int) (v3 : Int) (w : aI), En x jvIW 0 0 28 [(0, .ref a0), (2, .int (oI v2)), (3, .int (oI v3))] [] (cm w) (f_X11_printTune_b28 F a0 p1   n v2 v3 w) := by
  intro n
  induction n with
  | zero => intro v2 v3 w; exact E_none
  | succ n ih => intro v2 v3 w; exact l_X11_printTune_b28_b F a0 h0 p1  hx  _ ih v2 v3 w
set_option maxHeartbeats 4000000 in
set_option maxRecDepth 100000 in
theorem ev_X11_printTune (F : Nat) (a0 : Nat) (h0 : shK a0 = 10 + 9) (p1 : Int) (w : aI) : Ev yX11_printTune cX11_printTune 4 (some .int) 2 0 jvIW [.ref a0, .int (oI p1)] (cm w) (f_X11_printTune F a0 p1 w) := by
  refine Ev.of (own := RX11) (by decide +kernel) rfl (Nat.le_of_ble_eq_true rfl) (fun x hx => ?_)
  show En x jvIW 0 0 0 [(0, .ref a0), (1, .int (oI p1))] [] (cm w) _
  unfold f_X11_printTune
  refine E_aload_n (pc := 0) hx 0 dX11_printTune_0 rfl rfl ?_
  refine E_aload_n (pc := 1) hx 0 dX11_printTune_1 rfl rfl ?_
  refine E_iload_n (pc := 2) hx 1 dX11_printTune_2 rfl rfl ?_
  refine I_cVB  (pc := 3) hx [.int (oI p1)] [.ref a0] (ev_X11_isTune F a0 h0 p1 w) vm_X11_isTune fc9 h0 g1777 dX11_printTune_3 rfl rfl (Nat.le_of_ble_eq_true rfl) (Nat.le_of_ble_eq_true rfl) (Nat.le_of_ble_eq_true rfl) (fun r1 => ?_)
  refine I_iconst (pc := 6) hx 1 dX11_printTune_6 ?_
  refine I_iconst (pc := 7) hx 1 dX11_printTune_7 ?_
  refine I_cVBW  (pc := 8) hx [.int (oI (bI r1)), .int (oI 1), .int (oI 1)] [] (ev_X11_may F a0 h0 (bI r1) 1 1 w) vm_X11_may fc9 h0 g1714 dX11_printTune_8 rfl rfl (Nat.le_of_ble_eq_true rfl) (Nat.le_of_ble_eq_true rfl) (Nat.le_of_ble_eq_true rfl) (fun r2 w3 => ?_)
  refine I_ifB_ne (pc := 11) hx 16 dX11_printTune_11 rfl ?_ ?_
  · refine E_aload_n (pc := 16) hx 0 dX11_printTune_16 rfl rfl ?_
    refine I_iconst (pc := 17) hx 0 dX11_printTune_17 ?_
    refine I_put (pc := 18) hx 27 27 rfl .int tyX11 fc9 tyX11_ok h0 rfl ⟨rfl, rfl, rfl, rfl, pfd_I⟩ rfl rfl g1359 dX11_printTune_18 (fun w4 => ?_)
    refine E_iload_n (pc := 21) hx 1 dX11_printTune_21 rfl rfl ?_
    refine I_cSI  (pc := 22) hx [.int (oI p1)] [] (ev_X11_t F p1 w4) sm_X11_t g1594 dX11_printTune_22 rfl rfl (Nat.le_of_ble_eq_true rfl) (Nat.le_of_ble_eq_true rfl) (Nat.le_of_ble_eq_true rfl) (fun r5 => ?_)
    refine E_istore_n (pc := 25) hx dX11_printTune_25 rfl (Nat.le_of_ble_eq_true rfl) rfl ?_
    refine I_iconst (pc := 26) hx 0 dX11_printTune_26 ?_
    refine E_istore_n (pc := 27) hx dX11_printTune_27 rfl (Nat.le_of_ble_eq_true rfl) rfl ?_
    refine En.sub [2, 1, 0] rfl ?_
    exact l_X11_printTune_b28 F a0 h0 p1 hx F r5 0 w4
  refine I_iconst (pc := 14) hx 0 dX11_printTune_14 ?_
  exact E_iret (pc := 15) hx dX11_printTune_15 rfl rfl (Nat.le_of_ble_eq_true rfl)
set_option maxHeartbeats 4000000 in
set_option maxRecDepth 100000 in
theorem ev_X11_outputByte (F : Nat) (a0 : Nat) (h0 : shK a0 = 10 + 9) (p1 : Int) (w : aI) : Ev yX11_outputByte cX11_outputByte 2 (some .int) 1 0 jvIW [.ref a0, .int (oI p1)] (cm w) (f_X11_outputByte F a0 p1 w) := by
  refine Ev.of (own := RX11) (by decide +kernel) rfl (Nat.le_of_ble_eq_true rfl) (fun x hx => ?_)
  show En x jvIW 0 0 0 [(0, .ref a0), (1, .int (oI p1))] [] (cm w) _
  unfold f_X11_outputByte
  refine E_aload_n (pc := 0) hx 0 dX11_outputByte_0 rfl rfl ?_
  refine I_iconst (pc := 1) hx 0 dX11_outputByte_1 ?_
  refine I_put (pc := 2) hx 6 6 rfl .int tyX11 fc9 tyX11_ok h0 rfl ⟨rfl, rfl, rfl, rfl, pfd_I⟩ rfl rfl g1338 dX11_outputByte_2 (fun w1 => ?_)
  refine E_iload_n (pc := 5) hx 1 dX11_outputByte_5 rfl rfl ?_
  refine E_gd (fun hr2 => ?_)
  refine I_i2l (pc := 6) hx dX11_outputByte_6 hr2 ?_
  refine I_lconst (pc := 7) hx 0 dX11_outputByte_7 rfl ?_
  refine E_aload_n (pc := 8) hx 0 dX11_outputByte_8 rfl rfl ?_
  refine I_getI (pc := 9) hx 27 27 rfl fc9 h0 rfl ⟨rfl, rfl, rfl⟩ g1359 dX11_outputByte_9 ?_
  refine I_iconst (pc := 12) hx 1 dX11_outputByte_12 ?_
  refine I_isub (pc := 13) hx dX11_outputByte_13 ?_
  refine E_gd (fun hr3 => ?_)
  refine I_i2l (pc := 14) hx dX11_outputByte_14 hr3 ?_
  refine I_cSB  (pc := 15) hx [.long (oL p1), .long (oL 0), .long (oL ((w1 a0 27) - 1))] [] (ev_X11_in F p1 0 ((w1 a0 27) - 1) w1) sm_X11_in g1434 dX11_outputByte_15 rfl rfl (Nat.le_of_ble_eq_true rfl) (Nat.le_of_ble_eq_true rfl) (Nat.le_of_ble_eq_true rfl) (fun r4 => ?_)
  refine I_ifB_eq (pc := 18) hx 30 dX11_outputByte_18 rfl ?_ ?_
  · refine I_iconst (pc := 30) hx (-1) dX11_outputByte_30 ?_
    exact E_iret (pc := 31) hx dX11_outputByte_31 rfl rfl (Nat.le_of_ble_eq_true rfl)
  refine E_aload_n (pc := 21) hx 0 dX11_outputByte_21 rfl rfl ?_
  refine E_getR (pc := 22) hx 26 fc9 h0 rfl ⟨rfl, rfl, rfl⟩ g1358 dX11_outputByte_22 ?_
  refine E_iload_n (pc := 25) hx 1 dX11_outputByte_25 rfl rfl ?_
  refine I_bald (pc := 26) hx (kt_9_26 h0) dX11_outputByte_26 ?_
  refine E_goto (pc := 27) hx 31 dX11_outputByte_27 rfl ?_
  exact E_iret (pc := 31) hx dX11_outputByte_31 rfl rfl (Nat.le_of_ble_eq_true rfl)
set_option maxHeartbeats 4000000 in
set_option maxRecDepth 100000 in
theorem ev_X11_saveState (F : Nat) (a0 : Nat) (h0 : shK a0 = 10 + 9) (w : aI) : Ev yX11_saveState cX11_saveState 1 (some .int) 1 0 jvIW [.ref a0] (cm w) (f_X11_saveState F a0 w) := by
  refine Ev.of (own := RX11) (by decide +kernel) rfl (Nat.le_of_ble_eq_true rfl) (fun x hx => ?_)
  show En x jvIW 0 0 0 [(0, .ref a0)] [] (cm w) _
  unfold f_X11_saveState
  refine E_aload_n (pc := 0) hx 0 dX11_saveState_0 rfl rfl ?_
  refine I_iconst (pc := 1) hx 0 dX11_saveState_1 ?_
  refine I_put (pc := 2) hx 6 6 rfl .int tyX11 fc9 tyX11_ok h0 rfl ⟨rfl, rfl, rfl, rfl, pfd_I⟩ rfl rfl g1338 dX11_saveState_2 (fun w1 => ?_)
  refine E_aload_n (pc := 5) hx 0 dX11_saveState_5 rfl rfl ?_
  refine E_aload_n (pc := 6) hx 0 dX11_saveState_6 rfl rfl ?_
  refine E_getR (pc := 7) hx 2 fc9 h0 rfl ⟨rfl, rfl, rfl⟩ g1334 dX11_saveState_7 ?_
  refine I_cVV  (pc := 10) hx [.ref (shR a0 2)] [] (ev_X11_copies F a0 h0 (shR a0 2) (kt_9_2 h0) w1) vm_X11_copies fc9 h0 g1449 dX11_saveState_10 rfl rfl (Nat.le_of_ble_eq_true rfl) (Nat.le_of_ble_eq_true rfl) (Nat.le_of_ble_eq_true rfl) (fun w2 => ?_)
  refine E_aload_n (pc := 13) hx 0 dX11_saveState_13 rfl rfl ?_
  refine I_iconst (pc := 14) hx 1 dX11_saveState_14 ?_
  refine I_put (pc := 15) hx 5 5 rfl .boolean tyX11 fc9 tyX11_ok h0 rfl ⟨rfl, rfl, rfl, rfl, pfd_Z⟩ rfl rfl g1337 dX11_saveState_15 (fun w3 => ?_)
  refine E_aload_n (pc := 18) hx 0 dX11_saveState_18 rfl rfl ?_
  refine E_getR (pc := 19) hx 0 fc9 h0 rfl ⟨rfl, rfl, rfl⟩ g1332 dX11_saveState_19 ?_
  refine I_iconst (pc := 22) hx 2 dX11_saveState_22 ?_
  refine I_iald (pc := 23) hx (kt_9_0 h0) dX11_saveState_23 ?_
  exact E_iret (pc := 24) hx dX11_saveState_24 rfl rfl (Nat.le_of_ble_eq_true rfl)
set_option maxHeartbeats 4000000 in
set_option maxRecDepth 100000 in
theorem ev_X11_restoreState (F : Nat) (a0 : Nat) (h0 : shK a0 = 10 + 9) (w : aI) : Ev yX11_restoreState cX11_restoreState 2 (some .int) 1 0 jvIW [.ref a0] (cm w) (f_X11_restoreState F a0 w) := by
  refine Ev.of (own := RX11) (by decide +kernel) rfl (Nat.le_of_ble_eq_true rfl) (fun x hx => ?_)
  show En x jvIW 0 0 0 [(0, .ref a0)] [] (cm w) _
  unfold f_X11_restoreState
  refine E_aload_n (pc := 0) hx 0 dX11_restoreState_0 rfl rfl ?_
  refine E_aload_n (pc := 1) hx 0 dX11_restoreState_1 rfl rfl ?_
  refine I_getI (pc := 2) hx 5 5 rfl fc9 h0 rfl ⟨rfl, rfl, rfl⟩ g1337 dX11_restoreState_2 ?_
  refine I_iconst (pc := 5) hx 1 dX11_restoreState_5 ?_
  refine I_iconst (pc := 6) hx 1 dX11_restoreState_6 ?_
  refine I_cVBW  (pc := 7) hx [.int (oI (w a0 5)), .int (oI 1), .int (oI 1)] [] (ev_X11_may F a0 h0 (w a0 5) 1 1 w) vm_X11_may fc9 h0 g1714 dX11_restoreState_7 rfl rfl (Nat.le_of_ble_eq_true rfl) (Nat.le_of_ble_eq_true rfl) (Nat.le_of_ble_eq_true rfl) (fun r1 w2 => ?_)
  refine I_ifB_ne (pc := 10) hx 15 dX11_restoreState_10 rfl ?_ ?_
  · refine E_aload_n (pc := 15) hx 0 dX11_restoreState_15 rfl rfl ?_
    refine E_aload_n (pc := 16) hx 0 dX11_restoreState_16 rfl rfl ?_
    refine E_getR (pc := 17) hx 2 fc9 h0 rfl ⟨rfl, rfl, rfl⟩ g1334 dX11_restoreState_17 ?_
    refine I_iconst (pc := 20) hx 0 dX11_restoreState_20 ?_
    refine I_cVIW  (pc := 21) hx [.ref (shR a0 2), .int (oI 0)] [] (ev_X11_gives F a0 h0 (shR a0 2) (kt_9_2 h0) 0 w2) vm_X11_gives fc9 h0 g1553 dX11_restoreState_21 rfl rfl (Nat.le_of_ble_eq_true rfl) (Nat.le_of_ble_eq_true rfl) (Nat.le_of_ble_eq_true rfl) (fun r3 w4 => ?_)
    refine E_istore_n (pc := 24) hx dX11_restoreState_24 rfl (Nat.le_of_ble_eq_true rfl) rfl ?_
    refine E_aload_n (pc := 25) hx 1 dX11_restoreState_25 rfl rfl ?_
    refine I_iconst (pc := 26) hx 0 dX11_restoreState_26 ?_
    refine I_put (pc := 27) hx 4 4 rfl .int tyX11 fc9 tyX11_ok h0 rfl ⟨rfl, rfl, rfl, rfl, pfd_I⟩ rfl rfl g1336 dX11_restoreState_27 (fun w5 => ?_)
    refine E_aload_n (pc := 30) hx 1 dX11_restoreState_30 rfl rfl ?_
    refine E_getR (pc := 31) hx 0 fc9 h0 rfl ⟨rfl, rfl, rfl⟩ g1332 dX11_restoreState_31 ?_
    refine I_iconst (pc := 34) hx 2 dX11_restoreState_34 ?_
    refine I_iald (pc := 35) hx (kt_9_0 h0) dX11_restoreState_35 ?_
    exact E_iret (pc := 36) hx dX11_restoreState_36 rfl rfl (Nat.le_of_ble_eq_true rfl)
  refine I_iconst (pc := 13) hx 0 dX11_restoreState_13 ?_
  exact E_iret (pc := 14) hx dX11_restoreState_14 rfl rfl (Nat.le_of_ble_eq_true rfl)
