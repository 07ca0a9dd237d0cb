set_option maxHeartbeats 4000000 in
set_option maxRecDepth 100000 in
theorem ev_X10_send (F : Nat) (a0 : Nat) (h0 : shK a0 = 10 + 8) (p1 : Int) (p2 : Int) (p3 : Int) (p4 : Int) (w : aI) : Ev yX10_send cX10_send 5 (some .int) 7 4 jvT [.ref a0, .int (oI p1), .int (oI p2), .int (oI p3), .int (oI p4)] (cm w) (f_X10_send F a0 p1 p2 p3 p4 w) := by
  refine Ev.of (own := RX10) (by decide +kernel) rfl (Nat.le_of_ble_eq_true rfl) (fun x hx => ?_)
  show En x jvT 4 0 0 [(0, .ref a0), (1, .int (oI p1)), (2, .int (oI p2)), (3, .int (oI p3)), (4, .int (oI p4))] [] (cm w) _
  unfold f_X10_send
  refine E_aload_n (pc := 0) hx 0 dX10_send_0 rfl rfl ?_
  refine E_iload_n (pc := 1) hx 1 dX10_send_1 rfl rfl ?_
  refine I_cVN (hcv := rfl) (pc := 2) hx [.int (oI p1)] [] (ev_X10_needRoof F a0 h0 p1 w) vm_X10_needRoof fc8 h0 g1035 dX10_send_2 rfl rfl (Nat.le_of_ble_eq_true rfl) (Nat.le_of_ble_eq_true rfl) (Nat.le_of_ble_eq_true rfl) ?_
  refine E_aload_n (pc := 5) hx 0 dX10_send_5 rfl rfl ?_
  refine E_iload_n (pc := 6) hx 2 dX10_send_6 rfl rfl ?_
  refine I_cVN (hcv := rfl) (pc := 7) hx [.int (oI p2)] [] (ev_X10_needRoof F a0 h0 p2 w) vm_X10_needRoof fc8 h0 g1035 dX10_send_7 rfl rfl (Nat.le_of_ble_eq_true rfl) (Nat.le_of_ble_eq_true rfl) (Nat.le_of_ble_eq_true rfl) ?_
  refine E_iload_n (pc := 10) hx 1 dX10_send_10 rfl rfl ?_
  refine E_iload_n (pc := 11) hx 2 dX10_send_11 rfl rfl ?_
  refine E_gd (fun hr1 => ?_)
  refine I_icmp_ne (pc := 12) hx 26 dX10_send_12 rfl ⟨hr1.1, hr1.2⟩ ?_ ?_
  · refine E_aload_n (pc := 26) hx 0 dX10_send_26 rfl rfl ?_
    refine E_iload_n (pc := 27) hx 3 dX10_send_27 rfl rfl ?_
    refine I_iconst (pc := 28) hx 0 dX10_send_28 ?_
    refine I_ldcw (pc := 29) hx 77777777 g1201 rfl dX10_send_29 ?_
    refine I_cVN (hcv := rfl) (pc := 32) hx [.int (oI p3), .int (oI 0), .int (oI 77777777)] [] (ev_X10_needNumber F a0 h0 p3 0 77777777 w) vm_X10_needNumber fc8 h0 g932 dX10_send_32 rfl rfl (Nat.le_of_ble_eq_true rfl) (Nat.le_of_ble_eq_true rfl) (Nat.le_of_ble_eq_true rfl) ?_
    refine E_iload_n (pc := 35) hx 3 dX10_send_35 rfl rfl ?_
    refine I_cSB  (pc := 36) hx [.int (oI p3)] [] (ev_X10_areDigitsNotes F p3 w) sm_X10_areDigitsNotes g1202 dX10_send_36 rfl rfl (Nat.le_of_ble_eq_true rfl) (Nat.le_of_ble_eq_true rfl) (Nat.le_of_ble_eq_true rfl) (fun r2 => ?_)
    refine I_ifB_ne (pc := 39) hx 53 dX10_send_39 rfl ?_ ?_
    · refine E_aload_n (pc := 53) hx 0 dX10_send_53 rfl rfl ?_
      refine E_getR (pc := 54) hx 5 fc8 h0 rfl ⟨rfl, rfl, rfl⟩ g593 dX10_send_54 ?_
      refine I_getI (pc := 57) hx 3 3 rfl fc2 (kt_8_5 h0) rfl ⟨rfl, rfl, rfl⟩ g219 dX10_send_57 ?_
      refine I_bipush (pc := 60) hx 30 dX10_send_60 rfl ?_
      refine E_gd (fun hr3 => ?_)
      refine I_icmp_lt (pc := 62) hx 76 dX10_send_62 rfl ⟨hr3, (by decide)⟩ ?_ ?_
      · refine E_aload_n (pc := 76) hx 0 dX10_send_76 rfl rfl ?_
        refine E_getR (pc := 77) hx 8 fc8 h0 rfl ⟨rfl, rfl, rfl⟩ g596 dX10_send_77 ?_
        refine E_aload_n (pc := 80) hx 0 dX10_send_80 rfl rfl ?_
        refine E_getR (pc := 81) hx 5 fc8 h0 rfl ⟨rfl, rfl, rfl⟩ g593 dX10_send_81 ?_
        refine I_cVV  (pc := 84) hx [.ref (shR a0 5)] [] (ev_X1_keep F (shR a0 8) (kt_8_8 h0) (shR a0 5) (kt_8_5 h0) w) vm_X1_keep fc1 (kt_8_8 h0) g692 dX10_send_84 rfl rfl (Nat.le_of_ble_eq_true rfl) (Nat.le_of_ble_eq_true rfl) (Nat.le_of_ble_eq_true rfl) (fun w4 => ?_)
        refine E_aload_n (pc := 87) hx 0 dX10_send_87 rfl rfl ?_
        refine E_getR (pc := 88) hx 5 fc8 h0 rfl ⟨rfl, rfl, rfl⟩ g593 dX10_send_88 ?_
        refine E_iload_n (pc := 91) hx 1 dX10_send_91 rfl rfl ?_
        refine E_iload_n (pc := 92) hx 2 dX10_send_92 rfl rfl ?_
        refine E_iload_n (pc := 93) hx 3 dX10_send_93 rfl rfl ?_
        refine I_cSI  (pc := 94) hx [.int (oI p3)] [.int (oI p2), .int (oI p1), .ref (shR a0 5)] (ev_X10_digitsOf F p3 w4) sm_X10_digitsOf g1222 dX10_send_94 rfl rfl (Nat.le_of_ble_eq_true rfl) (Nat.le_of_ble_eq_true rfl) (Nat.le_of_ble_eq_true rfl) (fun r5 => ?_)
        refine E_iload_n (pc := 97) hx 3 dX10_send_97 rfl rfl ?_
        refine I_cSI  (pc := 98) hx [.int (oI p3)] [.int (oI r5), .int (oI p2), .int (oI p1), .ref (shR a0 5)] (ev_X10_notesOfDigits F p3 w4) sm_X10_notesOfDigits g1225 dX10_send_98 rfl rfl (Nat.le_of_ble_eq_true rfl) (Nat.le_of_ble_eq_true rfl) (Nat.le_of_ble_eq_true rfl) (fun r6 => ?_)
        refine I_iconst (pc := 101) hx 0 dX10_send_101 ?_
        refine E_iload (pc := 102) hx 4 dX10_send_102 rfl ?_
        refine I_cVIW  (pc := 104) hx [.int (oI p1), .int (oI p2), .int (oI r5), .int (oI r6), .int (oI 0), .int (oI p4)] [] (ev_X2_addTune F (shR a0 5) (kt_8_5 h0) p1 p2 r5 r6 0 p4 w4) vm_X2_addTune fc2 (kt_8_5 h0) g710 dX10_send_104 rfl rfl (Nat.le_of_ble_eq_true rfl) (Nat.le_of_ble_eq_true rfl) (Nat.le_of_ble_eq_true rfl) (fun r7 w8 => ?_)
        exact E_iret (pc := 107) hx dX10_send_107 rfl rfl (Nat.le_of_ble_eq_true rfl)
      exact E_thrw (pc := 65) hx (i := 3) (text := (xStr.getD 3 ("", 0, "", 0)).2.2.1) xtS (by decide +kernel) dX10_send_65 dX10_send_68 dX10_send_69 dX10_send_72 dX10_send_75 (Nat.le_of_ble_eq_true rfl) (Nat.le_of_ble_eq_true rfl) (Nat.le_of_ble_eq_true rfl) rfl
    exact E_thrw (pc := 42) hx (i := 2) (text := (xStr.getD 2 ("", 0, "", 0)).2.2.1) xtA (by decide +kernel) dX10_send_42 dX10_send_45 dX10_send_46 dX10_send_49 dX10_send_52 (Nat.le_of_ble_eq_true rfl) (Nat.le_of_ble_eq_true rfl) (Nat.le_of_ble_eq_true rfl) rfl
  exact E_thrw (pc := 15) hx (i := 1) (text := (xStr.getD 1 ("", 0, "", 0)).2.2.1) xtA (by decide +kernel) dX10_send_15 dX10_send_18 dX10_send_19 dX10_send_22 dX10_send_25 (Nat.le_of_ble_eq_true rfl) (Nat.le_of_ble_eq_true rfl) (Nat.le_of_ble_eq_true rfl) rfl
set_option maxHeartbeats 4000000 in
set_option maxRecDepth 100000 in
theorem ev_X10_tick (F : Nat) (a0 : Nat) (h0 : shK a0 = 10 + 8) (p1 : Int) (w : aI) : Ev yX10_tick cX10_tick 3 (some .int) 7 2 jvT [.ref a0, .int (oI p1)] (cm w) (f_X10_tick F a0 p1 w) := by
  refine Ev.of (own := RX10) (by decide +kernel) rfl (Nat.le_of_ble_eq_true rfl) (fun x hx => ?_)
  show En x jvT 2 0 0 [(0, .ref a0), (1, .int (oI p1))] [] (cm w) _
  unfold f_X10_tick
  refine E_aload_n (pc := 0) hx 0 dX10_tick_0 rfl rfl ?_
  refine E_iload_n (pc := 1) hx 1 dX10_tick_1 rfl rfl ?_
  refine I_iconst (pc := 2) hx 1 dX10_tick_2 ?_
  refine I_sipush (pc := 3) hx 200 dX10_tick_3 rfl ?_
  refine I_cVN (hcv := rfl) (pc := 6) hx [.int (oI p1), .int (oI 1), .int (oI 200)] [] (ev_X10_needNumber F a0 h0 p1 1 200 w) vm_X10_needNumber fc8 h0 g932 dX10_tick_6 rfl rfl (Nat.le_of_ble_eq_true rfl) (Nat.le_of_ble_eq_true rfl) (Nat.le_of_ble_eq_true rfl) ?_
  refine E_aload_n (pc := 9) hx 0 dX10_tick_9 rfl rfl ?_
  refine E_getR (pc := 10) hx 5 fc8 h0 rfl ⟨rfl, rfl, rfl⟩ g593 dX10_tick_10 ?_
  refine E_iload_n (pc := 13) hx 1 dX10_tick_13 rfl rfl ?_
  refine I_cVB  (pc := 14) hx [.int (oI p1)] [] (ev_X2_hasTimeFor F (shR a0 5) (kt_8_5 h0) p1 w) vm_X2_hasTimeFor fc2 (kt_8_5 h0) g722 dX10_tick_14 rfl rfl (Nat.le_of_ble_eq_true rfl) (Nat.le_of_ble_eq_true rfl) (Nat.le_of_ble_eq_true rfl) (fun r1 => ?_)
  refine I_ifB_ne (pc := 17) hx 31 dX10_tick_17 rfl ?_ ?_
  · refine E_aload_n (pc := 31) hx 0 dX10_tick_31 rfl rfl ?_
    refine E_getR (pc := 32) hx 8 fc8 h0 rfl ⟨rfl, rfl, rfl⟩ g596 dX10_tick_32 ?_
    refine E_aload_n (pc := 35) hx 0 dX10_tick_35 rfl rfl ?_
    refine E_getR (pc := 36) hx 5 fc8 h0 rfl ⟨rfl, rfl, rfl⟩ g593 dX10_tick_36 ?_
    refine I_cVV  (pc := 39) hx [.ref (shR a0 5)] [] (ev_X1_keep F (shR a0 8) (kt_8_8 h0) (shR a0 5) (kt_8_5 h0) w) vm_X1_keep fc1 (kt_8_8 h0) g692 dX10_tick_39 rfl rfl (Nat.le_of_ble_eq_true rfl) (Nat.le_of_ble_eq_true rfl) (Nat.le_of_ble_eq_true rfl) (fun w2 => ?_)
    refine E_aload_n (pc := 42) hx 0 dX10_tick_42 rfl rfl ?_
    refine E_getR (pc := 43) hx 5 fc8 h0 rfl ⟨rfl, rfl, rfl⟩ g593 dX10_tick_43 ?_
    refine E_getR (pc := 46) hx 8 fc2 (kt_8_5 h0) rfl ⟨rfl, rfl, rfl⟩ g236 dX10_tick_46 ?_
    refine I_iconst (pc := 49) hx 0 dX10_tick_49 ?_
    refine I_iconst (pc := 50) hx 5 dX10_tick_50 ?_
    refine I_cVI  (pc := 51) hx [.int (oI 0), .int (oI 5)] [] (ev_X7_get F (shR (shR a0 5) 8) (kt_2_8 (kt_8_5 h0)) 0 5 w2) vm_X7_get fc6 (kt_2_8 (kt_8_5 h0)) g705 dX10_tick_51 rfl rfl (Nat.le_of_ble_eq_true rfl) (Nat.le_of_ble_eq_true rfl) (Nat.le_of_ble_eq_true rfl) (fun r3 => ?_)
    refine E_istore_n (pc := 54) hx dX10_tick_54 rfl (Nat.le_of_ble_eq_true rfl) rfl ?_
    refine E_aload_n (pc := 55) hx 1 dX10_tick_55 rfl rfl ?_
    refine E_getR (pc := 56) hx 5 fc8 h0 rfl ⟨rfl, rfl, rfl⟩ g593 dX10_tick_56 ?_
    refine E_iload_n (pc := 59) hx 2 dX10_tick_59 rfl rfl ?_
    refine I_cSV  (pc := 60) hx [.ref (shR a0 5), .int (oI p1)] [] (ev_X8_run F (shR a0 5) (kt_8_5 h0) p1 w2) sm_X8_run g726 dX10_tick_60 rfl rfl (Nat.le_of_ble_eq_true rfl) (Nat.le_of_ble_eq_true rfl) (Nat.le_of_ble_eq_true rfl) (fun w4 => ?_)
    refine E_aload_n (pc := 63) hx 1 dX10_tick_63 rfl rfl ?_
    refine E_getR (pc := 64) hx 5 fc8 h0 rfl ⟨rfl, rfl, rfl⟩ g593 dX10_tick_64 ?_
    refine E_getR (pc := 67) hx 8 fc2 (kt_8_5 h0) rfl ⟨rfl, rfl, rfl⟩ g236 dX10_tick_67 ?_
    refine I_iconst (pc := 70) hx 0 dX10_tick_70 ?_
    refine I_iconst (pc := 71) hx 5 dX10_tick_71 ?_
    refine I_cVI  (pc := 72) hx [.int (oI 0), .int (oI 5)] [] (ev_X7_get F (shR (shR a0 5) 8) (kt_2_8 (kt_8_5 h0)) 0 5 w4) vm_X7_get fc6 (kt_2_8 (kt_8_5 h0)) g705 dX10_tick_72 rfl rfl (Nat.le_of_ble_eq_true rfl) (Nat.le_of_ble_eq_true rfl) (Nat.le_of_ble_eq_true rfl) (fun r5 => ?_)
    refine E_iload_n (pc := 75) hx 0 dX10_tick_75 rfl rfl ?_
    refine I_isub (pc := 76) hx dX10_tick_76 ?_
    exact E_iret (pc := 77) hx dX10_tick_77 rfl rfl (Nat.le_of_ble_eq_true rfl)
  exact E_thrw (pc := 20) hx (i := 4) (text := (xStr.getD 4 ("", 0, "", 0)).2.2.1) xtS (by decide +kernel) dX10_tick_20 dX10_tick_23 dX10_tick_24 dX10_tick_27 dX10_tick_30 (Nat.le_of_ble_eq_true rfl) (Nat.le_of_ble_eq_true rfl) (Nat.le_of_ble_eq_true rfl) rfl
set_option maxHeartbeats 4000000 in
set_option maxRecDepth 100000 in
theorem ev_X10_give (F : Nat) (a0 : Nat) (h0 : shK a0 = 10 + 8) (p1 : Int) (p2 : Int) (w : aI) : Ev yX10_give cX10_give 3 (some .int) 7 3 jvT [.ref a0, .int (oI p1), .int (oI p2)] (cm w) (f_X10_give F a0 p1 p2 w) := by
  refine Ev.of (own := RX10) (by decide +kernel) rfl (Nat.le_of_ble_eq_true rfl) (fun x hx => ?_)
  show En x jvT 3 0 0 [(0, .ref a0), (1, .int (oI p1)), (2, .int (oI p2))] [] (cm w) _
  unfold f_X10_give
  refine E_aload_n (pc := 0) hx 0 dX10_give_0 rfl rfl ?_
  refine E_iload_n (pc := 1) hx 1 dX10_give_1 rfl rfl ?_
  refine I_cVN (hcv := rfl) (pc := 2) hx [.int (oI p1)] [] (ev_X10_needRoof F a0 h0 p1 w) vm_X10_needRoof fc8 h0 g1035 dX10_give_2 rfl rfl (Nat.le_of_ble_eq_true rfl) (Nat.le_of_ble_eq_true rfl) (Nat.le_of_ble_eq_true rfl) ?_
  refine E_aload_n (pc := 5) hx 0 dX10_give_5 rfl rfl ?_
  refine E_iload_n (pc := 6) hx 2 dX10_give_6 rfl rfl ?_
  refine I_iconst (pc := 7) hx 1 dX10_give_7 ?_
  refine I_bipush (pc := 8) hx 99 dX10_give_8 rfl ?_
  refine I_cVN (hcv := rfl) (pc := 10) hx [.int (oI p2), .int (oI 1), .int (oI 99)] [] (ev_X10_needNumber F a0 h0 p2 1 99 w) vm_X10_needNumber fc8 h0 g932 dX10_give_10 rfl rfl (Nat.le_of_ble_eq_true rfl) (Nat.le_of_ble_eq_true rfl) (Nat.le_of_ble_eq_true rfl) ?_
  refine E_aload_n (pc := 13) hx 0 dX10_give_13 rfl rfl ?_
  refine E_getR (pc := 14) hx 5 fc8 h0 rfl ⟨rfl, rfl, rfl⟩ g593 dX10_give_14 ?_
  refine E_iload_n (pc := 17) hx 1 dX10_give_17 rfl rfl ?_
  refine E_iload_n (pc := 18) hx 2 dX10_give_18 rfl rfl ?_
  refine I_cVB  (pc := 19) hx [.int (oI p1), .int (oI p2)] [] (ev_X2_hasRoomFor F (shR a0 5) (kt_8_5 h0) p1 p2 w) vm_X2_hasRoomFor fc2 (kt_8_5 h0) g809 dX10_give_19 rfl rfl (Nat.le_of_ble_eq_true rfl) (Nat.le_of_ble_eq_true rfl) (Nat.le_of_ble_eq_true rfl) (fun r1 => ?_)
  refine I_ifB_ne (pc := 22) hx 36 dX10_give_22 rfl ?_ ?_
  · refine E_aload_n (pc := 36) hx 0 dX10_give_36 rfl rfl ?_
    refine E_getR (pc := 37) hx 8 fc8 h0 rfl ⟨rfl, rfl, rfl⟩ g596 dX10_give_37 ?_
    refine E_aload_n (pc := 40) hx 0 dX10_give_40 rfl rfl ?_
    refine E_getR (pc := 41) hx 5 fc8 h0 rfl ⟨rfl, rfl, rfl⟩ g593 dX10_give_41 ?_
    refine I_cVV  (pc := 44) hx [.ref (shR a0 5)] [] (ev_X1_keep F (shR a0 8) (kt_8_8 h0) (shR a0 5) (kt_8_5 h0) w) vm_X1_keep fc1 (kt_8_8 h0) g692 dX10_give_44 rfl rfl (Nat.le_of_ble_eq_true rfl) (Nat.le_of_ble_eq_true rfl) (Nat.le_of_ble_eq_true rfl) (fun w2 => ?_)
    refine E_aload_n (pc := 47) hx 0 dX10_give_47 rfl rfl ?_
    refine E_getR (pc := 48) hx 5 fc8 h0 rfl ⟨rfl, rfl, rfl⟩ g593 dX10_give_48 ?_
    refine E_iload_n (pc := 51) hx 1 dX10_give_51 rfl rfl ?_
    refine E_iload_n (pc := 52) hx 2 dX10_give_52 rfl rfl ?_
    refine I_cVV  (pc := 53) hx [.int (oI p1), .int (oI p2)] [] (ev_X2_takeCoins F (shR a0 5) (kt_8_5 h0) p1 p2 w2) vm_X2_takeCoins fc2 (kt_8_5 h0) g813 dX10_give_53 rfl rfl (Nat.le_of_ble_eq_true rfl) (Nat.le_of_ble_eq_true rfl) (Nat.le_of_ble_eq_true rfl) (fun w3 => ?_)
    refine E_aload_n (pc := 56) hx 0 dX10_give_56 rfl rfl ?_
    refine E_getR (pc := 57) hx 5 fc8 h0 rfl ⟨rfl, rfl, rfl⟩ g593 dX10_give_57 ?_
    refine E_getR (pc := 60) hx 4 fc2 (kt_8_5 h0) rfl ⟨rfl, rfl, rfl⟩ g224 dX10_give_60 ?_
    refine E_iload_n (pc := 63) hx 1 dX10_give_63 rfl rfl ?_
    refine I_iconst (pc := 64) hx 3 dX10_give_64 ?_
    refine I_cVI  (pc := 65) hx [.int (oI p1), .int (oI 3)] [] (ev_X7_get F (shR (shR a0 5) 4) (kt_2_4 (kt_8_5 h0)) p1 3 w3) vm_X7_get fc6 (kt_2_4 (kt_8_5 h0)) g705 dX10_give_65 rfl rfl (Nat.le_of_ble_eq_true rfl) (Nat.le_of_ble_eq_true rfl) (Nat.le_of_ble_eq_true rfl) (fun r4 => ?_)
    exact E_iret (pc := 68) hx dX10_give_68 rfl rfl (Nat.le_of_ble_eq_true rfl)
  exact E_thrw (pc := 25) hx (i := 5) (text := (xStr.getD 5 ("", 0, "", 0)).2.2.1) xtS (by decide +kernel) dX10_give_25 dX10_give_28 dX10_give_29 dX10_give_32 dX10_give_35 (Nat.le_of_ble_eq_true rfl) (Nat.le_of_ble_eq_true rfl) (Nat.le_of_ble_eq_true rfl) rfl
set_option maxHeartbeats 4000000 in
set_option maxRecDepth 100000 in
theorem ev_X10_cut (F : Nat) (a0 : Nat) (h0 : shK a0 = 10 + 8) (p1 : Int) (p2 : Int) (w : aI) : Ev yX10_cut cX10_cut 3 (some .int) 7 3 jvT [.ref a0, .int (oI p1), .int (oI p2)] (cm w) (f_X10_cut F a0 p1 p2 w) := by
  refine Ev.of (own := RX10) (by decide +kernel) rfl (Nat.le_of_ble_eq_true rfl) (fun x hx => ?_)
  show En x jvT 3 0 0 [(0, .ref a0), (1, .int (oI p1)), (2, .int (oI p2))] [] (cm w) _
  unfold f_X10_cut
  refine E_aload_n (pc := 0) hx 0 dX10_cut_0 rfl rfl ?_
  refine E_iload_n (pc := 1) hx 1 dX10_cut_1 rfl rfl ?_
  refine I_cVN (hcv := rfl) (pc := 2) hx [.int (oI p1)] [] (ev_X10_needRoof F a0 h0 p1 w) vm_X10_needRoof fc8 h0 g1035 dX10_cut_2 rfl rfl (Nat.le_of_ble_eq_true rfl) (Nat.le_of_ble_eq_true rfl) (Nat.le_of_ble_eq_true rfl) ?_
  refine E_aload_n (pc := 5) hx 0 dX10_cut_5 rfl rfl ?_
  refine E_iload_n (pc := 6) hx 2 dX10_cut_6 rfl rfl ?_
  refine I_cVN (hcv := rfl) (pc := 7) hx [.int (oI p2)] [] (ev_X10_needRoof F a0 h0 p2 w) vm_X10_needRoof fc8 h0 g1035 dX10_cut_7 rfl rfl (Nat.le_of_ble_eq_true rfl) (Nat.le_of_ble_eq_true rfl) (Nat.le_of_ble_eq_true rfl) ?_
  refine E_aload_n (pc := 10) hx 0 dX10_cut_10 rfl rfl ?_
  refine E_getR (pc := 11) hx 5 fc8 h0 rfl ⟨rfl, rfl, rfl⟩ g593 dX10_cut_11 ?_
  refine E_iload_n (pc := 14) hx 1 dX10_cut_14 rfl rfl ?_
  refine E_iload_n (pc := 15) hx 2 dX10_cut_15 rfl rfl ?_
  refine I_cVI  (pc := 16) hx [.int (oI p1), .int (oI p2)] [] (ev_X2_wayBetween F (shR a0 5) (kt_8_5 h0) p1 p2 w) vm_X2_wayBetween fc2 (kt_8_5 h0) g1251 dX10_cut_16 rfl rfl (Nat.le_of_ble_eq_true rfl) (Nat.le_of_ble_eq_true rfl) (Nat.le_of_ble_eq_true rfl) (fun r1 => ?_)
  refine I_iconst (pc := 19) hx (-1) dX10_cut_19 ?_
  refine E_gd (fun hr2 => ?_)
  refine I_icmp_ne (pc := 20) hx 34 dX10_cut_20 rfl ⟨hr2, (by decide)⟩ ?_ ?_
  · refine E_aload_n (pc := 34) hx 0 dX10_cut_34 rfl rfl ?_
    refine E_getR (pc := 35) hx 8 fc8 h0 rfl ⟨rfl, rfl, rfl⟩ g596 dX10_cut_35 ?_
    refine E_aload_n (pc := 38) hx 0 dX10_cut_38 rfl rfl ?_
    refine E_getR (pc := 39) hx 5 fc8 h0 rfl ⟨rfl, rfl, rfl⟩ g593 dX10_cut_39 ?_
    refine I_cVV  (pc := 42) hx [.ref (shR a0 5)] [] (ev_X1_keep F (shR a0 8) (kt_8_8 h0) (shR a0 5) (kt_8_5 h0) w) vm_X1_keep fc1 (kt_8_8 h0) g692 dX10_cut_42 rfl rfl (Nat.le_of_ble_eq_true rfl) (Nat.le_of_ble_eq_true rfl) (Nat.le_of_ble_eq_true rfl) (fun w3 => ?_)
    refine E_aload_n (pc := 45) hx 0 dX10_cut_45 rfl rfl ?_
    refine E_getR (pc := 46) hx 5 fc8 h0 rfl ⟨rfl, rfl, rfl⟩ g593 dX10_cut_46 ?_
    refine E_iload_n (pc := 49) hx 1 dX10_cut_49 rfl rfl ?_
    refine E_iload_n (pc := 50) hx 2 dX10_cut_50 rfl rfl ?_
    refine I_cVBW  (pc := 51) hx [.int (oI p1), .int (oI p2)] [] (ev_X2_cutWay F (shR a0 5) (kt_8_5 h0) p1 p2 w3) vm_X2_cutWay fc2 (kt_8_5 h0) g817 dX10_cut_51 rfl rfl (Nat.le_of_ble_eq_true rfl) (Nat.le_of_ble_eq_true rfl) (Nat.le_of_ble_eq_true rfl) (fun r4 w5 => ?_)
    refine E_pop (pc := 54) hx dX10_cut_54 rfl ?_
    refine E_aload_n (pc := 55) hx 0 dX10_cut_55 rfl rfl ?_
    refine E_getR (pc := 56) hx 5 fc8 h0 rfl ⟨rfl, rfl, rfl⟩ g593 dX10_cut_56 ?_
    refine I_getI (pc := 59) hx 2 2 rfl fc2 (kt_8_5 h0) rfl ⟨rfl, rfl, rfl⟩ g216 dX10_cut_59 ?_
    exact E_iret (pc := 62) hx dX10_cut_62 rfl rfl (Nat.le_of_ble_eq_true rfl)
  exact E_thrw (pc := 23) hx (i := 6) (text := (xStr.getD 6 ("", 0, "", 0)).2.2.1) xtS (by decide +kernel) dX10_cut_23 dX10_cut_26 dX10_cut_27 dX10_cut_30 dX10_cut_33 (Nat.le_of_ble_eq_true rfl) (Nat.le_of_ble_eq_true rfl) (Nat.le_of_ble_eq_true rfl) rfl
set_option maxHeartbeats 4000000 in
set_option maxRecDepth 100000 in
theorem ev_X10_set (F : Nat) (a0 : Nat) (h0 : shK a0 = 10 + 8) (p1 : Int) (p2 : Int) (w : aI) : Ev yX10_set cX10_set 4 (some .int) 7 2 jvT [.ref a0, .int (oI p1), .int (oI p2)] (cm w) (f_X10_set F a0 p1 p2 w) := by
  refine Ev.of (own := RX10) (by decide +kernel) rfl (Nat.le_of_ble_eq_true rfl) (fun x hx => ?_)
  show En x jvT 2 0 0 [(0, .ref a0), (1, .int (oI p1)), (2, .int (oI p2))] [] (cm w) _
  unfold f_X10_set
  refine E_aload_n (pc := 0) hx 0 dX10_set_0 rfl rfl ?_
  refine E_iload_n (pc := 1) hx 1 dX10_set_1 rfl rfl ?_
  refine I_bipush (pc := 2) hx 8 dX10_set_2 rfl ?_
  refine I_bipush (pc := 4) hx 10 dX10_set_4 rfl ?_
  refine I_cVN (hcv := rfl) (pc := 6) hx [.int (oI p1), .int (oI 8), .int (oI 10)] [] (ev_X10_needNumber F a0 h0 p1 8 10 w) vm_X10_needNumber fc8 h0 g932 dX10_set_6 rfl rfl (Nat.le_of_ble_eq_true rfl) (Nat.le_of_ble_eq_true rfl) (Nat.le_of_ble_eq_true rfl) ?_
  refine E_aload_n (pc := 9) hx 0 dX10_set_9 rfl rfl ?_
  refine E_iload_n (pc := 10) hx 2 dX10_set_10 rfl rfl ?_
  refine E_iload_n (pc := 11) hx 1 dX10_set_11 rfl rfl ?_
  refine I_cSI  (pc := 12) hx [.int (oI p1)] [.int (oI p2), .ref a0] (ev_X2_leastOf F p1 w) sm_X2_leastOf g1260 dX10_set_12 rfl rfl (Nat.le_of_ble_eq_true rfl) (Nat.le_of_ble_eq_true rfl) (Nat.le_of_ble_eq_true rfl) (fun r1 => ?_)
  refine E_iload_n (pc := 15) hx 1 dX10_set_15 rfl rfl ?_
  refine I_cSI  (pc := 16) hx [.int (oI p1)] [.int (oI r1), .int (oI p2), .ref a0] (ev_X2_mostOf F p1 w) sm_X2_mostOf g1261 dX10_set_16 rfl rfl (Nat.le_of_ble_eq_true rfl) (Nat.le_of_ble_eq_true rfl) (Nat.le_of_ble_eq_true rfl) (fun r2 => ?_)
  refine I_cVN (hcv := rfl) (pc := 19) hx [.int (oI p2), .int (oI r1), .int (oI r2)] [] (ev_X10_needNumber F a0 h0 p2 r1 r2 w) vm_X10_needNumber fc8 h0 g932 dX10_set_19 rfl rfl (Nat.le_of_ble_eq_true rfl) (Nat.le_of_ble_eq_true rfl) (Nat.le_of_ble_eq_true rfl) ?_
  refine E_aload_n (pc := 22) hx 0 dX10_set_22 rfl rfl ?_
  refine E_getR (pc := 23) hx 8 fc8 h0 rfl ⟨rfl, rfl, rfl⟩ g596 dX10_set_23 ?_
  refine E_aload_n (pc := 26) hx 0 dX10_set_26 rfl rfl ?_
  refine E_getR (pc := 27) hx 5 fc8 h0 rfl ⟨rfl, rfl, rfl⟩ g593 dX10_set_27 ?_
  refine I_cVV  (pc := 30) hx [.ref (shR a0 5)] [] (ev_X1_keep F (shR a0 8) (kt_8_8 h0) (shR a0 5) (kt_8_5 h0) w) vm_X1_keep fc1 (kt_8_8 h0) g692 dX10_set_30 rfl rfl (Nat.le_of_ble_eq_true rfl) (Nat.le_of_ble_eq_true rfl) (Nat.le_of_ble_eq_true rfl) (fun w3 => ?_)
  refine E_aload_n (pc := 33) hx 0 dX10_set_33 rfl rfl ?_
  refine E_getR (pc := 34) hx 5 fc8 h0 rfl ⟨rfl, rfl, rfl⟩ g593 dX10_set_34 ?_
  refine E_iload_n (pc := 37) hx 1 dX10_set_37 rfl rfl ?_
  refine I_cVI  (pc := 38) hx [.int (oI p1)] [] (ev_X2_setting F (shR a0 5) (kt_8_5 h0) p1 w3) vm_X2_setting fc2 (kt_8_5 h0) g1166 dX10_set_38 rfl rfl (Nat.le_of_ble_eq_true rfl) (Nat.le_of_ble_eq_true rfl) (Nat.le_of_ble_eq_true rfl) (fun r4 => ?_)
  refine E_istore_n (pc := 41) hx dX10_set_41 rfl (Nat.le_of_ble_eq_true rfl) rfl ?_
  refine E_aload_n (pc := 42) hx 1 dX10_set_42 rfl rfl ?_
  refine E_getR (pc := 43) hx 5 fc8 h0 rfl ⟨rfl, rfl, rfl⟩ g593 dX10_set_43 ?_
  refine E_iload_n (pc := 46) hx 2 dX10_set_46 rfl rfl ?_
  refine E_iload_n (pc := 47) hx 3 dX10_set_47 rfl rfl ?_
  refine I_cVV  (pc := 48) hx [.int (oI p1), .int (oI p2)] [] (ev_X2_settle F (shR a0 5) (kt_8_5 h0) p1 p2 w3) vm_X2_settle fc2 (kt_8_5 h0) g829 dX10_set_48 rfl rfl (Nat.le_of_ble_eq_true rfl) (Nat.le_of_ble_eq_true rfl) (Nat.le_of_ble_eq_true rfl) (fun w5 => ?_)
  refine E_iload_n (pc := 51) hx 0 dX10_set_51 rfl rfl ?_
  exact E_iret (pc := 52) hx dX10_set_52 rfl rfl (Nat.le_of_ble_eq_true rfl)
set_option maxHeartbeats 4000000 in
set_option maxRecDepth 100000 in
theorem ev_X10_undo (F : Nat) (a0 : Nat) (h0 : shK a0 = 10 + 8) (w : aI) : Ev yX10_undo cX10_undo 1 (some .int) 7 1 jvT [.ref a0] (cm w) (f_X10_undo F a0 w) := by
  refine Ev.of (own := RX10) (by decide +kernel) rfl (Nat.le_of_ble_eq_true rfl) (fun x hx => ?_)
  show En x jvT 1 0 0 [(0, .ref a0)] [] (cm w) _
  unfold f_X10_undo
  refine E_aload_n (pc := 0) hx 0 dX10_undo_0 rfl rfl ?_
  refine E_getR (pc := 1) hx 8 fc8 h0 rfl ⟨rfl, rfl, rfl⟩ g596 dX10_undo_1 ?_
  refine I_cVI  (pc := 4) hx [] [] (ev_X1_size F (shR a0 8) (kt_8_8 h0) w) vm_X1_size fc1 (kt_8_8 h0) g1004 dX10_undo_4 rfl rfl (Nat.le_of_ble_eq_true rfl) (Nat.le_of_ble_eq_true rfl) (Nat.le_of_ble_eq_true rfl) (fun r1 => ?_)
  refine E_gd (fun hr2 => ?_)
  refine I_if_ne (pc := 7) hx 21 dX10_undo_7 rfl hr2 ?_ ?_
  · refine E_aload_n (pc := 21) hx 0 dX10_undo_21 rfl rfl ?_
    refine E_getR (pc := 22) hx 8 fc8 h0 rfl ⟨rfl, rfl, rfl⟩ g596 dX10_undo_22 ?_
    refine E_aload_n (pc := 25) hx 0 dX10_undo_25 rfl rfl ?_
    refine E_getR (pc := 26) hx 5 fc8 h0 rfl ⟨rfl, rfl, rfl⟩ g593 dX10_undo_26 ?_
    refine I_cVV  (pc := 29) hx [.ref (shR a0 5)] [] (ev_X1_giveBack F (shR a0 8) (kt_8_8 h0) (shR a0 5) (kt_8_5 h0) w) vm_X1_giveBack fc1 (kt_8_8 h0) g1286 dX10_undo_29 rfl rfl (Nat.le_of_ble_eq_true rfl) (Nat.le_of_ble_eq_true rfl) (Nat.le_of_ble_eq_true rfl) (fun w3 => ?_)
    refine E_aload_n (pc := 32) hx 0 dX10_undo_32 rfl rfl ?_
    refine E_getR (pc := 33) hx 8 fc8 h0 rfl ⟨rfl, rfl, rfl⟩ g596 dX10_undo_33 ?_
    refine I_cVI  (pc := 36) hx [] [] (ev_X1_size F (shR a0 8) (kt_8_8 h0) w3) vm_X1_size fc1 (kt_8_8 h0) g1004 dX10_undo_36 rfl rfl (Nat.le_of_ble_eq_true rfl) (Nat.le_of_ble_eq_true rfl) (Nat.le_of_ble_eq_true rfl) (fun r4 => ?_)
    exact E_iret (pc := 39) hx dX10_undo_39 rfl rfl (Nat.le_of_ble_eq_true rfl)
  exact E_thrwN (pc := 10) hx (i := 7) (text := (xStr.getD 7 ("", 0, "", 0)).2.2.1) xtN (by decide +kernel) dX10_undo_10 dX10_undo_13 dX10_undo_14 dX10_undo_17 dX10_undo_20 (Nat.le_of_ble_eq_true rfl) (Nat.le_of_ble_eq_true rfl) (Nat.le_of_ble_eq_true rfl) rfl
set_option maxHeartbeats 4000000 in
set_option maxRecDepth 100000 in
theorem l_X10_writeName_b2_b {x : Cx} (F : Nat) (a0 : Nat) (h0 : shK a0 = 10 + 8) (p1 : Int)  (hx : CxOK x RX10 cX10_writeName 4 2 0 none)  (k2 : Int → aI → Option aI) (hk2 : ∀ (v2 : Int) (w : aI), En x jvV 0 0 2 [(0, .ref a0), (1, .int (oI p1)), (2, .int (oI v2))] [] (cm w) (k2 v2 w)) (v2 : Int) (w : aI) : En x jvV 0 0 2 [(0, .ref a0), (1, .int (oI p1)), (2, .int (oI v2))] [] (cm w) (f_X10_writeName_b2_b F a0 p1   k2 v2 w) := by
  unfold f_X10_writeName_b2_b
  refine E_iload_n (pc := 2) hx 2 dX10_writeName_2 rfl rfl ?_
  refine I_bipush (pc := 3) hx 6 dX10_writeName_3 rfl ?_
  refine E_gd (fun hr1 => ?_)
  refine I_icmp_ge (pc := 5) hx 37 dX10_writeName_5 rfl ⟨hr1, (by decide)⟩ ?_ ?_
  · exact E_vret (pc := 37) hx dX10_writeName_37 rfl rfl (Nat.le_of_ble_eq_true rfl)
  refine E_aload_n (pc := 8) hx 0 dX10_writeName_8 rfl rfl ?_
  refine E_getR (pc := 9) hx 5 fc8 h0 rfl ⟨rfl, rfl, rfl⟩ g593 dX10_writeName_9 ?_
  refine E_iload_n (pc := 12) hx 1 dX10_writeName_12 rfl rfl ?_
  refine E_iload_n (pc := 13) hx 2 dX10_writeName_13 rfl rfl ?_
  refine I_cVI  (pc := 14) hx [.int (oI p1), .int (oI v2)] [] (ev_X2_letterOf F (shR a0 5) (kt_8_5 h0) p1 v2 w) vm_X2_letterOf fc2 (kt_8_5 h0) g901 dX10_writeName_14 rfl rfl (Nat.le_of_ble_eq_true rfl) (Nat.le_of_ble_eq_true rfl) (Nat.le_of_ble_eq_true rfl) (fun r2 => ?_)
  refine E_istore_n (pc := 17) hx dX10_writeName_17 rfl (Nat.le_of_ble_eq_true rfl) rfl ?_
  refine E_iload_n (pc := 18) hx 0 dX10_writeName_18 rfl rfl ?_
  refine I_iconst (pc := 19) hx (-1) dX10_writeName_19 ?_
  refine E_gd (fun hr3 => ?_)
  refine I_icmp_eq (pc := 20) hx 31 dX10_writeName_20 rfl ⟨hr3, (by decide)⟩ ?_ ?_
  · refine I_iinc (pc := 31) hx 1 3 dX10_writeName_31 rfl (Nat.le_of_ble_eq_true rfl) rfl ?_
    refine E_goto (pc := 34) hx 2 dX10_writeName_34 rfl ?_
    refine En.sub [2, 3, 0] rfl ?_
    exact hk2 (v2 + 1) w
  refine E_aload_n (pc := 23) hx 1 dX10_writeName_23 rfl rfl ?_
  refine E_getR (pc := 24) hx 1 fc8 h0 rfl ⟨rfl, rfl, rfl⟩ g589 dX10_writeName_24 ?_
  refine E_iload_n (pc := 27) hx 0 dX10_writeName_27 rfl rfl ?_
  refine I_cVV  (pc := 28) hx [.int (oI r2)] [] (ev_X0_add F (shR a0 1) (kt_8_1 h0) r2 w) vm_X0_add fc0 (kt_8_1 h0) g629 dX10_writeName_28 rfl rfl (Nat.le_of_ble_eq_true rfl) (Nat.le_of_ble_eq_true rfl) (Nat.le_of_ble_eq_true rfl) (fun w4 => ?_)
  refine I_iinc (pc := 31) hx 1 3 dX10_writeName_31 rfl (Nat.le_of_ble_eq_true rfl) rfl ?_
  refine E_goto (pc := 34) hx 2 dX10_writeName_34 rfl ?_
  refine En.sub [2, 3, 0] rfl ?_
  exact hk2 (v2 + 1) w4
theorem l_X10_writeName_b2 {x : Cx} (F : Nat) (a0 : Nat) (h0 : shK a0 = 10 + 8) (p1 : Int)  (hx : CxOK x RX10 cX10_writeName 4 2 0 none)  : ∀ (n : Nat) (v2 : Int) (w : aI), En x jvV 0 0 2 [(0, .ref a0), (1, .int (oI p1)), (2, .int (oI v2))] [] (cm w) (f_X10_writeName_b2 F a0 p1   n v2 w) := by
  intro n
  induction n with
  | zero => intro v2 w; exact E_none
  | succ n ih => intro v2 w; exact l_X10_writeName_b2_b F a0 h0 p1  hx  _ ih v2 w
set_option maxHeartbeats 4000000 in
set_option maxRecDepth 100000 in
theorem ev_X10_writeName (F : Nat) (a0 : Nat) (h0 : shK a0 = 10 + 8) (p1 : Int) (w : aI) : Ev yX10_writeName cX10_writeName 4 none 2 0 jvV [.ref a0, .int (oI p1)] (cm w) (f_X10_writeName F a0 p1 w) := by
  refine Ev.of (own := RX10) (by decide +kernel) rfl (Nat.le_of_ble_eq_true rfl) (fun x hx => ?_)
  show En x jvV 0 0 0 [(0, .ref a0), (1, .int (oI p1))] [] (cm w) _
  unfold f_X10_writeName
  refine I_iconst (pc := 0) hx 0 dX10_writeName_0 ?_
  refine E_istore_n (pc := 1) hx dX10_writeName_1 rfl (Nat.le_of_ble_eq_true rfl) rfl ?_
  refine En.sub [1, 2, 0] rfl ?_
  exact l_X10_writeName_b2 F a0 h0 p1 hx F 0 w
set_option maxHeartbeats 4000000 in
set_option maxRecDepth 100000 in
theorem l_X10_printRoofs_b93 {x : Cx} (F : Nat) (a0 : Nat) (h0 : shK a0 = 10 + 8)  (hx : CxOK x RX10 cX10_printRoofs 3 3 0 (some .int)) (k9 : Int → aI → Option (Int × aI)) (hk9 : ∀ (v1 : Int) (w : aI), En x jvIW 0 0 9 [(0, .ref a0), (1, .int (oI v1))] [] (cm w) (k9 v1 w))  (v1 : Int) (w : aI) : En x jvIW 0 0 93 [(0, .ref a0), (1, .int (oI v1))] [] (cm w) (f_X10_printRoofs_b93 F a0  k9  v1 w) := by
  unfold f_X10_printRoofs_b93
  refine E_aload_n (pc := 93) hx 0 dX10_printRoofs_93 rfl rfl ?_
  refine E_getR (pc := 94) hx 5 fc8 h0 rfl ⟨rfl, rfl, rfl⟩ g593 dX10_printRoofs_94 ?_
  refine E_iload_n (pc := 97) hx 1 dX10_printRoofs_97 rfl rfl ?_
  refine I_cVI  (pc := 98) hx [.int (oI v1)] [] (ev_X2_tunesAt F (shR a0 5) (kt_8_5 h0) v1 w) vm_X2_tunesAt fc2 (kt_8_5 h0) g911 dX10_printRoofs_98 rfl rfl (Nat.le_of_ble_eq_true rfl) (Nat.le_of_ble_eq_true rfl) (Nat.le_of_ble_eq_true rfl) (fun r9 => ?_)
  refine E_istore_n (pc := 101) hx dX10_printRoofs_101 rfl (Nat.le_of_ble_eq_true rfl) rfl ?_
  refine E_iload_n (pc := 102) hx 0 dX10_printRoofs_102 rfl rfl ?_
  refine E_gd (fun hr10 => ?_)
  refine I_if_le (pc := 103) hx 123 dX10_printRoofs_103 rfl hr10 ?_ ?_
  · refine I_iinc (pc := 123) hx 1 2 dX10_printRoofs_123 rfl (Nat.le_of_ble_eq_true rfl) rfl ?_
    refine E_goto (pc := 126) hx 9 dX10_printRoofs_126 rfl ?_
    refine En.sub [2, 0] rfl ?_
    exact hk9 (v1 + 1) w
  refine E_aload_n (pc := 106) hx 1 dX10_printRoofs_106 rfl rfl ?_
  refine E_getR (pc := 107) hx 1 fc8 h0 rfl ⟨rfl, rfl, rfl⟩ g589 dX10_printRoofs_107 ?_
  refine I_bipush (pc := 110) hx 47 dX10_printRoofs_110 rfl ?_
  refine I_cVV  (pc := 112) hx [.int (oI 47)] [] (ev_X0_add F (shR a0 1) (kt_8_1 h0) 47 w) vm_X0_add fc0 (kt_8_1 h0) g629 dX10_printRoofs_112 rfl rfl (Nat.le_of_ble_eq_true rfl) (Nat.le_of_ble_eq_true rfl) (Nat.le_of_ble_eq_true rfl) (fun w11 => ?_)
  refine E_aload_n (pc := 115) hx 1 dX10_printRoofs_115 rfl rfl ?_
  refine E_getR (pc := 116) hx 1 fc8 h0 rfl ⟨rfl, rfl, rfl⟩ g589 dX10_printRoofs_116 ?_
  refine E_iload_n (pc := 119) hx 0 dX10_printRoofs_119 rfl rfl ?_
  refine I_cVV  (pc := 120) hx [.int (oI r9)] [] (ev_X0_addNumber F (shR a0 1) (kt_8_1 h0) r9 w11) vm_X0_addNumber fc0 (kt_8_1 h0) g905 dX10_printRoofs_120 rfl rfl (Nat.le_of_ble_eq_true rfl) (Nat.le_of_ble_eq_true rfl) (Nat.le_of_ble_eq_true rfl) (fun w12 => ?_)
  refine I_iinc (pc := 123) hx 1 2 dX10_printRoofs_123 rfl (Nat.le_of_ble_eq_true rfl) rfl ?_
  refine E_goto (pc := 126) hx 9 dX10_printRoofs_126 rfl ?_
  refine En.sub [2, 0] rfl ?_
  exact hk9 (v1 + 1) w12
set_option maxHeartbeats 4000000 in
set_option maxRecDepth 100000 in
theorem l_X10_printRoofs_b33 {x : Cx} (F : Nat) (a0 : Nat) (h0 : shK a0 = 10 + 8)  (hx : CxOK x RX10 cX10_printRoofs 3 3 0 (some .int)) (k9 : Int → aI → Option (Int × aI)) (hk9 : ∀ (v1 : Int) (w : aI), En x jvIW 0 0 9 [(0, .ref a0), (1, .int (oI v1))] [] (cm w) (k9 v1 w))  (v1 : Int) (w : aI) : En x jvIW 0 0 33 [(0, .ref a0), (1, .int (oI v1))] [] (cm w) (f_X10_printRoofs_b33 F a0  k9  v1 w) := by
  unfold f_X10_printRoofs_b33
  refine E_aload_n (pc := 33) hx 0 dX10_printRoofs_33 rfl rfl ?_
  refine E_iload_n (pc := 34) hx 1 dX10_printRoofs_34 rfl rfl ?_
  refine I_cVV  (pc := 35) hx [.int (oI v1)] [] (ev_X10_writeName F a0 h0 v1 w) vm_X10_writeName fc8 h0 g897 dX10_printRoofs_35 rfl rfl (Nat.le_of_ble_eq_true rfl) (Nat.le_of_ble_eq_true rfl) (Nat.le_of_ble_eq_true rfl) (fun w4 => ?_)
  refine E_aload_n (pc := 38) hx 0 dX10_printRoofs_38 rfl rfl ?_
  refine E_getR (pc := 39) hx 1 fc8 h0 rfl ⟨rfl, rfl, rfl⟩ g589 dX10_printRoofs_39 ?_
  refine I_bipush (pc := 42) hx 58 dX10_printRoofs_42 rfl ?_
  refine I_cVV  (pc := 44) hx [.int (oI 58)] [] (ev_X0_add F (shR a0 1) (kt_8_1 h0) 58 w4) vm_X0_add fc0 (kt_8_1 h0) g629 dX10_printRoofs_44 rfl rfl (Nat.le_of_ble_eq_true rfl) (Nat.le_of_ble_eq_true rfl) (Nat.le_of_ble_eq_true rfl) (fun w5 => ?_)
  refine E_aload_n (pc := 47) hx 0 dX10_printRoofs_47 rfl rfl ?_
  refine E_getR (pc := 48) hx 1 fc8 h0 rfl ⟨rfl, rfl, rfl⟩ g589 dX10_printRoofs_48 ?_
  refine E_aload_n (pc := 51) hx 0 dX10_printRoofs_51 rfl rfl ?_
  refine E_getR (pc := 52) hx 5 fc8 h0 rfl ⟨rfl, rfl, rfl⟩ g593 dX10_printRoofs_52 ?_
  refine E_getR (pc := 55) hx 4 fc2 (kt_8_5 h0) rfl ⟨rfl, rfl, rfl⟩ g224 dX10_printRoofs_55 ?_
  refine E_iload_n (pc := 58) hx 1 dX10_printRoofs_58 rfl rfl ?_
  refine I_iconst (pc := 59) hx 3 dX10_printRoofs_59 ?_
  refine I_cVI  (pc := 60) hx [.int (oI v1), .int (oI 3)] [.ref (shR a0 1)] (ev_X7_get F (shR (shR a0 5) 4) (kt_2_4 (kt_8_5 h0)) v1 3 w5) vm_X7_get fc6 (kt_2_4 (kt_8_5 h0)) g705 dX10_printRoofs_60 rfl rfl (Nat.le_of_ble_eq_true rfl) (Nat.le_of_ble_eq_true rfl) (Nat.le_of_ble_eq_true rfl) (fun r6 => ?_)
  refine I_cVV  (pc := 63) hx [.int (oI r6)] [] (ev_X0_addNumber F (shR a0 1) (kt_8_1 h0) r6 w5) vm_X0_addNumber fc0 (kt_8_1 h0) g905 dX10_printRoofs_63 rfl rfl (Nat.le_of_ble_eq_true rfl) (Nat.le_of_ble_eq_true rfl) (Nat.le_of_ble_eq_true rfl) (fun w7 => ?_)
  refine E_aload_n (pc := 66) hx 0 dX10_printRoofs_66 rfl rfl ?_
  refine E_getR (pc := 67) hx 5 fc8 h0 rfl ⟨rfl, rfl, rfl⟩ g593 dX10_printRoofs_67 ?_
  refine E_iload_n (pc := 70) hx 1 dX10_printRoofs_70 rfl rfl ?_
  refine E_aload_n (pc := 71) hx 0 dX10_printRoofs_71 rfl rfl ?_
  refine E_getR (pc := 72) hx 5 fc8 h0 rfl ⟨rfl, rfl, rfl⟩ g593 dX10_printRoofs_72 ?_
  refine I_getI (pc := 75) hx 0 0 rfl fc2 (kt_8_5 h0) rfl ⟨rfl, rfl, rfl⟩ g205 dX10_printRoofs_75 ?_
  refine I_cVB  (pc := 78) hx [.int (oI v1), .int (oI (w7 (shR a0 5) 0))] [] (ev_X2_isBusy F (shR a0 5) (kt_8_5 h0) v1 (w7 (shR a0 5) 0) w7) vm_X2_isBusy fc2 (kt_8_5 h0) g910 dX10_printRoofs_78 rfl rfl (Nat.le_of_ble_eq_true rfl) (Nat.le_of_ble_eq_true rfl) (Nat.le_of_ble_eq_true rfl) (fun r8 => ?_)
  refine I_ifB_eq (pc := 81) hx 93 dX10_printRoofs_81 rfl ?_ ?_
  · exact l_X10_printRoofs_b93 F a0 h0 hx k9 hk9 v1 w7
  refine E_aload_n (pc := 84) hx 0 dX10_printRoofs_84 rfl rfl ?_
  refine E_getR (pc := 85) hx 1 fc8 h0 rfl ⟨rfl, rfl, rfl⟩ g589 dX10_printRoofs_85 ?_
  refine I_bipush (pc := 88) hx 33 dX10_printRoofs_88 rfl ?_
  refine I_cVV  (pc := 90) hx [.int (oI 33)] [] (ev_X0_add F (shR a0 1) (kt_8_1 h0) 33 w7) vm_X0_add fc0 (kt_8_1 h0) g629 dX10_printRoofs_90 rfl rfl (Nat.le_of_ble_eq_true rfl) (Nat.le_of_ble_eq_true rfl) (Nat.le_of_ble_eq_true rfl) (fun w13 => ?_)
  exact l_X10_printRoofs_b93 F a0 h0 hx k9 hk9 v1 w13
set_option maxHeartbeats 4000000 in
set_option maxRecDepth 100000 in
theorem l_X10_printRoofs_b9_b {x : Cx} (F : Nat) (a0 : Nat) (h0 : shK a0 = 10 + 8)  (hx : CxOK x RX10 cX10_printRoofs 3 3 0 (some .int))  (k9 : Int → aI → Option (Int × aI)) (hk9 : ∀ (v1 : Int) (w : aI), En x jvIW 0 0 9 [(0, .ref a0), (1, .int (oI v1))] [] (cm w) (k9 v1 w)) (v1 : Int) (w : aI) : En x jvIW 0 0 9 [(0, .ref a0), (1, .int (oI v1))] [] (cm w) (f_X10_printRoofs_b9_b F a0   k9 v1 w) := by
  unfold f_X10_printRoofs_b9_b
  refine E_iload_n (pc := 9) hx 1 dX10_printRoofs_9 rfl rfl ?_
  refine E_aload_n (pc := 10) hx 0 dX10_printRoofs_10 rfl rfl ?_
  refine E_getR (pc := 11) hx 5 fc8 h0 rfl ⟨rfl, rfl, rfl⟩ g593 dX10_printRoofs_11 ?_
  refine I_getI (pc := 14) hx 1 1 rfl fc2 (kt_8_5 h0) rfl ⟨rfl, rfl, rfl⟩ g211 dX10_printRoofs_14 ?_
  refine E_gd (fun hr2 => ?_)
  refine I_icmp_ge (pc := 17) hx 129 dX10_printRoofs_17 rfl ⟨hr2.1, hr2.2⟩ ?_ ?_
  · refine E_aload_n (pc := 129) hx 0 dX10_printRoofs_129 rfl rfl ?_
    refine E_getR (pc := 130) hx 1 fc8 h0 rfl ⟨rfl, rfl, rfl⟩ g589 dX10_printRoofs_130 ?_
    refine I_cVI  (pc := 133) hx [] [] (ev_X0_size F (shR a0 1) (kt_8_1 h0) w) vm_X0_size fc0 (kt_8_1 h0) g624 dX10_printRoofs_133 rfl rfl (Nat.le_of_ble_eq_true rfl) (Nat.le_of_ble_eq_true rfl) (Nat.le_of_ble_eq_true rfl) (fun r3 => ?_)
    exact E_iret (pc := 136) hx dX10_printRoofs_136 rfl rfl (Nat.le_of_ble_eq_true rfl)
  refine E_iload_n (pc := 20) hx 1 dX10_printRoofs_20 rfl rfl ?_
  refine I_if_le (pc := 21) hx 33 dX10_printRoofs_21 rfl hr2.1 ?_ ?_
  · exact l_X10_printRoofs_b33 F a0 h0 hx k9 hk9 v1 w
  refine E_aload_n (pc := 24) hx 0 dX10_printRoofs_24 rfl rfl ?_
  refine E_getR (pc := 25) hx 1 fc8 h0 rfl ⟨rfl, rfl, rfl⟩ g589 dX10_printRoofs_25 ?_
  refine I_bipush (pc := 28) hx 32 dX10_printRoofs_28 rfl ?_
  refine I_cVV  (pc := 30) hx [.int (oI 32)] [] (ev_X0_add F (shR a0 1) (kt_8_1 h0) 32 w) vm_X0_add fc0 (kt_8_1 h0) g629 dX10_printRoofs_30 rfl rfl (Nat.le_of_ble_eq_true rfl) (Nat.le_of_ble_eq_true rfl) (Nat.le_of_ble_eq_true rfl) (fun w14 => ?_)
  exact l_X10_printRoofs_b33 F a0 h0 hx k9 hk9 v1 w14
theorem l_X10_printRoofs_b9 {x : Cx} (F : Nat) (a0 : Nat) (h0 : shK a0 = 10 + 8)  (hx : CxOK x RX10 cX10_printRoofs 3 3 0 (some .int))  : ∀ (n : Nat) (v1 : Int) (w : aI), En x jvIW 0 0 9 [(0, .ref a0), (1, .int (oI v1))] [] (cm w) (f_X10_printRoofs_b9 F a0   n v1 w) := by
  intro n
  induction n with
  | zero => intro v1 w; exact E_none
  | succ n ih => intro v1 w; exact l_X10_printRoofs_b9_b F a0 h0  hx  _ ih v1 w
set_option maxHeartbeats 4000000 in
set_option maxRecDepth 100000 in
theorem ev_X10_printRoofs (F : Nat) (a0 : Nat) (h0 : shK a0 = 10 + 8) (w : aI) : Ev yX10_printRoofs cX10_printRoofs 3 (some .int) 3 0 jvIW [.ref a0] (cm w) (f_X10_printRoofs F a0 w) := by
  refine Ev.of (own := RX10) (by decide +kernel) rfl (Nat.le_of_ble_eq_true rfl) (fun x hx => ?_)
  show En x jvIW 0 0 0 [(0, .ref a0)] [] (cm w) _
  unfold f_X10_printRoofs
  refine E_aload_n (pc := 0) hx 0 dX10_printRoofs_0 rfl rfl ?_
  refine E_getR (pc := 1) hx 1 fc8 h0 rfl ⟨rfl, rfl, rfl⟩ g589 dX10_printRoofs_1 ?_
  refine I_cVV  (pc := 4) hx [] [] (ev_X0_clear F (shR a0 1) (kt_8_1 h0) w) vm_X0_clear fc0 (kt_8_1 h0) g584 dX10_printRoofs_4 rfl rfl (Nat.le_of_ble_eq_true rfl) (Nat.le_of_ble_eq_true rfl) (Nat.le_of_ble_eq_true rfl) (fun w1 => ?_)
  refine I_iconst (pc := 7) hx 0 dX10_printRoofs_7 ?_
  refine E_istore_n (pc := 8) hx dX10_printRoofs_8 rfl (Nat.le_of_ble_eq_true rfl) rfl ?_
  refine En.sub [1, 0] rfl ?_
  exact l_X10_printRoofs_b9 F a0 h0 hx F 0 w1
set_option maxHeartbeats 4000000 in
set_option maxRecDepth 100000 in
theorem l_X10_printTune_b57_b {x : Cx} (F : Nat) (a0 : Nat) (h0 : shK a0 = 10 + 8) (p1 : Int)  (hx : CxOK x RX10 cX10_printTune 6 7 1 (some .int))  (k57 : Int → Int → Int → Int → aI → Option ((Int ⊕ String) × aI)) (hk57 : ∀ (v2 : Int) (v3 : Int) (v4 : Int) (v5 : Int) (w : aI), En x jvT 1 1 57 [(0, .ref a0), (1, .int (oI p1)), (2, .int (oI v2)), (3, .int (oI v3)), (4, .int (oI v4)), (5, .int (oI v5))] [] (cm w) (k57 v2 v3 v4 v5 w)) (v2 : Int) (v3 : Int) (v4 : Int) (v5 : Int) (w : aI) : En x jvT 1 1 57 [(0, .ref a0), (1, .int (oI p1)), (2, .int (oI v2)), (3, .int (oI v3)), (4, .int (oI v4)), (5, .int (oI v5))] [] (cm w) (f_X10_printTune_b57_b F a0 p1   k57 v2 v3 v4 v5 w) := by
  unfold f_X10_printTune_b57_b
  refine E_iload (pc := 57) hx 5 dX10_printTune_57 rfl ?_
  refine E_iload_n (pc := 59) hx 2 dX10_printTune_59 rfl rfl ?_
  refine E_gd (fun hr5 => ?_)
  refine I_icmp_ge (pc := 60) hx 108 dX10_printTune_60 rfl ⟨hr5.1, hr5.2⟩ ?_ ?_
  · refine E_aload_n (pc := 108) hx 0 dX10_printTune_108 rfl rfl ?_
    refine E_getR (pc := 109) hx 1 fc8 h0 rfl ⟨rfl, rfl, rfl⟩ g589 dX10_printTune_109 ?_
    refine I_bipush (pc := 112) hx 62 dX10_printTune_112 rfl ?_
    refine I_cVV  (pc := 114) hx [.int (oI 62)] [] (ev_X0_add F (shR a0 1) (kt_8_1 h0) 62 w) vm_X0_add fc0 (kt_8_1 h0) g629 dX10_printTune_114 rfl rfl (Nat.le_of_ble_eq_true rfl) (Nat.le_of_ble_eq_true rfl) (Nat.le_of_ble_eq_true rfl) (fun w6 => ?_)
    refine E_aload_n (pc := 117) hx 0 dX10_printTune_117 rfl rfl ?_
    refine E_aload_n (pc := 118) hx 0 dX10_printTune_118 rfl rfl ?_
    refine E_getR (pc := 119) hx 5 fc8 h0 rfl ⟨rfl, rfl, rfl⟩ g593 dX10_printTune_119 ?_
    refine E_getR (pc := 122) hx 6 fc2 (kt_8_5 h0) rfl ⟨rfl, rfl, rfl⟩ g232 dX10_printTune_122 ?_
    refine E_iload_n (pc := 125) hx 1 dX10_printTune_125 rfl rfl ?_
    refine I_iconst (pc := 126) hx 1 dX10_printTune_126 ?_
    refine I_cVI  (pc := 127) hx [.int (oI p1), .int (oI 1)] [.ref a0] (ev_X7_get F (shR (shR a0 5) 6) (kt_2_6 (kt_8_5 h0)) p1 1 w6) vm_X7_get fc6 (kt_2_6 (kt_8_5 h0)) g705 dX10_printTune_127 rfl rfl (Nat.le_of_ble_eq_true rfl) (Nat.le_of_ble_eq_true rfl) (Nat.le_of_ble_eq_true rfl) (fun r7 => ?_)
    refine I_cVV  (pc := 130) hx [.int (oI r7)] [] (ev_X10_writeName F a0 h0 r7 w6) vm_X10_writeName fc8 h0 g897 dX10_printTune_130 rfl rfl (Nat.le_of_ble_eq_true rfl) (Nat.le_of_ble_eq_true rfl) (Nat.le_of_ble_eq_true rfl) (fun w8 => ?_)
    refine E_aload_n (pc := 133) hx 0 dX10_printTune_133 rfl rfl ?_
    refine E_getR (pc := 134) hx 1 fc8 h0 rfl ⟨rfl, rfl, rfl⟩ g589 dX10_printTune_134 ?_
    refine I_cVI  (pc := 137) hx [] [] (ev_X0_size F (shR a0 1) (kt_8_1 h0) w8) vm_X0_size fc0 (kt_8_1 h0) g624 dX10_printTune_137 rfl rfl (Nat.le_of_ble_eq_true rfl) (Nat.le_of_ble_eq_true rfl) (Nat.le_of_ble_eq_true rfl) (fun r9 => ?_)
    exact E_iret (pc := 140) hx dX10_printTune_140 rfl rfl (Nat.le_of_ble_eq_true rfl)
  refine E_aload_n (pc := 63) hx 0 dX10_printTune_63 rfl rfl ?_
  refine E_getR (pc := 64) hx 1 fc8 h0 rfl ⟨rfl, rfl, rfl⟩ g589 dX10_printTune_64 ?_
  refine E_iload (pc := 67) hx 4 dX10_printTune_67 rfl ?_
  refine E_iload (pc := 69) hx 5 dX10_printTune_69 rfl ?_
  refine I_cSI  (pc := 71) hx [.int (oI v4), .int (oI v5)] [.ref (shR a0 1)] (ev_X10_noteOf F v4 v5 w) sm_X10_noteOf g1121 dX10_printTune_71 rfl rfl (Nat.le_of_ble_eq_true rfl) (Nat.le_of_ble_eq_true rfl) (Nat.le_of_ble_eq_true rfl) (fun r10 => ?_)
  refine I_cVV  (pc := 74) hx [.int (oI r10)] [] (ev_X0_addNumber F (shR a0 1) (kt_8_1 h0) r10 w) vm_X0_addNumber fc0 (kt_8_1 h0) g905 dX10_printTune_74 rfl rfl (Nat.le_of_ble_eq_true rfl) (Nat.le_of_ble_eq_true rfl) (Nat.le_of_ble_eq_true rfl) (fun w11 => ?_)
  refine E_iload (pc := 77) hx 4 dX10_printTune_77 rfl ?_
  refine E_iload (pc := 79) hx 5 dX10_printTune_79 rfl ?_
  refine I_cSI  (pc := 81) hx [.int (oI v4), .int (oI v5)] [] (ev_X10_noteOf F v4 v5 w11) sm_X10_noteOf g1121 dX10_printTune_81 rfl rfl (Nat.le_of_ble_eq_true rfl) (Nat.le_of_ble_eq_true rfl) (Nat.le_of_ble_eq_true rfl) (fun r12 => ?_)
  refine E_iload_n (pc := 84) hx 3 dX10_printTune_84 rfl rfl ?_
  refine E_iload (pc := 85) hx 5 dX10_printTune_85 rfl ?_
  refine I_cSI  (pc := 87) hx [.int (oI v3), .int (oI v5)] [.int (oI r12)] (ev_X10_noteOf F v3 v5 w11) sm_X10_noteOf g1121 dX10_printTune_87 rfl rfl (Nat.le_of_ble_eq_true rfl) (Nat.le_of_ble_eq_true rfl) (Nat.le_of_ble_eq_true rfl) (fun r13 => ?_)
  refine E_gd (fun hr14 => ?_)
  refine I_icmp_eq (pc := 90) hx 102 dX10_printTune_90 rfl ⟨hr14.1, hr14.2⟩ ?_ ?_
  · refine I_iinc (pc := 102) hx 1 5 dX10_printTune_102 rfl (Nat.le_of_ble_eq_true rfl) rfl ?_
    refine E_goto (pc := 105) hx 57 dX10_printTune_105 rfl ?_
    refine En.sub [1, 2, 3, 4, 5, 0] rfl ?_
    exact hk57 v2 v3 v4 (v5 + 1) w11
  refine E_aload_n (pc := 93) hx 0 dX10_printTune_93 rfl rfl ?_
  refine E_getR (pc := 94) hx 1 fc8 h0 rfl ⟨rfl, rfl, rfl⟩ g589 dX10_printTune_94 ?_
  refine I_bipush (pc := 97) hx 39 dX10_printTune_97 rfl ?_
  refine I_cVV  (pc := 99) hx [.int (oI 39)] [] (ev_X0_add F (shR a0 1) (kt_8_1 h0) 39 w11) vm_X0_add fc0 (kt_8_1 h0) g629 dX10_printTune_99 rfl rfl (Nat.le_of_ble_eq_true rfl) (Nat.le_of_ble_eq_true rfl) (Nat.le_of_ble_eq_true rfl) (fun w15 => ?_)
  refine I_iinc (pc := 102) hx 1 5 dX10_printTune_102 rfl (Nat.le_of_ble_eq_true rfl) rfl ?_
  refine E_goto (pc := 105) hx 57 dX10_printTune_105 rfl ?_
  refine En.sub [1, 2, 3, 4, 5, 0] rfl ?_
  exact hk57 v2 v3 v4 (v5 + 1) w15
theorem l_X10_printTune_b57 {x : Cx} (F : Nat) (a0 : Nat) (h0 : shK a0 = 10 + 8) (p1 : Int)  (hx : CxOK x RX10 cX10_printTune 6 7 1 (some .int))  : ∀ (n : Nat) (v2 : Int) (v3 : Int) (v4 : Int) (v5 : Int) (w : aI), En x jvT 1 1 57 [(0, .ref a0), (1, .int (oI p1)), (2, .int (oI v2)), (3, .int (oI v3)), (4, .int (oI v4)), (5, .int (oI v5))] [] (cm w) (f_X10_printTune_b57 F a0 p1   n v2 v3 v4 v5 w) := by
  intro n
  induction n with
  | zero => intro v2 v3 v4 v5 w; exact E_none
  | succ n ih => intro v2 v3 v4 v5 w; exact l_X10_printTune_b57_b F a0 h0 p1  hx  _ ih v2 v3 v4 v5 w
set_option maxHeartbeats 4000000 in
set_option maxRecDepth 100000 in
theorem ev_X10_printTune (F : Nat) (a0 : Nat) (h0 : shK a0 = 10 + 8) (p1 : Int) (w : aI) : Ev yX10_printTune cX10_printTune 6 (some .int) 7 1 jvT [.ref a0, .int (oI p1)] (cm w) (f_X10_printTune F a0 p1 w) := by
  refine Ev.of (own := RX10) (by decide +kernel) rfl (Nat.le_of_ble_eq_true rfl) (fun x hx => ?_)
  show En x jvT 1 0 0 [(0, .ref a0), (1, .int (oI p1))] [] (cm w) _
  unfold f_X10_printTune
  refine E_aload_n (pc := 0) hx 0 dX10_printTune_0 rfl rfl ?_
  refine E_iload_n (pc := 1) hx 1 dX10_printTune_1 rfl rfl ?_
  refine I_cVN (hcv := rfl) (pc := 2) hx [.int (oI p1)] [] (ev_X10_needTune F a0 h0 p1 w) vm_X10_needTune fc8 h0 g1100 dX10_printTune_2 rfl rfl (Nat.le_of_ble_eq_true rfl) (Nat.le_of_ble_eq_true rfl) (Nat.le_of_ble_eq_true rfl) ?_
  refine E_aload_n (pc := 5) hx 0 dX10_printTune_5 rfl rfl ?_
  refine E_getR (pc := 6) hx 1 fc8 h0 rfl ⟨rfl, rfl, rfl⟩ g589 dX10_printTune_6 ?_
  refine I_cVV  (pc := 9) hx [] [] (ev_X0_clear F (shR a0 1) (kt_8_1 h0) w) vm_X0_clear fc0 (kt_8_1 h0) g584 dX10_printTune_9 rfl rfl (Nat.le_of_ble_eq_true rfl) (Nat.le_of_ble_eq_true rfl) (Nat.le_of_ble_eq_true rfl) (fun w1 => ?_)
  refine E_aload_n (pc := 12) hx 0 dX10_printTune_12 rfl rfl ?_
  refine E_getR (pc := 13) hx 5 fc8 h0 rfl ⟨rfl, rfl, rfl⟩ g593 dX10_printTune_13 ?_
  refine E_getR (pc := 16) hx 6 fc2 (kt_8_5 h0) rfl ⟨rfl, rfl, rfl⟩ g232 dX10_printTune_16 ?_
  refine E_iload_n (pc := 19) hx 1 dX10_printTune_19 rfl rfl ?_
  refine I_iconst (pc := 20) hx 2 dX10_printTune_20 ?_
  refine I_cVI  (pc := 21) hx [.int (oI p1), .int (oI 2)] [] (ev_X7_get F (shR (shR a0 5) 6) (kt_2_6 (kt_8_5 h0)) p1 2 w1) vm_X7_get fc6 (kt_2_6 (kt_8_5 h0)) g705 dX10_printTune_21 rfl rfl (Nat.le_of_ble_eq_true rfl) (Nat.le_of_ble_eq_true rfl) (Nat.le_of_ble_eq_true rfl) (fun r2 => ?_)
  refine E_istore_n (pc := 24) hx dX10_printTune_24 rfl (Nat.le_of_ble_eq_true rfl) rfl ?_
  refine E_aload_n (pc := 25) hx 1 dX10_printTune_25 rfl rfl ?_
  refine E_getR (pc := 26) hx 5 fc8 h0 rfl ⟨rfl, rfl, rfl⟩ g593 dX10_printTune_26 ?_
  refine E_getR (pc := 29) hx 6 fc2 (kt_8_5 h0) rfl ⟨rfl, rfl, rfl⟩ g232 dX10_printTune_29 ?_
  refine E_iload_n (pc := 32) hx 2 dX10_printTune_32 rfl rfl ?_
  refine I_bipush (pc := 33) hx 9 dX10_printTune_33 rfl ?_
  refine I_cVI  (pc := 35) hx [.int (oI p1), .int (oI 9)] [] (ev_X7_get F (shR (shR a0 5) 6) (kt_2_6 (kt_8_5 h0)) p1 9 w1) vm_X7_get fc6 (kt_2_6 (kt_8_5 h0)) g705 dX10_printTune_35 rfl rfl (Nat.le_of_ble_eq_true rfl) (Nat.le_of_ble_eq_true rfl) (Nat.le_of_ble_eq_true rfl) (fun r3 => ?_)
  refine E_istore_n (pc := 38) hx dX10_printTune_38 rfl (Nat.le_of_ble_eq_true rfl) rfl ?_
  refine E_aload_n (pc := 39) hx 2 dX10_printTune_39 rfl rfl ?_
  refine E_getR (pc := 40) hx 5 fc8 h0 rfl ⟨rfl, rfl, rfl⟩ g593 dX10_printTune_40 ?_
  refine E_getR (pc := 43) hx 6 fc2 (kt_8_5 h0) rfl ⟨rfl, rfl, rfl⟩ g232 dX10_printTune_43 ?_
  refine E_iload_n (pc := 46) hx 3 dX10_printTune_46 rfl rfl ?_
  refine I_bipush (pc := 47) hx 10 dX10_printTune_47 rfl ?_
  refine I_cVI  (pc := 49) hx [.int (oI p1), .int (oI 10)] [] (ev_X7_get F (shR (shR a0 5) 6) (kt_2_6 (kt_8_5 h0)) p1 10 w1) vm_X7_get fc6 (kt_2_6 (kt_8_5 h0)) g705 dX10_printTune_49 rfl rfl (Nat.le_of_ble_eq_true rfl) (Nat.le_of_ble_eq_true rfl) (Nat.le_of_ble_eq_true rfl) (fun r4 => ?_)
  refine E_istore (pc := 52) hx dX10_printTune_52 (Nat.le_of_ble_eq_true rfl) rfl ?_
  refine I_iconst (pc := 54) hx 0 dX10_printTune_54 ?_
  refine E_istore (pc := 55) hx dX10_printTune_55 (Nat.le_of_ble_eq_true rfl) rfl ?_
  refine En.sub [4, 5, 3, 2, 1, 0] rfl ?_
  exact l_X10_printTune_b57 F a0 h0 p1 hx F r2 r3 r4 0 w1
set_option maxHeartbeats 4000000 in
set_option maxRecDepth 100000 in
theorem ev_X10_outputByte (F : Nat) (a0 : Nat) (h0 : shK a0 = 10 + 8) (p1 : Int) (w : aI) : Ev yX10_outputByte cX10_outputByte 2 (some .int) 1 0 (jvI w) [.ref a0, .int (oI p1)] (cm w) (f_X10_outputByte F a0 p1 w) := by
  refine Ev.of (own := RX10) (by decide +kernel) rfl (Nat.le_of_ble_eq_true rfl) (fun x hx => ?_)
  show En x (jvI w) 0 0 0 [(0, .ref a0), (1, .int (oI p1))] [] (cm w) _
  unfold f_X10_outputByte
  refine E_aload_n (pc := 0) hx 0 dX10_outputByte_0 rfl rfl ?_
  refine E_getR (pc := 1) hx 1 fc8 h0 rfl ⟨rfl, rfl, rfl⟩ g589 dX10_outputByte_1 ?_
  refine E_iload_n (pc := 4) hx 1 dX10_outputByte_4 rfl rfl ?_
  refine I_cVI  (pc := 5) hx [.int (oI p1)] [] (ev_X0_get F (shR a0 1) (kt_8_1 h0) p1 w) vm_X0_get fc0 (kt_8_1 h0) g919 dX10_outputByte_5 rfl rfl (Nat.le_of_ble_eq_true rfl) (Nat.le_of_ble_eq_true rfl) (Nat.le_of_ble_eq_true rfl) (fun r1 => ?_)
  exact E_iret (pc := 8) hx dX10_outputByte_8 rfl rfl (Nat.le_of_ble_eq_true rfl)
set_option maxHeartbeats 4000000 in
set_option maxRecDepth 100000 in
theorem ev_X10_saveState (F : Nat) (a0 : Nat) (h0 : shK a0 = 10 + 8) (w : aI) : Ev yX10_saveState cX10_saveState 1 (some .int) 6 0 jvIW [.ref a0] (cm w) (f_X10_saveState F a0 w) := by
  refine Ev.of (own := RX10) (by decide +kernel) rfl (Nat.le_of_ble_eq_true rfl) (fun x hx => ?_)
  show En x jvIW 0 0 0 [(0, .ref a0)] [] (cm w) _
  unfold f_X10_saveState
  refine E_aload_n (pc := 0) hx 0 dX10_saveState_0 rfl rfl ?_
  refine E_getR (pc := 1) hx 6 fc8 h0 rfl ⟨rfl, rfl, rfl⟩ g594 dX10_saveState_1 ?_
  refine E_aload_n (pc := 4) hx 0 dX10_saveState_4 rfl rfl ?_
  refine E_getR (pc := 5) hx 5 fc8 h0 rfl ⟨rfl, rfl, rfl⟩ g593 dX10_saveState_5 ?_
  refine I_cVV  (pc := 8) hx [.ref (shR a0 5)] [] (ev_X2_copyFrom F (shR a0 6) (kt_8_6 h0) (shR a0 5) (kt_8_5 h0) w) vm_X2_copyFrom fc2 (kt_8_6 h0) g565 dX10_saveState_8 rfl rfl (Nat.le_of_ble_eq_true rfl) (Nat.le_of_ble_eq_true rfl) (Nat.le_of_ble_eq_true rfl) (fun w1 => ?_)
  refine E_aload_n (pc := 11) hx 0 dX10_saveState_11 rfl rfl ?_
  refine I_iconst (pc := 12) hx 1 dX10_saveState_12 ?_
  refine I_put (pc := 13) hx 9 9 rfl .boolean tyX10 fc8 tyX10_ok h0 rfl ⟨rfl, rfl, rfl, rfl, pfd_Z⟩ rfl rfl g597 dX10_saveState_13 (fun w2 => ?_)
  refine E_aload_n (pc := 16) hx 0 dX10_saveState_16 rfl rfl ?_
  refine E_getR (pc := 17) hx 6 fc8 h0 rfl ⟨rfl, rfl, rfl⟩ g594 dX10_saveState_17 ?_
  refine I_getI (pc := 20) hx 3 3 rfl fc2 (kt_8_6 h0) rfl ⟨rfl, rfl, rfl⟩ g219 dX10_saveState_20 ?_
  exact E_iret (pc := 23) hx dX10_saveState_23 rfl rfl (Nat.le_of_ble_eq_true rfl)
set_option maxHeartbeats 4000000 in
set_option maxRecDepth 100000 in
theorem ev_X10_restoreState (F : Nat) (a0 : Nat) (h0 : shK a0 = 10 + 8) (w : aI) : Ev yX10_restoreState cX10_restoreState 1 (some .int) 6 1 jvT [.ref a0] (cm w) (f_X10_restoreState F a0 w) := by
  refine Ev.of (own := RX10) (by decide +kernel) rfl (Nat.le_of_ble_eq_true rfl) (fun x hx => ?_)
  show En x jvT 1 0 0 [(0, .ref a0)] [] (cm w) _
  unfold f_X10_restoreState
  refine E_aload_n (pc := 0) hx 0 dX10_restoreState_0 rfl rfl ?_
  refine I_getI (pc := 1) hx 9 9 rfl fc8 h0 rfl ⟨rfl, rfl, rfl⟩ g597 dX10_restoreState_1 ?_
  refine E_gd (fun hr1 => ?_)
  refine I_if_ne (pc := 4) hx 18 dX10_restoreState_4 rfl hr1 ?_ ?_
  · refine E_aload_n (pc := 18) hx 0 dX10_restoreState_18 rfl rfl ?_
    refine E_getR (pc := 19) hx 5 fc8 h0 rfl ⟨rfl, rfl, rfl⟩ g593 dX10_restoreState_19 ?_
    refine E_aload_n (pc := 22) hx 0 dX10_restoreState_22 rfl rfl ?_
    refine E_getR (pc := 23) hx 6 fc8 h0 rfl ⟨rfl, rfl, rfl⟩ g594 dX10_restoreState_23 ?_
    refine I_cVV  (pc := 26) hx [.ref (shR a0 6)] [] (ev_X2_copyFrom F (shR a0 5) (kt_8_5 h0) (shR a0 6) (kt_8_6 h0) w) vm_X2_copyFrom fc2 (kt_8_5 h0) g565 dX10_restoreState_26 rfl rfl (Nat.le_of_ble_eq_true rfl) (Nat.le_of_ble_eq_true rfl) (Nat.le_of_ble_eq_true rfl) (fun w2 => ?_)
    refine E_aload_n (pc := 29) hx 0 dX10_restoreState_29 rfl rfl ?_
    refine E_getR (pc := 30) hx 8 fc8 h0 rfl ⟨rfl, rfl, rfl⟩ g596 dX10_restoreState_30 ?_
    refine I_cVV  (pc := 33) hx [] [] (ev_X1_forget F (shR a0 8) (kt_8_8 h0) w2) vm_X1_forget fc1 (kt_8_8 h0) g642 dX10_restoreState_33 rfl rfl (Nat.le_of_ble_eq_true rfl) (Nat.le_of_ble_eq_true rfl) (Nat.le_of_ble_eq_true rfl) (fun w3 => ?_)
    refine E_aload_n (pc := 36) hx 0 dX10_restoreState_36 rfl rfl ?_
    refine E_getR (pc := 37) hx 5 fc8 h0 rfl ⟨rfl, rfl, rfl⟩ g593 dX10_restoreState_37 ?_
    refine I_getI (pc := 40) hx 3 3 rfl fc2 (kt_8_5 h0) rfl ⟨rfl, rfl, rfl⟩ g219 dX10_restoreState_40 ?_
    exact E_iret (pc := 43) hx dX10_restoreState_43 rfl rfl (Nat.le_of_ble_eq_true rfl)
  exact E_thrwN (pc := 7) hx (i := 8) (text := (xStr.getD 8 ("", 0, "", 0)).2.2.1) xtN (by decide +kernel) dX10_restoreState_7 dX10_restoreState_10 dX10_restoreState_11 dX10_restoreState_14 dX10_restoreState_17 (Nat.le_of_ble_eq_true rfl) (Nat.le_of_ble_eq_true rfl) (Nat.le_of_ble_eq_true rfl) rfl
set_option maxHeartbeats 4000000 in
set_option maxRecDepth 100000 in
theorem ev_X11_thrown (F : Nat) (a0 : Nat) (h0 : shK a0 = 10 + 9) (w : aI) : Ev yX11_thrown cX11_thrown 1 (some .int) 0 0 (jvI w) [.ref a0] (cm w) (f_X11_thrown F a0 w) := by
  refine Ev.of (own := RX11) (by decide +kernel) rfl (Nat.le_of_ble_eq_true rfl) (fun x hx => ?_)
  show En x (jvI w) 0 0 0 [(0, .ref a0)] [] (cm w) _
  unfold f_X11_thrown
  refine E_aload_n (pc := 0) hx 0 dX11_thrown_0 rfl rfl ?_
  refine I_getI (pc := 1) hx 6 6 rfl fc9 h0 rfl ⟨rfl, rfl, rfl⟩ g1338 dX11_thrown_1 ?_
  exact E_iret (pc := 4) hx dX11_thrown_4 rfl rfl (Nat.le_of_ble_eq_true rfl)
set_option maxHeartbeats 4000000 in
set_option maxRecDepth 100000 in
theorem ev_X11_in (F : Nat) (p0 : Int) (p2 : Int) (p4 : Int) (w : aI) : Ev yX11_in cX11_in 6 (some .boolean) 0 0 (jvB w) [.long (oL p0), .long (oL p2), .long (oL p4)] (cm w) (f_X11_in F p0 p2 p4 w) := by
  refine Ev.of (own := RX11) (by decide +kernel) rfl (Nat.le_of_ble_eq_true rfl) (fun x hx => ?_)
  show En x (jvB w) 0 0 0 [(0, .long (oL p0)), (2, .long (oL p2)), (4, .long (oL p4))] [] (cm w) _
  unfold f_X11_in
  refine E_lload_n (pc := 0) hx 0 dX11_in_0 rfl rfl ?_
  refine E_lload_n (pc := 1) hx 1 dX11_in_1 rfl rfl ?_
  refine E_gd (fun hl1 => ?_)
  refine E_gd (fun hl2 => ?_)
  refine I_lcmp (pc := 2) hx dX11_in_2 ⟨hl1, hl2⟩ ?_
  refine I_if_lt (pc := 3) hx 17 dX11_in_3 rfl (lcmp_rg _ _) ?_ ?_
  · refine I_iconst (pc := 17) hx 0 dX11_in_17 ?_
    exact E_zret (pc := 18) hx dX11_in_18 rfl rfl rfl (Nat.le_of_ble_eq_true rfl)
  refine E_lload_n (pc := 6) hx 0 dX11_in_6 rfl rfl ?_
  refine E_lload (pc := 7) hx 2 dX11_in_7 rfl ?_
  refine E_gd (fun hl3 => ?_)
  refine E_gd (fun hl4 => ?_)
  refine I_lcmp (pc := 9) hx dX11_in_9 ⟨hl3, hl4⟩ ?_
  refine I_if_gt (pc := 10) hx 17 dX11_in_10 rfl (lcmp_rg _ _) ?_ ?_
  · refine I_iconst (pc := 17) hx 0 dX11_in_17 ?_
    exact E_zret (pc := 18) hx dX11_in_18 rfl rfl rfl (Nat.le_of_ble_eq_true rfl)
  refine I_iconst (pc := 13) hx 1 dX11_in_13 ?_
  refine E_goto (pc := 14) hx 18 dX11_in_14 rfl ?_
  exact E_zret (pc := 18) hx dX11_in_18 rfl rfl rfl (Nat.le_of_ble_eq_true rfl)
set_option maxHeartbeats 4000000 in
set_option maxRecDepth 100000 in
theorem ev_X11_one (F : Nat) (p0 : Int) (w : aI) : Ev yX11_one cX11_one 1 (some .int) 0 0 (jvI w) [.int (oI p0)] (cm w) (f_X11_one F p0 w) := by
  refine Ev.of (own := RX11) (by decide +kernel) rfl (Nat.le_of_ble_eq_true rfl) (fun x hx => ?_)
  show En x (jvI w) 0 0 0 [(0, .int (oI p0))] [] (cm w) _
  unfold f_X11_one
  refine E_iload_n (pc := 0) hx 0 dX11_one_0 rfl rfl ?_
  refine E_gd (fun hr1 => ?_)
  refine I_if_eq (pc := 1) hx 8 dX11_one_1 rfl hr1 ?_ ?_
  · refine I_iconst (pc := 8) hx 0 dX11_one_8 ?_
    exact E_iret (pc := 9) hx dX11_one_9 rfl rfl (Nat.le_of_ble_eq_true rfl)
  refine I_iconst (pc := 4) hx 1 dX11_one_4 ?_
  refine E_goto (pc := 5) hx 9 dX11_one_5 rfl ?_
  exact E_iret (pc := 9) hx dX11_one_9 rfl rfl (Nat.le_of_ble_eq_true rfl)
set_option maxHeartbeats 4000000 in
set_option maxRecDepth 100000 in
theorem l_X11_may_b26 {x : Cx} (F : Nat) (a0 : Nat) (h0 : shK a0 = 10 + 9) (p1 : Int) (p2 : Int) (p3 : Int)  (hx : CxOK x RX11 cX11_may 4 0 0 (some .boolean))   (z0 : Int) (z1 : Nat) (hz1 : shK z1 = 10 + 9) (w : aI) : En x jvBW 0 0 26 [(0, .ref a0)] [.int (oI z0), .ref z1] (cm w) (f_X11_may_b26 F a0 p1 p2 p3    z0 z1 w) := by
  unfold f_X11_may_b26
  refine I_put (pc := 26) hx 6 6 rfl .int tyX11 fc9 tyX11_ok hz1 rfl ⟨rfl, rfl, rfl, rfl, pfd_I⟩ rfl rfl g1338 dX11_may_26 (fun w4 => ?_)
  refine E_aload_n (pc := 29) hx 0 dX11_may_29 rfl rfl ?_
  refine I_getI (pc := 30) hx 6 6 rfl fc9 h0 rfl ⟨rfl, rfl, rfl⟩ g1338 dX11_may_30 ?_
  refine E_gd (fun hr5 => ?_)
  refine I_if_ne (pc := 33) hx 40 dX11_may_33 rfl hr5 ?_ ?_
  · refine I_iconst (pc := 40) hx 0 dX11_may_40 ?_
    exact E_zret (pc := 41) hx dX11_may_41 rfl rfl rfl (Nat.le_of_ble_eq_true rfl)
  refine I_iconst (pc := 36) hx 1 dX11_may_36 ?_
  refine E_goto (pc := 37) hx 41 dX11_may_37 rfl ?_
  exact E_zret (pc := 41) hx dX11_may_41 rfl rfl rfl (Nat.le_of_ble_eq_true rfl)
set_option maxHeartbeats 4000000 in
set_option maxRecDepth 100000 in
theorem ev_X11_may (F : Nat) (a0 : Nat) (h0 : shK a0 = 10 + 9) (p1 : Int) (p2 : Int) (p3 : Int) (w : aI) : Ev yX11_may cX11_may 4 (some .boolean) 0 0 jvBW [.ref a0, .int (oI p1), .int (oI p2), .int (oI p3)] (cm w) (f_X11_may F a0 p1 p2 p3 w) := by
  refine Ev.of (own := RX11) (by decide +kernel) rfl (Nat.le_of_ble_eq_true rfl) (fun x hx => ?_)
  show En x jvBW 0 0 0 [(0, .ref a0), (1, .int (oI p1)), (2, .int (oI p2)), (3, .int (oI p3))] [] (cm w) _
  unfold f_X11_may
  refine E_aload_n (pc := 0) hx 0 dX11_may_0 rfl rfl ?_
  refine E_iload_n (pc := 1) hx 1 dX11_may_1 rfl rfl ?_
  refine E_gd (fun hr1 => ?_)
  refine I_if_ne (pc := 2) hx 9 dX11_may_2 rfl hr1 ?_ ?_
  · refine E_iload_n (pc := 9) hx 2 dX11_may_9 rfl rfl ?_
    refine E_gd (fun hr2 => ?_)
    refine I_if_ne (pc := 10) hx 17 dX11_may_10 rfl hr2 ?_ ?_
    · refine E_iload_n (pc := 17) hx 3 dX11_may_17 rfl rfl ?_
      refine E_gd (fun hr3 => ?_)
      refine I_if_ne (pc := 18) hx 25 dX11_may_18 rfl hr3 ?_ ?_
      · refine I_iconst (pc := 25) hx 0 dX11_may_25 ?_
        refine En.sub [0] rfl ?_
        exact l_X11_may_b26 F a0 h0 p1 p2 p3 hx 0 a0 h0 w
      refine I_iconst (pc := 21) hx 3 dX11_may_21 ?_
      refine E_goto (pc := 22) hx 26 dX11_may_22 rfl ?_
      refine En.sub [0] rfl ?_
      exact l_X11_may_b26 F a0 h0 p1 p2 p3 hx 3 a0 h0 w
    refine I_iconst (pc := 13) hx 2 dX11_may_13 ?_
    refine E_goto (pc := 14) hx 26 dX11_may_14 rfl ?_
    refine En.sub [0] rfl ?_
    exact l_X11_may_b26 F a0 h0 p1 p2 p3 hx 2 a0 h0 w
  refine I_iconst (pc := 5) hx 1 dX11_may_5 ?_
  refine E_goto (pc := 6) hx 26 dX11_may_6 rfl ?_
  refine En.sub [0] rfl ?_
  exact l_X11_may_b26 F a0 h0 p1 p2 p3 hx 1 a0 h0 w
set_option maxHeartbeats 4000000 in
set_option maxRecDepth 100000 in
theorem ev_X11_r (F : Nat) (p0 : Int) (w : aI) : Ev yX11_r cX11_r 1 (some .int) 0 0 (jvI w) [.int (oI p0)] (cm w) (f_X11_r F p0 w) := by
  refine Ev.of (own := RX11) (by decide +kernel) rfl (Nat.le_of_ble_eq_true rfl) (fun x hx => ?_)
  show En x (jvI w) 0 0 0 [(0, .int (oI p0))] [] (cm w) _
  unfold f_X11_r
  refine I_bipush (pc := 0) hx 25 dX11_r_0 rfl ?_
  refine I_bipush (pc := 2) hx 13 dX11_r_2 rfl ?_
  refine E_iload_n (pc := 4) hx 0 dX11_r_4 rfl rfl ?_
  refine I_imul (pc := 5) hx dX11_r_5 ?_
  refine I_iadd (pc := 6) hx dX11_r_6 ?_
  exact E_iret (pc := 7) hx dX11_r_7 rfl rfl (Nat.le_of_ble_eq_true rfl)
set_option maxHeartbeats 4000000 in
set_option maxRecDepth 100000 in
theorem ev_X11_w (F : Nat) (p0 : Int) (w : aI) : Ev yX11_w cX11_w 1 (some .int) 0 0 (jvI w) [.int (oI p0)] (cm w) (f_X11_w F p0 w) := by
  refine Ev.of (own := RX11) (by decide +kernel) rfl (Nat.le_of_ble_eq_true rfl) (fun x hx => ?_)
  show En x (jvI w) 0 0 0 [(0, .int (oI p0))] [] (cm w) _
  unfold f_X11_w
  refine I_sipush (pc := 0) hx 160 dX11_w_0 rfl ?_
  refine I_iconst (pc := 3) hx 3 dX11_w_3 ?_
  refine E_iload_n (pc := 4) hx 0 dX11_w_4 rfl rfl ?_
  refine I_imul (pc := 5) hx dX11_w_5 ?_
  refine I_iadd (pc := 6) hx dX11_w_6 ?_
  exact E_iret (pc := 7) hx dX11_w_7 rfl rfl (Nat.le_of_ble_eq_true rfl)
set_option maxHeartbeats 4000000 in
set_option maxRecDepth 100000 in
theorem ev_X11_t (F : Nat) (p0 : Int) (w : aI) : Ev yX11_t cX11_t 1 (some .int) 0 0 (jvI w) [.int (oI p0)] (cm w) (f_X11_t F p0 w) := by
  refine Ev.of (own := RX11) (by decide +kernel) rfl (Nat.le_of_ble_eq_true rfl) (fun x hx => ?_)
  show En x (jvI w) 0 0 0 [(0, .int (oI p0))] [] (cm w) _
  unfold f_X11_t
  refine I_sipush (pc := 0) hx 220 dX11_t_0 rfl ?_
  refine I_bipush (pc := 3) hx 27 dX11_t_3 rfl ?_
  refine E_iload_n (pc := 5) hx 0 dX11_t_5 rfl rfl ?_
  refine I_imul (pc := 6) hx dX11_t_6 ?_
  refine I_iadd (pc := 7) hx dX11_t_7 ?_
  exact E_iret (pc := 8) hx dX11_t_8 rfl rfl (Nat.le_of_ble_eq_true rfl)
set_option maxHeartbeats 4000000 in
set_option maxRecDepth 100000 in
theorem ev_X11_counts (F : Nat) (a0 : Nat) (h0 : shK a0 = 10 + 9) (p1 : Int) (p2 : Int) (w : aI) : Ev yX11_counts cX11_counts 3 none 0 0 jvV [.ref a0, .int (oI p1), .int (oI p2)] (cm w) (f_X11_counts F a0 p1 p2 w) := by
  refine Ev.of (own := RX11) (by decide +kernel) rfl (Nat.le_of_ble_eq_true rfl) (fun x hx => ?_)
  show En x jvV 0 0 0 [(0, .ref a0), (1, .int (oI p1)), (2, .int (oI p2))] [] (cm w) _
  unfold f_X11_counts
  refine E_aload_n (pc := 0) hx 0 dX11_counts_0 rfl rfl ?_
  refine E_getR (pc := 1) hx 0 fc9 h0 rfl ⟨rfl, rfl, rfl⟩ g1332 dX11_counts_1 ?_
  refine I_bipush (pc := 4) hx 10 dX11_counts_4 rfl ?_
  refine E_iload_n (pc := 6) hx 1 dX11_counts_6 rfl rfl ?_
  refine I_iadd (pc := 7) hx dX11_counts_7 ?_
  refine I_ltv (fun u1 => ?_)
  refine E_dup2 (pc := 8) hx dX11_counts_8 rfl rfl ?_
  refine I_iald (pc := 9) hx (kt_9_0 h0) dX11_counts_9 ?_
  refine E_iload_n (pc := 10) hx 2 dX11_counts_10 rfl rfl ?_
  refine I_iadd (pc := 11) hx dX11_counts_11 ?_
  refine I_iast (pc := 12) hx (kt_9_0 h0) dX11_counts_12 (fun w2 => ?_)
  exact E_vret (pc := 13) hx dX11_counts_13 rfl rfl (Nat.le_of_ble_eq_true rfl)
set_option maxHeartbeats 4000000 in
set_option maxRecDepth 100000 in
theorem l_X11_clears_b2_b {x : Cx} (F : Nat) (a0 : Nat) (h0 : shK a0 = 10 + 9)  (hx : CxOK x RX11 cX11_clears 2 0 0 none)  (k2 : Int → aI → Option aI) (hk2 : ∀ (v1 : Int) (w : aI), En x jvV 0 0 2 [(0, .ref a0), (1, .int (oI v1))] [] (cm w) (k2 v1 w)) (v1 : Int) (w : aI) : En x jvV 0 0 2 [(0, .ref a0), (1, .int (oI v1))] [] (cm w) (f_X11_clears_b2_b F a0   k2 v1 w) := by
  unfold f_X11_clears_b2_b
  refine E_iload_n (pc := 2) hx 1 dX11_clears_2 rfl rfl ?_
  refine I_sipush (pc := 3) hx 1030 dX11_clears_3 rfl ?_
  refine E_gd (fun hr1 => ?_)
  refine I_icmp_ge (pc := 6) hx 22 dX11_clears_6 rfl ⟨hr1, (by decide)⟩ ?_ ?_
  · refine E_aload_n (pc := 22) hx 0 dX11_clears_22 rfl rfl ?_
    refine E_getR (pc := 23) hx 0 fc9 h0 rfl ⟨rfl, rfl, rfl⟩ g1332 dX11_clears_23 ?_
    refine I_iconst (pc := 26) hx 4 dX11_clears_26 ?_
    refine I_iconst (pc := 27) hx 3 dX11_clears_27 ?_
    refine I_iast (pc := 28) hx (kt_9_0 h0) dX11_clears_28 (fun w2 => ?_)
    refine E_aload_n (pc := 29) hx 0 dX11_clears_29 rfl rfl ?_
    refine E_getR (pc := 30) hx 0 fc9 h0 rfl ⟨rfl, rfl, rfl⟩ g1332 dX11_clears_30 ?_
    refine I_iconst (pc := 33) hx 5 dX11_clears_33 ?_
    refine I_bipush (pc := 34) hx 50 dX11_clears_34 rfl ?_
    refine I_iast (pc := 36) hx (kt_9_0 h0) dX11_clears_36 (fun w3 => ?_)
    refine E_aload_n (pc := 37) hx 0 dX11_clears_37 rfl rfl ?_
    refine E_getR (pc := 38) hx 0 fc9 h0 rfl ⟨rfl, rfl, rfl⟩ g1332 dX11_clears_38 ?_
    refine I_bipush (pc := 41) hx 6 dX11_clears_41 rfl ?_
    refine I_iconst (pc := 43) hx 1 dX11_clears_43 ?_
    refine I_iast (pc := 44) hx (kt_9_0 h0) dX11_clears_44 (fun w4 => ?_)
    exact E_vret (pc := 45) hx dX11_clears_45 rfl rfl (Nat.le_of_ble_eq_true rfl)
  refine E_aload_n (pc := 9) hx 0 dX11_clears_9 rfl rfl ?_
  refine E_getR (pc := 10) hx 0 fc9 h0 rfl ⟨rfl, rfl, rfl⟩ g1332 dX11_clears_10 ?_
  refine E_iload_n (pc := 13) hx 1 dX11_clears_13 rfl rfl ?_
  refine I_iconst (pc := 14) hx 0 dX11_clears_14 ?_
  refine I_iast (pc := 15) hx (kt_9_0 h0) dX11_clears_15 (fun w5 => ?_)
  refine I_iinc (pc := 16) hx 1 1 dX11_clears_16 rfl (Nat.le_of_ble_eq_true rfl) rfl ?_
  refine E_goto (pc := 19) hx 2 dX11_clears_19 rfl ?_
  refine En.sub [1, 0] rfl ?_
  exact hk2 (v1 + 1) w5
theorem l_X11_clears_b2 {x : Cx} (F : Nat) (a0 : Nat) (h0 : shK a0 = 10 + 9)  (hx : CxOK x RX11 cX11_clears 2 0 0 none)  : ∀ (n : Nat) (v1 : Int) (w : aI), En x jvV 0 0 2 [(0, .ref a0), (1, .int (oI v1))] [] (cm w) (f_X11_clears_b2 F a0   n v1 w) := by
  intro n
  induction n with
  | zero => intro v1 w; exact E_none
  | succ n ih => intro v1 w; exact l_X11_clears_b2_b F a0 h0  hx  _ ih v1 w
set_option maxHeartbeats 4000000 in
set_option maxRecDepth 100000 in
theorem ev_X11_clears (F : Nat) (a0 : Nat) (h0 : shK a0 = 10 + 9) (w : aI) : Ev yX11_clears cX11_clears 2 none 0 0 jvV [.ref a0] (cm w) (f_X11_clears F a0 w) := by
  refine Ev.of (own := RX11) (by decide +kernel) rfl (Nat.le_of_ble_eq_true rfl) (fun x hx => ?_)
  show En x jvV 0 0 0 [(0, .ref a0)] [] (cm w) _
  unfold f_X11_clears
  refine I_iconst (pc := 0) hx 0 dX11_clears_0 ?_
  refine E_istore_n (pc := 1) hx dX11_clears_1 rfl (Nat.le_of_ble_eq_true rfl) rfl ?_
  refine En.sub [1, 0] rfl ?_
  exact l_X11_clears_b2 F a0 h0 hx F 0 w
set_option maxHeartbeats 4000000 in
set_option maxRecDepth 100000 in
theorem l_X11_copies_b2_b {x : Cx} (F : Nat) (a0 : Nat) (h0 : shK a0 = 10 + 9) (a1 : Nat) (h1 : shK a1 = 0)  (hx : CxOK x RX11 cX11_copies 3 0 0 none)  (k2 : Int → aI → Option aI) (hk2 : ∀ (v2 : Int) (w : aI), En x jvV 0 0 2 [(0, .ref a0), (1, .ref a1), (2, .int (oI v2))] [] (cm w) (k2 v2 w)) (v2 : Int) (w : aI) : En x jvV 0 0 2 [(0, .ref a0), (1, .ref a1), (2, .int (oI v2))] [] (cm w) (f_X11_copies_b2_b F a0 a1   k2 v2 w) := by
  unfold f_X11_copies_b2_b
  refine E_iload_n (pc := 2) hx 2 dX11_copies_2 rfl rfl ?_
  refine I_sipush (pc := 3) hx 1030 dX11_copies_3 rfl ?_
  refine E_gd (fun hr1 => ?_)
  refine I_icmp_ge (pc := 6) hx 24 dX11_copies_6 rfl ⟨hr1, (by decide)⟩ ?_ ?_
  · exact E_vret (pc := 24) hx dX11_copies_24 rfl rfl (Nat.le_of_ble_eq_true rfl)
  refine E_aload_n (pc := 9) hx 1 dX11_copies_9 rfl rfl ?_
  refine E_iload_n (pc := 10) hx 2 dX11_copies_10 rfl rfl ?_
  refine E_aload_n (pc := 11) hx 0 dX11_copies_11 rfl rfl ?_
  refine E_getR (pc := 12) hx 0 fc9 h0 rfl ⟨rfl, rfl, rfl⟩ g1332 dX11_copies_12 ?_
  refine E_iload_n (pc := 15) hx 2 dX11_copies_15 rfl rfl ?_
  refine I_iald (pc := 16) hx (kt_9_0 h0) dX11_copies_16 ?_
  refine I_iast (pc := 17) hx h1 dX11_copies_17 (fun w2 => ?_)
  refine I_iinc (pc := 18) hx 1 2 dX11_copies_18 rfl (Nat.le_of_ble_eq_true rfl) rfl ?_
  refine E_goto (pc := 21) hx 2 dX11_copies_21 rfl ?_
  refine En.sub [1, 2, 0] rfl ?_
  exact hk2 (v2 + 1) w2
theorem l_X11_copies_b2 {x : Cx} (F : Nat) (a0 : Nat) (h0 : shK a0 = 10 + 9) (a1 : Nat) (h1 : shK a1 = 0)  (hx : CxOK x RX11 cX11_copies 3 0 0 none)  : ∀ (n : Nat) (v2 : Int) (w : aI), En x jvV 0 0 2 [(0, .ref a0), (1, .ref a1), (2, .int (oI v2))] [] (cm w) (f_X11_copies_b2 F a0 a1   n v2 w) := by
  intro n
  induction n with
  | zero => intro v2 w; exact E_none
  | succ n ih => intro v2 w; exact l_X11_copies_b2_b F a0 h0 a1 h1  hx  _ ih v2 w
set_option maxHeartbeats 4000000 in
set_option maxRecDepth 100000 in
theorem ev_X11_copies (F : Nat) (a0 : Nat) (h0 : shK a0 = 10 + 9) (a1 : Nat) (h1 : shK a1 = 0) (w : aI) : Ev yX11_copies cX11_copies 3 none 0 0 jvV [.ref a0, .ref a1] (cm w) (f_X11_copies F a0 a1 w) := by
  refine Ev.of (own := RX11) (by decide +kernel) rfl (Nat.le_of_ble_eq_true rfl) (fun x hx => ?_)
  show En x jvV 0 0 0 [(0, .ref a0), (1, .ref a1)] [] (cm w) _
  unfold f_X11_copies
  refine I_iconst (pc := 0) hx 0 dX11_copies_0 ?_
  refine E_istore_n (pc := 1) hx dX11_copies_1 rfl (Nat.le_of_ble_eq_true rfl) rfl ?_
  refine En.sub [1, 2, 0] rfl ?_
  exact l_X11_copies_b2 F a0 h0 a1 h1 hx F 0 w
set_option maxHeartbeats 4000000 in
set_option maxRecDepth 100000 in
theorem l_X11_gives_b2_b {x : Cx} (F : Nat) (a0 : Nat) (h0 : shK a0 = 10 + 9) (a1 : Nat) (h1 : shK a1 = 0) (p2 : Int)  (hx : CxOK x RX11 cX11_gives 4 0 0 (some .int))  (k2 : Int → aI → Option (Int × aI)) (hk2 : ∀ (v3 : Int) (w : aI), En x jvIW 0 0 2 [(0, .ref a0), (1, .ref a1), (2, .int (oI p2)), (3, .int (oI v3))] [] (cm w) (k2 v3 w)) (v3 : Int) (w : aI) : En x jvIW 0 0 2 [(0, .ref a0), (1, .ref a1), (2, .int (oI p2)), (3, .int (oI v3))] [] (cm w) (f_X11_gives_b2_b F a0 a1 p2   k2 v3 w) := by
  unfold f_X11_gives_b2_b
  refine E_iload_n (pc := 2) hx 3 dX11_gives_2 rfl rfl ?_
  refine I_sipush (pc := 3) hx 1030 dX11_gives_3 rfl ?_
  refine E_gd (fun hr1 => ?_)
  refine I_icmp_ge (pc := 6) hx 24 dX11_gives_6 rfl ⟨hr1, (by decide)⟩ ?_ ?_
  · refine E_iload_n (pc := 24) hx 2 dX11_gives_24 rfl rfl ?_
    exact E_iret (pc := 25) hx dX11_gives_25 rfl rfl (Nat.le_of_ble_eq_true rfl)
  refine E_aload_n (pc := 9) hx 0 dX11_gives_9 rfl rfl ?_
  refine E_getR (pc := 10) hx 0 fc9 h0 rfl ⟨rfl, rfl, rfl⟩ g1332 dX11_gives_10 ?_
  refine E_iload_n (pc := 13) hx 3 dX11_gives_13 rfl rfl ?_
  refine E_aload_n (pc := 14) hx 1 dX11_gives_14 rfl rfl ?_
  refine E_iload_n (pc := 15) hx 3 dX11_gives_15 rfl rfl ?_
  refine I_iald (pc := 16) hx h1 dX11_gives_16 ?_
  refine I_iast (pc := 17) hx (kt_9_0 h0) dX11_gives_17 (fun w2 => ?_)
  refine I_iinc (pc := 18) hx 1 3 dX11_gives_18 rfl (Nat.le_of_ble_eq_true rfl) rfl ?_
  refine E_goto (pc := 21) hx 2 dX11_gives_21 rfl ?_
  refine En.sub [1, 2, 3, 0] rfl ?_
  exact hk2 (v3 + 1) w2
theorem l_X11_gives_b2 {x : Cx} (F : Nat) (a0 : Nat) (h0 : shK a0 = 10 + 9) (a1 : Nat) (h1 : shK a1 = 0) (p2 : Int)  (hx : CxOK x RX11 cX11_gives 4 0 0 (some .int))  : ∀ (n : Nat) (v3 : Int) (w : aI), En x jvIW 0 0 2 [(0, .ref a0), (1, .ref a1), (2, .int (oI p2)), (3, .int (oI v3))] [] (cm w) (f_X11_gives_b2 F a0 a1 p2   n v3 w) := by
  intro n
  induction n with
  | zero => intro v3 w; exact E_none
  | succ n ih => intro v3 w; exact l_X11_gives_b2_b F a0 h0 a1 h1 p2  hx  _ ih v3 w
set_option maxHeartbeats 4000000 in
set_option maxRecDepth 100000 in
theorem ev_X11_gives (F : Nat) (a0 : Nat) (h0 : shK a0 = 10 + 9) (a1 : Nat) (h1 : shK a1 = 0) (p2 : Int) (w : aI) : Ev yX11_gives cX11_gives 4 (some .int) 0 0 jvIW [.ref a0, .ref a1, .int (oI p2)] (cm w) (f_X11_gives F a0 a1 p2 w) := by
  refine Ev.of (own := RX11) (by decide +kernel) rfl (Nat.le_of_ble_eq_true rfl) (fun x hx => ?_)
  show En x jvIW 0 0 0 [(0, .ref a0), (1, .ref a1), (2, .int (oI p2))] [] (cm w) _
  unfold f_X11_gives
  refine I_iconst (pc := 0) hx 0 dX11_gives_0 ?_
  refine E_istore_n (pc := 1) hx dX11_gives_1 rfl (Nat.le_of_ble_eq_true rfl) rfl ?_
  refine En.sub [1, 2, 3, 0] rfl ?_
  exact l_X11_gives_b2 F a0 h0 a1 h1 p2 hx F 0 w
set_option maxHeartbeats 4000000 in
set_option maxRecDepth 100000 in
theorem l_X11_remembers_b54_b {x : Cx} (F : Nat) (a0 : Nat) (h0 : shK a0 = 10 + 9)  (hx : CxOK x RX11 cX11_remembers 2 0 0 none)  (k54 : Int → aI → Option aI) (hk54 : ∀ (v1 : Int) (w : aI), En x jvV 0 0 54 [(0, .ref a0), (1, .int (oI v1))] [] (cm w) (k54 v1 w)) (v1 : Int) (w : aI) : En x jvV 0 0 54 [(0, .ref a0), (1, .int (oI v1))] [] (cm w) (f_X11_remembers_b54_b F a0   k54 v1 w) := by
  unfold f_X11_remembers_b54_b
  refine E_iload_n (pc := 54) hx 1 dX11_remembers_54 rfl rfl ?_
  refine I_sipush (pc := 55) hx 1030 dX11_remembers_55 rfl ?_
  refine E_gd (fun hr2 => ?_)
  refine I_icmp_ge (pc := 58) hx 88 dX11_remembers_58 rfl ⟨hr2, (by decide)⟩ ?_ ?_
  · refine E_aload_n (pc := 88) hx 0 dX11_remembers_88 rfl rfl ?_
    refine E_dup (pc := 89) hx dX11_remembers_89 rfl ?_
    refine I_getI (pc := 90) hx 4 4 rfl fc9 h0 rfl ⟨rfl, rfl, rfl⟩ g1336 dX11_remembers_90 ?_
    refine I_iconst (pc := 93) hx 1 dX11_remembers_93 ?_
    refine I_iadd (pc := 94) hx dX11_remembers_94 ?_
    refine I_put (pc := 95) hx 4 4 rfl .int tyX11 fc9 tyX11_ok h0 rfl ⟨rfl, rfl, rfl, rfl, pfd_I⟩ rfl rfl g1336 dX11_remembers_95 (fun w3 => ?_)
    exact E_vret (pc := 98) hx dX11_remembers_98 rfl rfl (Nat.le_of_ble_eq_true rfl)
  refine E_aload_n (pc := 61) hx 0 dX11_remembers_61 rfl rfl ?_
  refine E_getR (pc := 62) hx 3 fc9 h0 rfl ⟨rfl, rfl, rfl⟩ g1335 dX11_remembers_62 ?_
  refine I_sipush (pc := 65) hx 1030 dX11_remembers_65 rfl ?_
  refine E_aload_n (pc := 68) hx 0 dX11_remembers_68 rfl rfl ?_
  refine I_getI (pc := 69) hx 4 4 rfl fc9 h0 rfl ⟨rfl, rfl, rfl⟩ g1336 dX11_remembers_69 ?_
  refine I_imul (pc := 72) hx dX11_remembers_72 ?_
  refine E_iload_n (pc := 73) hx 1 dX11_remembers_73 rfl rfl ?_
  refine I_iadd (pc := 74) hx dX11_remembers_74 ?_
  refine E_aload_n (pc := 75) hx 0 dX11_remembers_75 rfl rfl ?_
  refine E_getR (pc := 76) hx 0 fc9 h0 rfl ⟨rfl, rfl, rfl⟩ g1332 dX11_remembers_76 ?_
  refine E_iload_n (pc := 79) hx 1 dX11_remembers_79 rfl rfl ?_
  refine I_iald (pc := 80) hx (kt_9_0 h0) dX11_remembers_80 ?_
  refine I_iast (pc := 81) hx (kt_9_3 h0) dX11_remembers_81 (fun w4 => ?_)
  refine I_iinc (pc := 82) hx 1 1 dX11_remembers_82 rfl (Nat.le_of_ble_eq_true rfl) rfl ?_
  refine E_goto (pc := 85) hx 54 dX11_remembers_85 rfl ?_
  refine En.sub [1, 0] rfl ?_
  exact hk54 (v1 + 1) w4
theorem l_X11_remembers_b54 {x : Cx} (F : Nat) (a0 : Nat) (h0 : shK a0 = 10 + 9)  (hx : CxOK x RX11 cX11_remembers 2 0 0 none)  : ∀ (n : Nat) (v1 : Int) (w : aI), En x jvV 0 0 54 [(0, .ref a0), (1, .int (oI v1))] [] (cm w) (f_X11_remembers_b54 F a0   n v1 w) := by
  intro n
  induction n with
  | zero => intro v1 w; exact E_none
  | succ n ih => intro v1 w; exact l_X11_remembers_b54_b F a0 h0  hx  _ ih v1 w
set_option maxHeartbeats 4000000 in
set_option maxRecDepth 100000 in
theorem l_X11_remembers_b13_b {x : Cx} (F : Nat) (a0 : Nat) (h0 : shK a0 = 10 + 9)  (hx : CxOK x RX11 cX11_remembers 2 0 0 none)  (k13 : Int → aI → Option aI) (hk13 : ∀ (v1 : Int) (w : aI), En x jvV 0 0 13 [(0, .ref a0), (1, .int (oI v1))] [] (cm w) (k13 v1 w)) (v1 : Int) (w : aI) : En x jvV 0 0 13 [(0, .ref a0), (1, .int (oI v1))] [] (cm w) (f_X11_remembers_b13_b F a0   k13 v1 w) := by
  unfold f_X11_remembers_b13_b
  refine E_iload_n (pc := 13) hx 1 dX11_remembers_13 rfl rfl ?_
  refine I_sipush (pc := 14) hx 8240 dX11_remembers_14 rfl ?_
  refine E_gd (fun hr5 => ?_)
  refine I_icmp_ge (pc := 17) hx 42 dX11_remembers_17 rfl ⟨hr5, (by decide)⟩ ?_ ?_
  · refine E_aload_n (pc := 42) hx 0 dX11_remembers_42 rfl rfl ?_
    refine E_dup (pc := 43) hx dX11_remembers_43 rfl ?_
    refine I_getI (pc := 44) hx 4 4 rfl fc9 h0 rfl ⟨rfl, rfl, rfl⟩ g1336 dX11_remembers_44 ?_
    refine I_iconst (pc := 47) hx 1 dX11_remembers_47 ?_
    refine I_isub (pc := 48) hx dX11_remembers_48 ?_
    refine I_put (pc := 49) hx 4 4 rfl .int tyX11 fc9 tyX11_ok h0 rfl ⟨rfl, rfl, rfl, rfl, pfd_I⟩ rfl rfl g1336 dX11_remembers_49 (fun w6 => ?_)
    refine I_iconst (pc := 52) hx 0 dX11_remembers_52 ?_
    refine E_istore_n (pc := 53) hx dX11_remembers_53 rfl (Nat.le_of_ble_eq_true rfl) rfl ?_
    refine En.sub [1, 0] rfl ?_
    exact l_X11_remembers_b54 F a0 h0 hx F 0 w6
  refine E_aload_n (pc := 20) hx 0 dX11_remembers_20 rfl rfl ?_
  refine E_getR (pc := 21) hx 3 fc9 h0 rfl ⟨rfl, rfl, rfl⟩ g1335 dX11_remembers_21 ?_
  refine E_iload_n (pc := 24) hx 1 dX11_remembers_24 rfl rfl ?_
  refine I_sipush (pc := 25) hx 1030 dX11_remembers_25 rfl ?_
  refine I_isub (pc := 28) hx dX11_remembers_28 ?_
  refine E_aload_n (pc := 29) hx 0 dX11_remembers_29 rfl rfl ?_
  refine E_getR (pc := 30) hx 3 fc9 h0 rfl ⟨rfl, rfl, rfl⟩ g1335 dX11_remembers_30 ?_
  refine E_iload_n (pc := 33) hx 1 dX11_remembers_33 rfl rfl ?_
  refine I_iald (pc := 34) hx (kt_9_3 h0) dX11_remembers_34 ?_
  refine I_iast (pc := 35) hx (kt_9_3 h0) dX11_remembers_35 (fun w7 => ?_)
  refine I_iinc (pc := 36) hx 1 1 dX11_remembers_36 rfl (Nat.le_of_ble_eq_true rfl) rfl ?_
  refine E_goto (pc := 39) hx 13 dX11_remembers_39 rfl ?_
  refine En.sub [1, 0] rfl ?_
  exact hk13 (v1 + 1) w7
theorem l_X11_remembers_b13 {x : Cx} (F : Nat) (a0 : Nat) (h0 : shK a0 = 10 + 9)  (hx : CxOK x RX11 cX11_remembers 2 0 0 none)  : ∀ (n : Nat) (v1 : Int) (w : aI), En x jvV 0 0 13 [(0, .ref a0), (1, .int (oI v1))] [] (cm w) (f_X11_remembers_b13 F a0   n v1 w) := by
  intro n
  induction n with
  | zero => intro v1 w; exact E_none
  | succ n ih => intro v1 w; exact l_X11_remembers_b13_b F a0 h0  hx  _ ih v1 w
set_option maxHeartbeats 4000000 in
set_option maxRecDepth 100000 in
theorem ev_X11_remembers (F : Nat) (a0 : Nat) (h0 : shK a0 = 10 + 9) (w : aI) : Ev yX11_remembers cX11_remembers 2 none 0 0 jvV [.ref a0] (cm w) (f_X11_remembers F a0 w) := by
  refine Ev.of (own := RX11) (by decide +kernel) rfl (Nat.le_of_ble_eq_true rfl) (fun x hx => ?_)
  show En x jvV 0 0 0 [(0, .ref a0)] [] (cm w) _
  unfold f_X11_remembers
  refine E_aload_n (pc := 0) hx 0 dX11_remembers_0 rfl rfl ?_
  refine I_getI (pc := 1) hx 4 4 rfl fc9 h0 rfl ⟨rfl, rfl, rfl⟩ g1336 dX11_remembers_1 ?_
  refine I_bipush (pc := 4) hx 8 dX11_remembers_4 rfl ?_
  refine E_gd (fun hr1 => ?_)
  refine I_icmp_ne (pc := 6) hx 52 dX11_remembers_6 rfl ⟨hr1, (by decide)⟩ ?_ ?_
  · refine I_iconst (pc := 52) hx 0 dX11_remembers_52 ?_
    refine E_istore_n (pc := 53) hx dX11_remembers_53 rfl (Nat.le_of_ble_eq_true rfl) rfl ?_
    refine En.sub [1, 0] rfl ?_
    exact l_X11_remembers_b54 F a0 h0 hx F 0 w
  refine I_sipush (pc := 9) hx 1030 dX11_remembers_9 rfl ?_
  refine E_istore_n (pc := 12) hx dX11_remembers_12 rfl (Nat.le_of_ble_eq_true rfl) rfl ?_
  refine En.sub [1, 0] rfl ?_
  exact l_X11_remembers_b13 F a0 h0 hx F 1030 w
set_option maxHeartbeats 4000000 in
set_option maxRecDepth 100000 in
theorem l_X11_named_b36_b {x : Cx} (F : Nat) (a0 : Nat) (h0 : shK a0 = 10 + 9) (w : aI) (hx : CxOK x RX11 cX11_named 4 1 0 (some .int)) (k2 : Int → Option Int) (hk2 : ∀ (v1 : Int), En x (jvI w) 0 0 2 [(0, .ref a0), (1, .int (oI v1))] [] (cm w) (k2 v1)) (k36 : Int → Int → Int → Option Int) (hk36 : ∀ (v1 : Int) (v2 : Int) (v3 : Int), En x (jvI w) 0 0 36 [(0, .ref a0), (1, .int (oI v1)), (2, .int (oI v2)), (3, .int (oI v3))] [] (cm w) (k36 v1 v2 v3)) (v1 : Int) (v2 : Int) (v3 : Int)  : En x (jvI w) 0 0 36 [(0, .ref a0), (1, .int (oI v1)), (2, .int (oI v2)), (3, .int (oI v3))] [] (cm w) (f_X11_named_b36_b F a0 w k2 k36 v1 v2 v3) := by
  unfold f_X11_named_b36_b
  refine E_iload_n (pc := 36) hx 3 dX11_named_36 rfl rfl ?_
  refine E_aload_n (pc := 37) hx 0 dX11_named_37 rfl rfl ?_
  refine I_getI (pc := 38) hx 8 8 rfl fc9 h0 rfl ⟨rfl, rfl, rfl⟩ g1340 dX11_named_38 ?_
  refine E_gd (fun hr4 => ?_)
  refine I_icmp_ge (pc := 41) hx 82 dX11_named_41 rfl ⟨hr4.1, hr4.2⟩ ?_ ?_
  · refine E_iload_n (pc := 82) hx 2 dX11_named_82 rfl rfl ?_
    refine E_gd (fun hr5 => ?_)
    refine I_if_eq (pc := 83) hx 88 dX11_named_83 rfl hr5 ?_ ?_
    · refine I_iinc (pc := 88) hx 1 1 dX11_named_88 rfl (Nat.le_of_ble_eq_true rfl) rfl ?_
      refine E_goto (pc := 91) hx 2 dX11_named_91 rfl ?_
      refine En.sub [1, 0] rfl ?_
      exact hk2 (v1 + 1)
    refine E_iload_n (pc := 86) hx 1 dX11_named_86 rfl rfl ?_
    exact E_iret (pc := 87) hx dX11_named_87 rfl rfl (Nat.le_of_ble_eq_true rfl)
  refine E_iload_n (pc := 44) hx 2 dX11_named_44 rfl rfl ?_
  refine E_gd (fun hr6 => ?_)
  refine I_if_eq (pc := 45) hx 82 dX11_named_45 rfl hr6 ?_ ?_
  · refine E_iload_n (pc := 82) hx 2 dX11_named_82 rfl rfl ?_
    refine I_if_eq (pc := 83) hx 88 dX11_named_83 rfl hr6 ?_ ?_
    · refine I_iinc (pc := 88) hx 1 1 dX11_named_88 rfl (Nat.le_of_ble_eq_true rfl) rfl ?_
      refine E_goto (pc := 91) hx 2 dX11_named_91 rfl ?_
      refine En.sub [1, 0] rfl ?_
      exact hk2 (v1 + 1)
    refine E_iload_n (pc := 86) hx 1 dX11_named_86 rfl rfl ?_
    exact E_iret (pc := 87) hx dX11_named_87 rfl rfl (Nat.le_of_ble_eq_true rfl)
  refine E_aload_n (pc := 48) hx 0 dX11_named_48 rfl rfl ?_
  refine E_getR (pc := 49) hx 0 fc9 h0 rfl ⟨rfl, rfl, rfl⟩ g1332 dX11_named_49 ?_
  refine E_iload_n (pc := 52) hx 1 dX11_named_52 rfl rfl ?_
  refine I_cSI  (pc := 53) hx [.int (oI v1)] [.ref (shR a0 0)] (ev_X11_r F v1 w) sm_X11_r g1322 dX11_named_53 rfl rfl (Nat.le_of_ble_eq_true rfl) (Nat.le_of_ble_eq_true rfl) (Nat.le_of_ble_eq_true rfl) (fun r7 => ?_)
  refine I_iconst (pc := 56) hx 1 dX11_named_56 ?_
  refine I_iadd (pc := 57) hx dX11_named_57 ?_
  refine E_iload_n (pc := 58) hx 3 dX11_named_58 rfl rfl ?_
  refine I_iadd (pc := 59) hx dX11_named_59 ?_
  refine I_iald (pc := 60) hx (kt_9_0 h0) dX11_named_60 ?_
  refine E_aload_n (pc := 61) hx 0 dX11_named_61 rfl rfl ?_
  refine E_getR (pc := 62) hx 7 fc9 h0 rfl ⟨rfl, rfl, rfl⟩ g1339 dX11_named_62 ?_
  refine E_iload_n (pc := 65) hx 3 dX11_named_65 rfl rfl ?_
  refine I_iald (pc := 66) hx (kt_9_7 h0) dX11_named_66 ?_
  refine E_gd (fun hr8 => ?_)
  refine I_icmp_ne (pc := 67) hx 74 dX11_named_67 rfl ⟨hr8.1, hr8.2⟩ ?_ ?_
  · refine I_iconst (pc := 74) hx 0 dX11_named_74 ?_
    refine E_istore_n (pc := 75) hx dX11_named_75 rfl (Nat.le_of_ble_eq_true rfl) rfl ?_
    refine I_iinc (pc := 76) hx 1 3 dX11_named_76 rfl (Nat.le_of_ble_eq_true rfl) rfl ?_
    refine E_goto (pc := 79) hx 36 dX11_named_79 rfl ?_
    refine En.sub [2, 3, 1, 0] rfl ?_
    exact hk36 v1 0 (v3 + 1)
  refine I_iconst (pc := 70) hx 1 dX11_named_70 ?_
  refine E_goto (pc := 71) hx 75 dX11_named_71 rfl ?_
  refine E_istore_n (pc := 75) hx dX11_named_75 rfl (Nat.le_of_ble_eq_true rfl) rfl ?_
  refine I_iinc (pc := 76) hx 1 3 dX11_named_76 rfl (Nat.le_of_ble_eq_true rfl) rfl ?_
  refine E_goto (pc := 79) hx 36 dX11_named_79 rfl ?_
  refine En.sub [2, 3, 1, 0] rfl ?_
  exact hk36 v1 1 (v3 + 1)
theorem l_X11_named_b36 {x : Cx} (F : Nat) (a0 : Nat) (h0 : shK a0 = 10 + 9) (w : aI) (hx : CxOK x RX11 cX11_named 4 1 0 (some .int)) (k2 : Int → Option Int) (hk2 : ∀ (v1 : Int), En x (jvI w) 0 0 2 [(0, .ref a0), (1, .int (oI v1))] [] (cm w) (k2 v1)) : ∀ (n : Nat) (v1 : Int) (v2 : Int) (v3 : Int), En x (jvI w) 0 0 36 [(0, .ref a0), (1, .int (oI v1)), (2, .int (oI v2)), (3, .int (oI v3))] [] (cm w) (f_X11_named_b36 F a0 w k2 n v1 v2 v3) := by
  intro n
  induction n with
  | zero => intro v1 v2 v3; exact E_none
  | succ n ih => intro v1 v2 v3; exact l_X11_named_b36_b F a0 h0 w hx k2 hk2 _ ih v1 v2 v3
set_option maxHeartbeats 4000000 in
set_option maxRecDepth 100000 in
theorem l_X11_named_b2_b {x : Cx} (F : Nat) (a0 : Nat) (h0 : shK a0 = 10 + 9) (w : aI) (hx : CxOK x RX11 cX11_named 4 1 0 (some .int))  (k2 : Int → Option Int) (hk2 : ∀ (v1 : Int), En x (jvI w) 0 0 2 [(0, .ref a0), (1, .int (oI v1))] [] (cm w) (k2 v1)) (v1 : Int)  : En x (jvI w) 0 0 2 [(0, .ref a0), (1, .int (oI v1))] [] (cm w) (f_X11_named_b2_b F a0 w  k2 v1) := by
  unfold f_X11_named_b2_b
  refine E_iload_n (pc := 2) hx 1 dX11_named_2 rfl rfl ?_
  refine E_aload_n (pc := 3) hx 0 dX11_named_3 rfl rfl ?_
  refine E_getR (pc := 4) hx 0 fc9 h0 rfl ⟨rfl, rfl, rfl⟩ g1332 dX11_named_4 ?_
  refine I_iconst (pc := 7) hx 0 dX11_named_7 ?_
  refine I_iald (pc := 8) hx (kt_9_0 h0) dX11_named_8 ?_
  refine E_gd (fun hr1 => ?_)
  refine I_icmp_ge (pc := 9) hx 94 dX11_named_9 rfl ⟨hr1.1, hr1.2⟩ ?_ ?_
  · refine I_iconst (pc := 94) hx (-1) dX11_named_94 ?_
    exact E_iret (pc := 95) hx dX11_named_95 rfl rfl (Nat.le_of_ble_eq_true rfl)
  refine E_aload_n (pc := 12) hx 0 dX11_named_12 rfl rfl ?_
  refine E_getR (pc := 13) hx 0 fc9 h0 rfl ⟨rfl, rfl, rfl⟩ g1332 dX11_named_13 ?_
  refine E_iload_n (pc := 16) hx 1 dX11_named_16 rfl rfl ?_
  refine I_cSI  (pc := 17) hx [.int (oI v1)] [.ref (shR a0 0)] (ev_X11_r F v1 w) sm_X11_r g1322 dX11_named_17 rfl rfl (Nat.le_of_ble_eq_true rfl) (Nat.le_of_ble_eq_true rfl) (Nat.le_of_ble_eq_true rfl) (fun r2 => ?_)
  refine I_iald (pc := 20) hx (kt_9_0 h0) dX11_named_20 ?_
  refine E_aload_n (pc := 21) hx 0 dX11_named_21 rfl rfl ?_
  refine I_getI (pc := 22) hx 8 8 rfl fc9 h0 rfl ⟨rfl, rfl, rfl⟩ g1340 dX11_named_22 ?_
  refine E_gd (fun hr3 => ?_)
  refine I_icmp_ne (pc := 25) hx 32 dX11_named_25 rfl ⟨hr3.1, hr3.2⟩ ?_ ?_
  · refine I_iconst (pc := 32) hx 0 dX11_named_32 ?_
    refine E_istore_n (pc := 33) hx dX11_named_33 rfl (Nat.le_of_ble_eq_true rfl) rfl ?_
    refine I_iconst (pc := 34) hx 0 dX11_named_34 ?_
    refine E_istore_n (pc := 35) hx dX11_named_35 rfl (Nat.le_of_ble_eq_true rfl) rfl ?_
    refine En.sub [2, 3, 1, 0] rfl ?_
    exact l_X11_named_b36 F a0 h0 w hx k2 hk2 F v1 0 0
  refine I_iconst (pc := 28) hx 1 dX11_named_28 ?_
  refine E_goto (pc := 29) hx 33 dX11_named_29 rfl ?_
  refine E_istore_n (pc := 33) hx dX11_named_33 rfl (Nat.le_of_ble_eq_true rfl) rfl ?_
  refine I_iconst (pc := 34) hx 0 dX11_named_34 ?_
  refine E_istore_n (pc := 35) hx dX11_named_35 rfl (Nat.le_of_ble_eq_true rfl) rfl ?_
  refine En.sub [2, 3, 1, 0] rfl ?_
  exact l_X11_named_b36 F a0 h0 w hx k2 hk2 F v1 1 0
theorem l_X11_named_b2 {x : Cx} (F : Nat) (a0 : Nat) (h0 : shK a0 = 10 + 9) (w : aI) (hx : CxOK x RX11 cX11_named 4 1 0 (some .int))  : ∀ (n : Nat) (v1 : Int), En x (jvI w) 0 0 2 [(0, .ref a0), (1, .int (oI v1))] [] (cm w) (f_X11_named_b2 F a0 w  n v1) := by
  intro n
  induction n with
  | zero => intro v1; exact E_none
  | succ n ih => intro v1; exact l_X11_named_b2_b F a0 h0 w hx  _ ih v1
set_option maxHeartbeats 4000000 in
set_option maxRecDepth 100000 in
theorem ev_X11_named (F : Nat) (a0 : Nat) (h0 : shK a0 = 10 + 9) (w : aI) : Ev yX11_named cX11_named 4 (some .int) 1 0 (jvI w) [.ref a0] (cm w) (f_X11_named F a0 w) := by
  refine Ev.of (own := RX11) (by decide +kernel) rfl (Nat.le_of_ble_eq_true rfl) (fun x hx => ?_)
  show En x (jvI w) 0 0 0 [(0, .ref a0)] [] (cm w) _
  unfold f_X11_named
  refine I_iconst (pc := 0) hx 0 dX11_named_0 ?_
  refine E_istore_n (pc := 1) hx dX11_named_1 rfl (Nat.le_of_ble_eq_true rfl) rfl ?_
  refine En.sub [1, 0] rfl ?_
  exact l_X11_named_b2 F a0 h0 w hx F 0
set_option maxHeartbeats 4000000 in
set_option maxRecDepth 100000 in
theorem l_X11_newRoof_b25_b {x : Cx} (F : Nat) (a0 : Nat) (h0 : shK a0 = 10 + 9) (p1 : Int) (p2 : Int) (p3 : Int) (p4 : Int)  (hx : CxOK x RX11 cX11_newRoof 7 1 0 none)  (k25 : Int → Int → aI → Option aI) (hk25 : ∀ (v5 : Int) (v6 : Int) (w : aI), En x jvV 0 0 25 [(0, .ref a0), (1, .int (oI p1)), (2, .int (oI p2)), (3, .int (oI p3)), (4, .int (oI p4)), (5, .int (oI v5)), (6, .int (oI v6))] [] (cm w) (k25 v5 v6 w)) (v5 : Int) (v6 : Int) (w : aI) : En x jvV 0 0 25 [(0, .ref a0), (1, .int (oI p1)), (2, .int (oI p2)), (3, .int (oI p3)), (4, .int (oI p4)), (5, .int (oI v5)), (6, .int (oI v6))] [] (cm w) (f_X11_newRoof_b25_b F a0 p1 p2 p3 p4   k25 v5 v6 w) := by
  unfold f_X11_newRoof_b25_b
  refine E_iload (pc := 25) hx 6 dX11_newRoof_25 rfl ?_
  refine E_aload_n (pc := 27) hx 0 dX11_newRoof_27 rfl rfl ?_
  refine I_getI (pc := 28) hx 8 8 rfl fc9 h0 rfl ⟨rfl, rfl, rfl⟩ g1340 dX11_newRoof_28 ?_
  refine E_gd (fun hr3 => ?_)
  refine I_icmp_ge (pc := 31) hx 59 dX11_newRoof_31 rfl ⟨hr3.1, hr3.2⟩ ?_ ?_
  · refine E_aload_n (pc := 59) hx 0 dX11_newRoof_59 rfl rfl ?_
    refine E_getR (pc := 60) hx 0 fc9 h0 rfl ⟨rfl, rfl, rfl⟩ g1332 dX11_newRoof_60 ?_
    refine E_iload (pc := 63) hx 5 dX11_newRoof_63 rfl ?_
    refine I_bipush (pc := 65) hx 7 dX11_newRoof_65 rfl ?_
    refine I_iadd (pc := 67) hx dX11_newRoof_67 ?_
    refine E_iload_n (pc := 68) hx 1 dX11_newRoof_68 rfl rfl ?_
    refine I_iast (pc := 69) hx (kt_9_0 h0) dX11_newRoof_69 (fun w4 => ?_)
    refine E_aload_n (pc := 70) hx 0 dX11_newRoof_70 rfl rfl ?_
    refine E_getR (pc := 71) hx 0 fc9 h0 rfl ⟨rfl, rfl, rfl⟩ g1332 dX11_newRoof_71 ?_
    refine E_iload (pc := 74) hx 5 dX11_newRoof_74 rfl ?_
    refine I_bipush (pc := 76) hx 8 dX11_newRoof_76 rfl ?_
    refine I_iadd (pc := 78) hx dX11_newRoof_78 ?_
    refine E_iload_n (pc := 79) hx 2 dX11_newRoof_79 rfl rfl ?_
    refine I_iast (pc := 80) hx (kt_9_0 h0) dX11_newRoof_80 (fun w5 => ?_)
    refine E_aload_n (pc := 81) hx 0 dX11_newRoof_81 rfl rfl ?_
    refine E_getR (pc := 82) hx 0 fc9 h0 rfl ⟨rfl, rfl, rfl⟩ g1332 dX11_newRoof_82 ?_
    refine E_iload (pc := 85) hx 5 dX11_newRoof_85 rfl ?_
    refine I_bipush (pc := 87) hx 9 dX11_newRoof_87 rfl ?_
    refine I_iadd (pc := 89) hx dX11_newRoof_89 ?_
    refine E_iload_n (pc := 90) hx 3 dX11_newRoof_90 rfl rfl ?_
    refine I_iast (pc := 91) hx (kt_9_0 h0) dX11_newRoof_91 (fun w6 => ?_)
    refine E_aload_n (pc := 92) hx 0 dX11_newRoof_92 rfl rfl ?_
    refine E_getR (pc := 93) hx 0 fc9 h0 rfl ⟨rfl, rfl, rfl⟩ g1332 dX11_newRoof_93 ?_
    refine E_iload (pc := 96) hx 5 dX11_newRoof_96 rfl ?_
    refine I_bipush (pc := 98) hx 10 dX11_newRoof_98 rfl ?_
    refine I_iadd (pc := 100) hx dX11_newRoof_100 ?_
    refine E_iload (pc := 101) hx 4 dX11_newRoof_101 rfl ?_
    refine I_iast (pc := 103) hx (kt_9_0 h0) dX11_newRoof_103 (fun w7 => ?_)
    refine E_aload_n (pc := 104) hx 0 dX11_newRoof_104 rfl rfl ?_
    refine E_getR (pc := 105) hx 0 fc9 h0 rfl ⟨rfl, rfl, rfl⟩ g1332 dX11_newRoof_105 ?_
    refine I_bipush (pc := 108) hx 7 dX11_newRoof_108 rfl ?_
    refine E_dup2 (pc := 110) hx dX11_newRoof_110 rfl rfl ?_
    refine I_iald (pc := 111) hx (kt_9_0 h0) dX11_newRoof_111 ?_
    refine E_iload (pc := 112) hx 4 dX11_newRoof_112 rfl ?_
    refine I_iadd (pc := 114) hx dX11_newRoof_114 ?_
    refine I_iast (pc := 115) hx (kt_9_0 h0) dX11_newRoof_115 (fun w8 => ?_)
    refine E_aload_n (pc := 116) hx 0 dX11_newRoof_116 rfl rfl ?_
    refine E_getR (pc := 117) hx 0 fc9 h0 rfl ⟨rfl, rfl, rfl⟩ g1332 dX11_newRoof_117 ?_
    refine I_iconst (pc := 120) hx 0 dX11_newRoof_120 ?_
    refine E_dup2 (pc := 121) hx dX11_newRoof_121 rfl rfl ?_
    refine I_iald (pc := 122) hx (kt_9_0 h0) dX11_newRoof_122 ?_
    refine I_iconst (pc := 123) hx 1 dX11_newRoof_123 ?_
    refine I_iadd (pc := 124) hx dX11_newRoof_124 ?_
    refine I_iast (pc := 125) hx (kt_9_0 h0) dX11_newRoof_125 (fun w9 => ?_)
    exact E_vret (pc := 126) hx dX11_newRoof_126 rfl rfl (Nat.le_of_ble_eq_true rfl)
  refine E_aload_n (pc := 34) hx 0 dX11_newRoof_34 rfl rfl ?_
  refine E_getR (pc := 35) hx 0 fc9 h0 rfl ⟨rfl, rfl, rfl⟩ g1332 dX11_newRoof_35 ?_
  refine E_iload (pc := 38) hx 5 dX11_newRoof_38 rfl ?_
  refine I_iconst (pc := 40) hx 1 dX11_newRoof_40 ?_
  refine I_iadd (pc := 41) hx dX11_newRoof_41 ?_
  refine E_iload (pc := 42) hx 6 dX11_newRoof_42 rfl ?_
  refine I_iadd (pc := 44) hx dX11_newRoof_44 ?_
  refine E_aload_n (pc := 45) hx 0 dX11_newRoof_45 rfl rfl ?_
  refine E_getR (pc := 46) hx 7 fc9 h0 rfl ⟨rfl, rfl, rfl⟩ g1339 dX11_newRoof_46 ?_
  refine E_iload (pc := 49) hx 6 dX11_newRoof_49 rfl ?_
  refine I_iald (pc := 51) hx (kt_9_7 h0) dX11_newRoof_51 ?_
  refine I_iast (pc := 52) hx (kt_9_0 h0) dX11_newRoof_52 (fun w10 => ?_)
  refine I_iinc (pc := 53) hx 1 6 dX11_newRoof_53 rfl (Nat.le_of_ble_eq_true rfl) rfl ?_
  refine E_goto (pc := 56) hx 25 dX11_newRoof_56 rfl ?_
  refine En.sub [1, 2, 3, 4, 5, 6, 0] rfl ?_
  exact hk25 v5 (v6 + 1) w10
theorem l_X11_newRoof_b25 {x : Cx} (F : Nat) (a0 : Nat) (h0 : shK a0 = 10 + 9) (p1 : Int) (p2 : Int) (p3 : Int) (p4 : Int)  (hx : CxOK x RX11 cX11_newRoof 7 1 0 none)  : ∀ (n : Nat) (v5 : Int) (v6 : Int) (w : aI), En x jvV 0 0 25 [(0, .ref a0), (1, .int (oI p1)), (2, .int (oI p2)), (3, .int (oI p3)), (4, .int (oI p4)), (5, .int (oI v5)), (6, .int (oI v6))] [] (cm w) (f_X11_newRoof_b25 F a0 p1 p2 p3 p4   n v5 v6 w) := by
  intro n
  induction n with
  | zero => intro v5 v6 w; exact E_none
  | succ n ih => intro v5 v6 w; exact l_X11_newRoof_b25_b F a0 h0 p1 p2 p3 p4  hx  _ ih v5 v6 w
set_option maxHeartbeats 4000000 in
set_option maxRecDepth 100000 in
theorem ev_X11_newRoof (F : Nat) (a0 : Nat) (h0 : shK a0 = 10 + 9) (p1 : Int) (p2 : Int) (p3 : Int) (p4 : Int) (w : aI) : Ev yX11_newRoof cX11_newRoof 7 none 1 0 jvV [.ref a0, .int (oI p1), .int (oI p2), .int (oI p3), .int (oI p4)] (cm w) (f_X11_newRoof F a0 p1 p2 p3 p4 w) := by
  refine Ev.of (own := RX11) (by decide +kernel) rfl (Nat.le_of_ble_eq_true rfl) (fun x hx => ?_)
  show En x jvV 0 0 0 [(0, .ref a0), (1, .int (oI p1)), (2, .int (oI p2)), (3, .int (oI p3)), (4, .int (oI p4))] [] (cm w) _
  unfold f_X11_newRoof
  refine E_aload_n (pc := 0) hx 0 dX11_newRoof_0 rfl rfl ?_
  refine E_getR (pc := 1) hx 0 fc9 h0 rfl ⟨rfl, rfl, rfl⟩ g1332 dX11_newRoof_1 ?_
  refine I_iconst (pc := 4) hx 0 dX11_newRoof_4 ?_
  refine I_iald (pc := 5) hx (kt_9_0 h0) dX11_newRoof_5 ?_
  refine I_cSI  (pc := 6) hx [.int (oI (w (shR a0 0) 0))] [] (ev_X11_r F (w (shR a0 0) 0) w) sm_X11_r g1322 dX11_newRoof_6 rfl rfl (Nat.le_of_ble_eq_true rfl) (Nat.le_of_ble_eq_true rfl) (Nat.le_of_ble_eq_true rfl) (fun r1 => ?_)
  refine E_istore (pc := 9) hx dX11_newRoof_9 (Nat.le_of_ble_eq_true rfl) rfl ?_
  refine E_aload_n (pc := 11) hx 1 dX11_newRoof_11 rfl rfl ?_
  refine E_getR (pc := 12) hx 0 fc9 h0 rfl ⟨rfl, rfl, rfl⟩ g1332 dX11_newRoof_12 ?_
  refine E_iload (pc := 15) hx 0 dX11_newRoof_15 rfl ?_
  refine E_aload_n (pc := 17) hx 1 dX11_newRoof_17 rfl rfl ?_
  refine I_getI (pc := 18) hx 8 8 rfl fc9 h0 rfl ⟨rfl, rfl, rfl⟩ g1340 dX11_newRoof_18 ?_
  refine I_iast (pc := 21) hx (kt_9_0 h0) dX11_newRoof_21 (fun w2 => ?_)
  refine I_iconst (pc := 22) hx 0 dX11_newRoof_22 ?_
  refine E_istore (pc := 23) hx dX11_newRoof_23 (Nat.le_of_ble_eq_true rfl) rfl ?_
  refine En.sub [2, 3, 4, 5, 6, 1, 0] rfl ?_
  exact l_X11_newRoof_b25 F a0 h0 p1 p2 p3 p4 hx F r1 0 w2
set_option maxHeartbeats 4000000 in
set_option maxRecDepth 100000 in
theorem ev_X11_newWay (F : Nat) (a0 : Nat) (h0 : shK a0 = 10 + 9) (p1 : Int) (p2 : Int) (p3 : Int) (w : aI) : Ev yX11_newWay cX11_newWay 4 none 1 0 jvV [.ref a0, .int (oI p1), .int (oI p2), .int (oI p3)] (cm w) (f_X11_newWay F a0 p1 p2 p3 w) := by
  refine Ev.of (own := RX11) (by decide +kernel) rfl (Nat.le_of_ble_eq_true rfl) (fun x hx => ?_)
  show En x jvV 0 0 0 [(0, .ref a0), (1, .int (oI p1)), (2, .int (oI p2)), (3, .int (oI p3))] [] (cm w) _
  unfold f_X11_newWay
  refine E_aload_n (pc := 0) hx 0 dX11_newWay_0 rfl rfl ?_
  refine E_getR (pc := 1) hx 0 fc9 h0 rfl ⟨rfl, rfl, rfl⟩ g1332 dX11_newWay_1 ?_
  refine E_aload_n (pc := 4) hx 0 dX11_newWay_4 rfl rfl ?_
  refine E_getR (pc := 5) hx 0 fc9 h0 rfl ⟨rfl, rfl, rfl⟩ g1332 dX11_newWay_5 ?_
  refine I_iconst (pc := 8) hx 1 dX11_newWay_8 ?_
  refine I_iald (pc := 9) hx (kt_9_0 h0) dX11_newWay_9 ?_
  refine I_cSI  (pc := 10) hx [.int (oI (w (shR a0 0) 1))] [.ref (shR a0 0)] (ev_X11_w F (w (shR a0 0) 1) w) sm_X11_w g1329 dX11_newWay_10 rfl rfl (Nat.le_of_ble_eq_true rfl) (Nat.le_of_ble_eq_true rfl) (Nat.le_of_ble_eq_true rfl) (fun r1 => ?_)
  refine E_iload_n (pc := 13) hx 1 dX11_newWay_13 rfl rfl ?_
  refine I_iast (pc := 14) hx (kt_9_0 h0) dX11_newWay_14 (fun w2 => ?_)
  refine E_aload_n (pc := 15) hx 0 dX11_newWay_15 rfl rfl ?_
  refine E_getR (pc := 16) hx 0 fc9 h0 rfl ⟨rfl, rfl, rfl⟩ g1332 dX11_newWay_16 ?_
  refine E_aload_n (pc := 19) hx 0 dX11_newWay_19 rfl rfl ?_
  refine E_getR (pc := 20) hx 0 fc9 h0 rfl ⟨rfl, rfl, rfl⟩ g1332 dX11_newWay_20 ?_
  refine I_iconst (pc := 23) hx 1 dX11_newWay_23 ?_
  refine I_iald (pc := 24) hx (kt_9_0 h0) dX11_newWay_24 ?_
  refine I_cSI  (pc := 25) hx [.int (oI (w2 (shR a0 0) 1))] [.ref (shR a0 0)] (ev_X11_w F (w2 (shR a0 0) 1) w2) sm_X11_w g1329 dX11_newWay_25 rfl rfl (Nat.le_of_ble_eq_true rfl) (Nat.le_of_ble_eq_true rfl) (Nat.le_of_ble_eq_true rfl) (fun r3 => ?_)
  refine I_iconst (pc := 28) hx 1 dX11_newWay_28 ?_
  refine I_iadd (pc := 29) hx dX11_newWay_29 ?_
  refine E_iload_n (pc := 30) hx 2 dX11_newWay_30 rfl rfl ?_
  refine I_iast (pc := 31) hx (kt_9_0 h0) dX11_newWay_31 (fun w4 => ?_)
  refine E_aload_n (pc := 32) hx 0 dX11_newWay_32 rfl rfl ?_
  refine E_getR (pc := 33) hx 0 fc9 h0 rfl ⟨rfl, rfl, rfl⟩ g1332 dX11_newWay_33 ?_
  refine E_aload_n (pc := 36) hx 0 dX11_newWay_36 rfl rfl ?_
  refine E_getR (pc := 37) hx 0 fc9 h0 rfl ⟨rfl, rfl, rfl⟩ g1332 dX11_newWay_37 ?_
  refine I_iconst (pc := 40) hx 1 dX11_newWay_40 ?_
  refine I_iald (pc := 41) hx (kt_9_0 h0) dX11_newWay_41 ?_
  refine I_cSI  (pc := 42) hx [.int (oI (w4 (shR a0 0) 1))] [.ref (shR a0 0)] (ev_X11_w F (w4 (shR a0 0) 1) w4) sm_X11_w g1329 dX11_newWay_42 rfl rfl (Nat.le_of_ble_eq_true rfl) (Nat.le_of_ble_eq_true rfl) (Nat.le_of_ble_eq_true rfl) (fun r5 => ?_)
  refine I_iconst (pc := 45) hx 2 dX11_newWay_45 ?_
  refine I_iadd (pc := 46) hx dX11_newWay_46 ?_
  refine E_iload_n (pc := 47) hx 3 dX11_newWay_47 rfl rfl ?_
  refine I_iast (pc := 48) hx (kt_9_0 h0) dX11_newWay_48 (fun w6 => ?_)
  refine E_aload_n (pc := 49) hx 0 dX11_newWay_49 rfl rfl ?_
  refine E_getR (pc := 50) hx 0 fc9 h0 rfl ⟨rfl, rfl, rfl⟩ g1332 dX11_newWay_50 ?_
  refine I_iconst (pc := 53) hx 1 dX11_newWay_53 ?_
  refine E_dup2 (pc := 54) hx dX11_newWay_54 rfl rfl ?_
  refine I_iald (pc := 55) hx (kt_9_0 h0) dX11_newWay_55 ?_
  refine I_iconst (pc := 56) hx 1 dX11_newWay_56 ?_
  refine I_iadd (pc := 57) hx dX11_newWay_57 ?_
  refine I_iast (pc := 58) hx (kt_9_0 h0) dX11_newWay_58 (fun w7 => ?_)
  exact E_vret (pc := 59) hx dX11_newWay_59 rfl rfl (Nat.le_of_ble_eq_true rfl)
set_option maxHeartbeats 4000000 in
set_option maxRecDepth 100000 in
theorem ev_X11_ends (F : Nat) (a0 : Nat) (h0 : shK a0 = 10 + 9) (p1 : Int) (p2 : Int) (w : aI) : Ev yX11_ends cX11_ends 3 (some .boolean) 1 0 (jvB w) [.ref a0, .int (oI p1), .int (oI p2)] (cm w) (f_X11_ends F a0 p1 p2 w) := by
  refine Ev.of (own := RX11) (by decide +kernel) rfl (Nat.le_of_ble_eq_true rfl) (fun x hx => ?_)
  show En x (jvB w) 0 0 0 [(0, .ref a0), (1, .int (oI p1)), (2, .int (oI p2))] [] (cm w) _
  unfold f_X11_ends
  refine E_aload_n (pc := 0) hx 0 dX11_ends_0 rfl rfl ?_
  refine E_getR (pc := 1) hx 0 fc9 h0 rfl ⟨rfl, rfl, rfl⟩ g1332 dX11_ends_1 ?_
  refine E_iload_n (pc := 4) hx 1 dX11_ends_4 rfl rfl ?_
  refine I_cSI  (pc := 5) hx [.int (oI p1)] [.ref (shR a0 0)] (ev_X11_w F p1 w) sm_X11_w g1329 dX11_ends_5 rfl rfl (Nat.le_of_ble_eq_true rfl) (Nat.le_of_ble_eq_true rfl) (Nat.le_of_ble_eq_true rfl) (fun r1 => ?_)
  refine I_iald (pc := 8) hx (kt_9_0 h0) dX11_ends_8 ?_
  refine E_iload_n (pc := 9) hx 2 dX11_ends_9 rfl rfl ?_
  refine E_gd (fun hr2 => ?_)
  refine I_icmp_eq (pc := 10) hx 28 dX11_ends_10 rfl ⟨hr2.1, hr2.2⟩ ?_ ?_
  · refine I_iconst (pc := 28) hx 1 dX11_ends_28 ?_
    refine E_goto (pc := 29) hx 33 dX11_ends_29 rfl ?_
    exact E_zret (pc := 33) hx dX11_ends_33 rfl rfl rfl (Nat.le_of_ble_eq_true rfl)
  refine E_aload_n (pc := 13) hx 0 dX11_ends_13 rfl rfl ?_
  refine E_getR (pc := 14) hx 0 fc9 h0 rfl ⟨rfl, rfl, rfl⟩ g1332 dX11_ends_14 ?_
  refine E_iload_n (pc := 17) hx 1 dX11_ends_17 rfl rfl ?_
  refine I_cSI  (pc := 18) hx [.int (oI p1)] [.ref (shR a0 0)] (ev_X11_w F p1 w) sm_X11_w g1329 dX11_ends_18 rfl rfl (Nat.le_of_ble_eq_true rfl) (Nat.le_of_ble_eq_true rfl) (Nat.le_of_ble_eq_true rfl) (fun r3 => ?_)
  refine I_iconst (pc := 21) hx 1 dX11_ends_21 ?_
  refine I_iadd (pc := 22) hx dX11_ends_22 ?_
  refine I_iald (pc := 23) hx (kt_9_0 h0) dX11_ends_23 ?_
  refine E_iload_n (pc := 24) hx 2 dX11_ends_24 rfl rfl ?_
  refine E_gd (fun hr4 => ?_)
  refine I_icmp_ne (pc := 25) hx 32 dX11_ends_25 rfl ⟨hr4, hr2.2⟩ ?_ ?_
  · refine I_iconst (pc := 32) hx 0 dX11_ends_32 ?_
    exact E_zret (pc := 33) hx dX11_ends_33 rfl rfl rfl (Nat.le_of_ble_eq_true rfl)
  refine I_iconst (pc := 28) hx 1 dX11_ends_28 ?_
  refine E_goto (pc := 29) hx 33 dX11_ends_29 rfl ?_
  exact E_zret (pc := 33) hx dX11_ends_33 rfl rfl rfl (Nat.le_of_ble_eq_true rfl)
set_option maxHeartbeats 4000000 in
set_option maxRecDepth 100000 in
theorem ev_X11_otherEnd (F : Nat) (a0 : Nat) (h0 : shK a0 = 10 + 9) (p1 : Int) (p2 : Int) (w : aI) : Ev yX11_otherEnd cX11_otherEnd 3 (some .int) 1 0 (jvI w) [.ref a0, .int (oI p1), .int (oI p2)] (cm w) (f_X11_otherEnd F a0 p1 p2 w) := by
  refine Ev.of (own := RX11) (by decide +kernel) rfl (Nat.le_of_ble_eq_true rfl) (fun x hx => ?_)
  show En x (jvI w) 0 0 0 [(0, .ref a0), (1, .int (oI p1)), (2, .int (oI p2))] [] (cm w) _
  unfold f_X11_otherEnd
  refine E_aload_n (pc := 0) hx 0 dX11_otherEnd_0 rfl rfl ?_
  refine E_getR (pc := 1) hx 0 fc9 h0 rfl ⟨rfl, rfl, rfl⟩ g1332 dX11_otherEnd_1 ?_
  refine E_iload_n (pc := 4) hx 1 dX11_otherEnd_4 rfl rfl ?_
  refine I_cSI  (pc := 5) hx [.int (oI p1)] [.ref (shR a0 0)] (ev_X11_w F p1 w) sm_X11_w g1329 dX11_otherEnd_5 rfl rfl (Nat.le_of_ble_eq_true rfl) (Nat.le_of_ble_eq_true rfl) (Nat.le_of_ble_eq_true rfl) (fun r1 => ?_)
  refine I_iald (pc := 8) hx (kt_9_0 h0) dX11_otherEnd_8 ?_
  refine E_aload_n (pc := 9) hx 0 dX11_otherEnd_9 rfl rfl ?_
  refine E_getR (pc := 10) hx 0 fc9 h0 rfl ⟨rfl, rfl, rfl⟩ g1332 dX11_otherEnd_10 ?_
  refine E_iload_n (pc := 13) hx 1 dX11_otherEnd_13 rfl rfl ?_
  refine I_cSI  (pc := 14) hx [.int (oI p1)] [.ref (shR a0 0), .int (oI (w (shR a0 0) r1))] (ev_X11_w F p1 w) sm_X11_w g1329 dX11_otherEnd_14 rfl rfl (Nat.le_of_ble_eq_true rfl) (Nat.le_of_ble_eq_true rfl) (Nat.le_of_ble_eq_true rfl) (fun r2 => ?_)
  refine I_iconst (pc := 17) hx 1 dX11_otherEnd_17 ?_
  refine I_iadd (pc := 18) hx dX11_otherEnd_18 ?_
  refine I_iald (pc := 19) hx (kt_9_0 h0) dX11_otherEnd_19 ?_
  refine I_iadd (pc := 20) hx dX11_otherEnd_20 ?_
  refine E_iload_n (pc := 21) hx 2 dX11_otherEnd_21 rfl rfl ?_
  refine I_isub (pc := 22) hx dX11_otherEnd_22 ?_
  exact E_iret (pc := 23) hx dX11_otherEnd_23 rfl rfl (Nat.le_of_ble_eq_true rfl)
set_option maxHeartbeats 4000000 in
set_option maxRecDepth 100000 in
theorem l_X11_wayBetween_b2_b {x : Cx} (F : Nat) (a0 : Nat) (h0 : shK a0 = 10 + 9) (p1 : Int) (p2 : Int) (w : aI) (hx : CxOK x RX11 cX11_wayBetween 4 2 0 (some .int))  (k2 : Int → Option Int) (hk2 : ∀ (v3 : Int), En x (jvI w) 0 0 2 [(0, .ref a0), (1, .int (oI p1)), (2, .int (oI p2)), (3, .int (oI v3))] [] (cm w) (k2 v3)) (v3 : Int)  : En x (jvI w) 0 0 2 [(0, .ref a0), (1, .int (oI p1)), (2, .int (oI p2)), (3, .int (oI v3))] [] (cm w) (f_X11_wayBetween_b2_b F a0 p1 p2 w  k2 v3) := by
  unfold f_X11_wayBetween_b2_b
  refine E_iload_n (pc := 2) hx 3 dX11_wayBetween_2 rfl rfl ?_
  refine E_aload_n (pc := 3) hx 0 dX11_wayBetween_3 rfl rfl ?_
  refine E_getR (pc := 4) hx 0 fc9 h0 rfl ⟨rfl, rfl, rfl⟩ g1332 dX11_wayBetween_4 ?_
  refine I_iconst (pc := 7) hx 1 dX11_wayBetween_7 ?_
  refine I_iald (pc := 8) hx (kt_9_0 h0) dX11_wayBetween_8 ?_
  refine E_gd (fun hr1 => ?_)
  refine I_icmp_ge (pc := 9) hx 43 dX11_wayBetween_9 rfl ⟨hr1.1, hr1.2⟩ ?_ ?_
  · refine I_iconst (pc := 43) hx (-1) dX11_wayBetween_43 ?_
    exact E_iret (pc := 44) hx dX11_wayBetween_44 rfl rfl (Nat.le_of_ble_eq_true rfl)
  refine E_iload_n (pc := 12) hx 1 dX11_wayBetween_12 rfl rfl ?_
  refine E_iload_n (pc := 13) hx 2 dX11_wayBetween_13 rfl rfl ?_
  refine E_gd (fun hr2 => ?_)
  refine I_icmp_eq (pc := 14) hx 37 dX11_wayBetween_14 rfl ⟨hr2.1, hr2.2⟩ ?_ ?_
  · refine I_iinc (pc := 37) hx 1 3 dX11_wayBetween_37 rfl (Nat.le_of_ble_eq_true rfl) rfl ?_
    refine E_goto (pc := 40) hx 2 dX11_wayBetween_40 rfl ?_
    refine En.sub [1, 2, 3, 0] rfl ?_
    exact hk2 (v3 + 1)
  refine E_aload_n (pc := 17) hx 0 dX11_wayBetween_17 rfl rfl ?_
  refine E_iload_n (pc := 18) hx 3 dX11_wayBetween_18 rfl rfl ?_
  refine E_iload_n (pc := 19) hx 1 dX11_wayBetween_19 rfl rfl ?_
  refine I_cVB  (pc := 20) hx [.int (oI v3), .int (oI p1)] [] (ev_X11_ends F a0 h0 v3 p1 w) vm_X11_ends fc9 h0 g1524 dX11_wayBetween_20 rfl rfl (Nat.le_of_ble_eq_true rfl) (Nat.le_of_ble_eq_true rfl) (Nat.le_of_ble_eq_true rfl) (fun r3 => ?_)
  refine I_ifB_eq (pc := 23) hx 37 dX11_wayBetween_23 rfl ?_ ?_
  · refine I_iinc (pc := 37) hx 1 3 dX11_wayBetween_37 rfl (Nat.le_of_ble_eq_true rfl) rfl ?_
    refine E_goto (pc := 40) hx 2 dX11_wayBetween_40 rfl ?_
    refine En.sub [1, 2, 3, 0] rfl ?_
    exact hk2 (v3 + 1)
  refine E_aload_n (pc := 26) hx 0 dX11_wayBetween_26 rfl rfl ?_
  refine E_iload_n (pc := 27) hx 3 dX11_wayBetween_27 rfl rfl ?_
  refine E_iload_n (pc := 28) hx 2 dX11_wayBetween_28 rfl rfl ?_
  refine I_cVB  (pc := 29) hx [.int (oI v3), .int (oI p2)] [] (ev_X11_ends F a0 h0 v3 p2 w) vm_X11_ends fc9 h0 g1524 dX11_wayBetween_29 rfl rfl (Nat.le_of_ble_eq_true rfl) (Nat.le_of_ble_eq_true rfl) (Nat.le_of_ble_eq_true rfl) (fun r4 => ?_)
  refine I_ifB_eq (pc := 32) hx 37 dX11_wayBetween_32 rfl ?_ ?_
  · refine I_iinc (pc := 37) hx 1 3 dX11_wayBetween_37 rfl (Nat.le_of_ble_eq_true rfl) rfl ?_
    refine E_goto (pc := 40) hx 2 dX11_wayBetween_40 rfl ?_
    refine En.sub [1, 2, 3, 0] rfl ?_
    exact hk2 (v3 + 1)
  refine E_iload_n (pc := 35) hx 3 dX11_wayBetween_35 rfl rfl ?_
  exact E_iret (pc := 36) hx dX11_wayBetween_36 rfl rfl (Nat.le_of_ble_eq_true rfl)
theorem l_X11_wayBetween_b2 {x : Cx} (F : Nat) (a0 : Nat) (h0 : shK a0 = 10 + 9) (p1 : Int) (p2 : Int) (w : aI) (hx : CxOK x RX11 cX11_wayBetween 4 2 0 (some .int))  : ∀ (n : Nat) (v3 : Int), En x (jvI w) 0 0 2 [(0, .ref a0), (1, .int (oI p1)), (2, .int (oI p2)), (3, .int (oI v3))] [] (cm w) (f_X11_wayBetween_b2 F a0 p1 p2 w  n v3) := by
  intro n
  induction n with
  | zero => intro v3; exact E_none
  | succ n ih => intro v3; exact l_X11_wayBetween_b2_b F a0 h0 p1 p2 w hx  _ ih v3
set_option maxHeartbeats 4000000 in
set_option maxRecDepth 100000 in
theorem ev_X11_wayBetween (F : Nat) (a0 : Nat) (h0 : shK a0 = 10 + 9) (p1 : Int) (p2 : Int) (w : aI) : Ev yX11_wayBetween cX11_wayBetween 4 (some .int) 2 0 (jvI w) [.ref a0, .int (oI p1), .int (oI p2)] (cm w) (f_X11_wayBetween F a0 p1 p2 w) := by
  refine Ev.of (own := RX11) (by decide +kernel) rfl (Nat.le_of_ble_eq_true rfl) (fun x hx => ?_)
  show En x (jvI w) 0 0 0 [(0, .ref a0), (1, .int (oI p1)), (2, .int (oI p2))] [] (cm w) _
  unfold f_X11_wayBetween
  refine I_iconst (pc := 0) hx 0 dX11_wayBetween_0 ?_
  refine E_istore_n (pc := 1) hx dX11_wayBetween_1 rfl (Nat.le_of_ble_eq_true rfl) rfl ?_
  refine En.sub [1, 2, 3, 0] rfl ?_
  exact l_X11_wayBetween_b2 F a0 h0 p1 p2 w hx F 0
set_option maxHeartbeats 4000000 in
set_option maxRecDepth 100000 in
theorem ev_X11_isNearer (F : Nat) (a0 : Nat) (h0 : shK a0 = 10 + 9) (p1 : Int) (p2 : Int) (w : aI) : Ev yX11_isNearer cX11_isNearer 5 (some .boolean) 2 0 jvBW [.ref a0, .int (oI p1), .int (oI p2)] (cm w) (f_X11_isNearer F a0 p1 p2 w) := by
  refine Ev.of (own := RX11) (by decide +kernel) rfl (Nat.le_of_ble_eq_true rfl) (fun x hx => ?_)
  show En x jvBW 0 0 0 [(0, .ref a0), (1, .int (oI p1)), (2, .int (oI p2))] [] (cm w) _
  unfold f_X11_isNearer
  refine E_aload_n (pc := 0) hx 0 dX11_isNearer_0 rfl rfl ?_
  refine E_getR (pc := 1) hx 9 fc9 h0 rfl ⟨rfl, rfl, rfl⟩ g1341 dX11_isNearer_1 ?_
  refine E_aload_n (pc := 4) hx 0 dX11_isNearer_4 rfl rfl ?_
  refine E_iload_n (pc := 5) hx 1 dX11_isNearer_5 rfl rfl ?_
  refine E_iload_n (pc := 6) hx 2 dX11_isNearer_6 rfl rfl ?_
  refine I_cVI  (pc := 7) hx [.int (oI p1), .int (oI p2)] [.ref (shR a0 9)] (ev_X11_otherEnd F a0 h0 p1 p2 w) vm_X11_otherEnd fc9 h0 g1685 dX11_isNearer_7 rfl rfl (Nat.le_of_ble_eq_true rfl) (Nat.le_of_ble_eq_true rfl) (Nat.le_of_ble_eq_true rfl) (fun r1 => ?_)
  refine I_iald (pc := 10) hx (kt_9_9 h0) dX11_isNearer_10 ?_
  refine I_ltv (fun v3_2 => ?_)
  refine E_istore_n (pc := 11) hx dX11_isNearer_11 rfl (Nat.le_of_ble_eq_true rfl) rfl ?_
  refine E_iload_n (pc := 12) hx 0 dX11_isNearer_12 rfl rfl ?_
  refine E_aload_n (pc := 13) hx 1 dX11_isNearer_13 rfl rfl ?_
  refine E_getR (pc := 14) hx 0 fc9 h0 rfl ⟨rfl, rfl, rfl⟩ g1332 dX11_isNearer_14 ?_
  refine E_iload_n (pc := 17) hx 2 dX11_isNearer_17 rfl rfl ?_
  refine I_cSI  (pc := 18) hx [.int (oI p1)] [.ref (shR a0 0), .int (oI v3_2)] (ev_X11_w F p1 w) sm_X11_w g1329 dX11_isNearer_18 rfl rfl (Nat.le_of_ble_eq_true rfl) (Nat.le_of_ble_eq_true rfl) (Nat.le_of_ble_eq_true rfl) (fun r3 => ?_)
  refine I_iconst (pc := 21) hx 2 dX11_isNearer_21 ?_
  refine I_iadd (pc := 22) hx dX11_isNearer_22 ?_
  refine I_iald (pc := 23) hx (kt_9_0 h0) dX11_isNearer_23 ?_
  refine I_iadd (pc := 24) hx dX11_isNearer_24 ?_
  refine I_ltv (fun v4_4 => ?_)
  refine E_istore (pc := 25) hx dX11_isNearer_25 (Nat.le_of_ble_eq_true rfl) rfl ?_
  refine E_iload_n (pc := 27) hx 1 dX11_isNearer_27 rfl rfl ?_
  refine I_iconst (pc := 28) hx (-1) dX11_isNearer_28 ?_
  refine E_gd (fun hr5 => ?_)
  refine I_icmp_eq (pc := 29) hx 53 dX11_isNearer_29 rfl ⟨hr5, (by decide)⟩ ?_ ?_
  · refine I_iconst (pc := 53) hx 0 dX11_isNearer_53 ?_
    exact E_zret (pc := 54) hx dX11_isNearer_54 rfl rfl rfl (Nat.le_of_ble_eq_true rfl)
  refine E_aload_n (pc := 32) hx 2 dX11_isNearer_32 rfl rfl ?_
  refine E_getR (pc := 33) hx 9 fc9 h0 rfl ⟨rfl, rfl, rfl⟩ g1341 dX11_isNearer_33 ?_
  refine E_iload_n (pc := 36) hx 4 dX11_isNearer_36 rfl rfl ?_
  refine I_iald (pc := 37) hx (kt_9_9 h0) dX11_isNearer_37 ?_
  refine I_iconst (pc := 38) hx (-1) dX11_isNearer_38 ?_
  refine E_gd (fun hr6 => ?_)
  refine I_icmp_eq (pc := 39) hx 55 dX11_isNearer_39 rfl ⟨hr6, (by decide)⟩ ?_ ?_
  · refine E_aload_n (pc := 55) hx 2 dX11_isNearer_55 rfl rfl ?_
    refine E_getR (pc := 56) hx 9 fc9 h0 rfl ⟨rfl, rfl, rfl⟩ g1341 dX11_isNearer_56 ?_
    refine E_iload_n (pc := 59) hx 4 dX11_isNearer_59 rfl rfl ?_
    refine E_iload (pc := 60) hx 0 dX11_isNearer_60 rfl ?_
    refine I_iast (pc := 62) hx (kt_9_9 h0) dX11_isNearer_62 (fun w7 => ?_)
    refine I_iconst (pc := 63) hx 1 dX11_isNearer_63 ?_
    exact E_zret (pc := 64) hx dX11_isNearer_64 rfl rfl rfl (Nat.le_of_ble_eq_true rfl)
  refine E_aload_n (pc := 42) hx 2 dX11_isNearer_42 rfl rfl ?_
  refine E_getR (pc := 43) hx 9 fc9 h0 rfl ⟨rfl, rfl, rfl⟩ g1341 dX11_isNearer_43 ?_
  refine E_iload_n (pc := 46) hx 4 dX11_isNearer_46 rfl rfl ?_
  refine I_iald (pc := 47) hx (kt_9_9 h0) dX11_isNearer_47 ?_
  refine E_iload (pc := 48) hx 0 dX11_isNearer_48 rfl ?_
  refine E_gd (fun hr8 => ?_)
  refine I_icmp_gt (pc := 50) hx 55 dX11_isNearer_50 rfl ⟨hr6, hr8⟩ ?_ ?_
  · refine E_aload_n (pc := 55) hx 2 dX11_isNearer_55 rfl rfl ?_
    refine E_getR (pc := 56) hx 9 fc9 h0 rfl ⟨rfl, rfl, rfl⟩ g1341 dX11_isNearer_56 ?_
    refine E_iload_n (pc := 59) hx 4 dX11_isNearer_59 rfl rfl ?_
    refine E_iload (pc := 60) hx 0 dX11_isNearer_60 rfl ?_
    refine I_iast (pc := 62) hx (kt_9_9 h0) dX11_isNearer_62 (fun w9 => ?_)
    refine I_iconst (pc := 63) hx 1 dX11_isNearer_63 ?_
    exact E_zret (pc := 64) hx dX11_isNearer_64 rfl rfl rfl (Nat.le_of_ble_eq_true rfl)
  refine I_iconst (pc := 53) hx 0 dX11_isNearer_53 ?_
  exact E_zret (pc := 54) hx dX11_isNearer_54 rfl rfl rfl (Nat.le_of_ble_eq_true rfl)
set_option maxHeartbeats 4000000 in
set_option maxRecDepth 100000 in
theorem l_X11_reckons_b41_b {x : Cx} (F : Nat) (a0 : Nat) (h0 : shK a0 = 10 + 9) (p1 : Int) (p2 : Int)  (hx : CxOK x RX11 cX11_reckons 5 3 0 none) (k32 : Int → aI → Option aI) (hk32 : ∀ (v3 : Int) (w : aI), En x jvV 0 0 32 [(0, .ref a0), (2, .int (oI p2)), (3, .int (oI v3))] [] (cm w) (k32 v3 w)) (k41 : Int → Int → aI → Option aI) (hk41 : ∀ (v3 : Int) (v4 : Int) (w : aI), En x jvV 0 0 41 [(0, .ref a0), (2, .int (oI p2)), (3, .int (oI v3)), (4, .int (oI v4))] [] (cm w) (k41 v3 v4 w)) (v3 : Int) (v4 : Int) (w : aI) : En x jvV 0 0 41 [(0, .ref a0), (2, .int (oI p2)), (3, .int (oI v3)), (4, .int (oI v4))] [] (cm w) (f_X11_reckons_b41_b F a0 p1 p2  k32 k41 v3 v4 w) := by
  unfold f_X11_reckons_b41_b
  refine E_iload (pc := 41) hx 3 dX11_reckons_41 rfl ?_
  refine E_aload_n (pc := 43) hx 0 dX11_reckons_43 rfl rfl ?_
  refine E_getR (pc := 44) hx 0 fc9 h0 rfl ⟨rfl, rfl, rfl⟩ g1332 dX11_reckons_44 ?_
  refine I_iconst (pc := 47) hx 1 dX11_reckons_47 ?_
  refine I_iald (pc := 48) hx (kt_9_0 h0) dX11_reckons_48 ?_
  refine E_gd (fun hr3 => ?_)
  refine I_icmp_ge (pc := 49) hx 104 dX11_reckons_49 rfl ⟨hr3.1, hr3.2⟩ ?_ ?_
  · refine E_goto (pc := 104) hx 32 dX11_reckons_104 rfl ?_
    refine En.sub [0, 1, 2] rfl ?_
    exact hk32 v3 w
  refine E_iload (pc := 52) hx 3 dX11_reckons_52 rfl ?_
  refine E_iload_n (pc := 54) hx 1 dX11_reckons_54 rfl rfl ?_
  refine E_gd (fun hr4 => ?_)
  refine I_icmp_eq (pc := 55) hx 98 dX11_reckons_55 rfl ⟨hr3.1, hr4⟩ ?_ ?_
  · refine I_iinc (pc := 98) hx 1 3 dX11_reckons_98 rfl (Nat.le_of_ble_eq_true rfl) rfl ?_
    refine E_goto (pc := 101) hx 41 dX11_reckons_101 rfl ?_
    refine En.sub [1, 2, 3, 0] rfl ?_
    exact hk41 v3 (v4 + 1) w
  refine E_iload_n (pc := 58) hx 2 dX11_reckons_58 rfl rfl ?_
  refine E_aload_n (pc := 59) hx 0 dX11_reckons_59 rfl rfl ?_
  refine E_iload (pc := 60) hx 3 dX11_reckons_60 rfl ?_
  refine E_aload_n (pc := 62) hx 0 dX11_reckons_62 rfl rfl ?_
  refine E_getR (pc := 63) hx 0 fc9 h0 rfl ⟨rfl, rfl, rfl⟩ g1332 dX11_reckons_63 ?_
  refine E_iload (pc := 66) hx 3 dX11_reckons_66 rfl ?_
  refine I_cSI  (pc := 68) hx [.int (oI v4)] [.ref (shR a0 0), .int (oI v4), .ref a0, .int (oI v3)] (ev_X11_w F v4 w) sm_X11_w g1329 dX11_reckons_68 rfl rfl (Nat.le_of_ble_eq_true rfl) (Nat.le_of_ble_eq_true rfl) (Nat.le_of_ble_eq_true rfl) (fun r5 => ?_)
  refine I_iald (pc := 71) hx (kt_9_0 h0) dX11_reckons_71 ?_
  refine I_cVBW  (pc := 72) hx [.int (oI v4), .int (oI (w (shR a0 0) r5))] [.int (oI v3)] (ev_X11_isNearer F a0 h0 v4 (w (shR a0 0) r5) w) vm_X11_isNearer fc9 h0 g1681 dX11_reckons_72 rfl rfl (Nat.le_of_ble_eq_true rfl) (Nat.le_of_ble_eq_true rfl) (Nat.le_of_ble_eq_true rfl) (fun r6 w7 => ?_)
  refine I_ior (pc := 75) hx dX11_reckons_75 ?_
  refine I_ltv (fun v3_8 => ?_)
  refine E_istore_n (pc := 76) hx dX11_reckons_76 rfl (Nat.le_of_ble_eq_true rfl) rfl ?_
  refine E_iload_n (pc := 77) hx 0 dX11_reckons_77 rfl rfl ?_
  refine E_aload_n (pc := 78) hx 1 dX11_reckons_78 rfl rfl ?_
  refine E_iload (pc := 79) hx 3 dX11_reckons_79 rfl ?_
  refine E_aload_n (pc := 81) hx 1 dX11_reckons_81 rfl rfl ?_
  refine E_getR (pc := 82) hx 0 fc9 h0 rfl ⟨rfl, rfl, rfl⟩ g1332 dX11_reckons_82 ?_
  refine E_iload (pc := 85) hx 3 dX11_reckons_85 rfl ?_
  refine I_cSI  (pc := 87) hx [.int (oI v4)] [.ref (shR a0 0), .int (oI v4), .ref a0, .int (oI v3_8)] (ev_X11_w F v4 w7) sm_X11_w g1329 dX11_reckons_87 rfl rfl (Nat.le_of_ble_eq_true rfl) (Nat.le_of_ble_eq_true rfl) (Nat.le_of_ble_eq_true rfl) (fun r9 => ?_)
  refine I_iconst (pc := 90) hx 1 dX11_reckons_90 ?_
  refine I_iadd (pc := 91) hx dX11_reckons_91 ?_
  refine I_iald (pc := 92) hx (kt_9_0 h0) dX11_reckons_92 ?_
  refine I_cVBW  (pc := 93) hx [.int (oI v4), .int (oI (w7 (shR a0 0) (r9 + 1)))] [.int (oI v3_8)] (ev_X11_isNearer F a0 h0 v4 (w7 (shR a0 0) (r9 + 1)) w7) vm_X11_isNearer fc9 h0 g1681 dX11_reckons_93 rfl rfl (Nat.le_of_ble_eq_true rfl) (Nat.le_of_ble_eq_true rfl) (Nat.le_of_ble_eq_true rfl) (fun r10 w11 => ?_)
  refine I_ior (pc := 96) hx dX11_reckons_96 ?_
  refine I_ltv (fun v3_12 => ?_)
  refine E_istore_n (pc := 97) hx dX11_reckons_97 rfl (Nat.le_of_ble_eq_true rfl) rfl ?_
  refine I_iinc (pc := 98) hx 1 3 dX11_reckons_98 rfl (Nat.le_of_ble_eq_true rfl) rfl ?_
  refine E_goto (pc := 101) hx 41 dX11_reckons_101 rfl ?_
  refine En.sub [2, 3, 1, 0] rfl ?_
  exact hk41 v3_12 (v4 + 1) w11
theorem l_X11_reckons_b41 {x : Cx} (F : Nat) (a0 : Nat) (h0 : shK a0 = 10 + 9) (p1 : Int) (p2 : Int)  (hx : CxOK x RX11 cX11_reckons 5 3 0 none) (k32 : Int → aI → Option aI) (hk32 : ∀ (v3 : Int) (w : aI), En x jvV 0 0 32 [(0, .ref a0), (2, .int (oI p2)), (3, .int (oI v3))] [] (cm w) (k32 v3 w)) : ∀ (n : Nat) (v3 : Int) (v4 : Int) (w : aI), En x jvV 0 0 41 [(0, .ref a0), (2, .int (oI p2)), (3, .int (oI v3)), (4, .int (oI v4))] [] (cm w) (f_X11_reckons_b41 F a0 p1 p2  k32 n v3 v4 w) := by
  intro n
  induction n with
  | zero => intro v3 v4 w; exact E_none
  | succ n ih => intro v3 v4 w; exact l_X11_reckons_b41_b F a0 h0 p1 p2  hx k32 hk32 _ ih v3 v4 w
set_option maxHeartbeats 4000000 in
set_option maxRecDepth 100000 in
theorem l_X11_reckons_b32_b {x : Cx} (F : Nat) (a0 : Nat) (h0 : shK a0 = 10 + 9) (p1 : Int) (p2 : Int)  (hx : CxOK x RX11 cX11_reckons 5 3 0 none)  (k32 : Int → aI → Option aI) (hk32 : ∀ (v3 : Int) (w : aI), En x jvV 0 0 32 [(0, .ref a0), (2, .int (oI p2)), (3, .int (oI v3))] [] (cm w) (k32 v3 w)) (v3 : Int) (w : aI) : En x jvV 0 0 32 [(0, .ref a0), (2, .int (oI p2)), (3, .int (oI v3))] [] (cm w) (f_X11_reckons_b32_b F a0 p1 p2   k32 v3 w) := by
  unfold f_X11_reckons_b32_b
  refine E_iload_n (pc := 32) hx 2 dX11_reckons_32 rfl rfl ?_
  refine E_gd (fun hr2 => ?_)
  refine I_if_eq (pc := 33) hx 107 dX11_reckons_33 rfl hr2 ?_ ?_
  · exact E_vret (pc := 107) hx dX11_reckons_107 rfl rfl (Nat.le_of_ble_eq_true rfl)
  refine I_iconst (pc := 36) hx 0 dX11_reckons_36 ?_
  refine E_istore_n (pc := 37) hx dX11_reckons_37 rfl (Nat.le_of_ble_eq_true rfl) rfl ?_
  refine I_iconst (pc := 38) hx 0 dX11_reckons_38 ?_
  refine E_istore (pc := 39) hx dX11_reckons_39 (Nat.le_of_ble_eq_true rfl) rfl ?_
  refine En.sub [2, 3, 1, 0] rfl ?_
  exact l_X11_reckons_b41 F a0 h0 p1 p2 hx k32 hk32 F 0 0 w
theorem l_X11_reckons_b32 {x : Cx} (F : Nat) (a0 : Nat) (h0 : shK a0 = 10 + 9) (p1 : Int) (p2 : Int)  (hx : CxOK x RX11 cX11_reckons 5 3 0 none)  : ∀ (n : Nat) (v3 : Int) (w : aI), En x jvV 0 0 32 [(0, .ref a0), (2, .int (oI p2)), (3, .int (oI v3))] [] (cm w) (f_X11_reckons_b32 F a0 p1 p2   n v3 w) := by
  intro n
  induction n with
  | zero => intro v3 w; exact E_none
  | succ n ih => intro v3 w; exact l_X11_reckons_b32_b F a0 h0 p1 p2  hx  _ ih v3 w
set_option maxHeartbeats 4000000 in
set_option maxRecDepth 100000 in
theorem l_X11_reckons_b2_b {x : Cx} (F : Nat) (a0 : Nat) (h0 : shK a0 = 10 + 9) (p1 : Int) (p2 : Int)  (hx : CxOK x RX11 cX11_reckons 5 3 0 none)  (k2 : Int → aI → Option aI) (hk2 : ∀ (v3 : Int) (w : aI), En x jvV 0 0 2 [(0, .ref a0), (1, .int (oI p1)), (2, .int (oI p2)), (3, .int (oI v3))] [] (cm w) (k2 v3 w)) (v3 : Int) (w : aI) : En x jvV 0 0 2 [(0, .ref a0), (1, .int (oI p1)), (2, .int (oI p2)), (3, .int (oI v3))] [] (cm w) (f_X11_reckons_b2_b F a0 p1 p2   k2 v3 w) := by
  unfold f_X11_reckons_b2_b
  refine E_iload_n (pc := 2) hx 3 dX11_reckons_2 rfl rfl ?_
  refine I_bipush (pc := 3) hx 10 dX11_reckons_3 rfl ?_
  refine E_gd (fun hr1 => ?_)
  refine I_icmp_ge (pc := 5) hx 30 dX11_reckons_5 rfl ⟨hr1, (by decide)⟩ ?_ ?_
  · refine I_iconst (pc := 30) hx 1 dX11_reckons_30 ?_
    refine E_istore_n (pc := 31) hx dX11_reckons_31 rfl (Nat.le_of_ble_eq_true rfl) rfl ?_
    refine En.sub [1, 3, 0] rfl ?_
    exact l_X11_reckons_b32 F a0 h0 p1 p2 hx F 1 w
  refine E_aload_n (pc := 8) hx 0 dX11_reckons_8 rfl rfl ?_
  refine E_getR (pc := 9) hx 9 fc9 h0 rfl ⟨rfl, rfl, rfl⟩ g1341 dX11_reckons_9 ?_
  refine E_iload_n (pc := 12) hx 3 dX11_reckons_12 rfl rfl ?_
  refine E_iload_n (pc := 13) hx 3 dX11_reckons_13 rfl rfl ?_
  refine E_iload_n (pc := 14) hx 1 dX11_reckons_14 rfl rfl ?_
  refine E_gd (fun hr13 => ?_)
  refine I_icmp_ne (pc := 15) hx 22 dX11_reckons_15 rfl ⟨hr1, hr13⟩ ?_ ?_
  · refine I_iconst (pc := 22) hx (-1) dX11_reckons_22 ?_
    refine I_iast (pc := 23) hx (kt_9_9 h0) dX11_reckons_23 (fun w14 => ?_)
    refine I_iinc (pc := 24) hx 1 3 dX11_reckons_24 rfl (Nat.le_of_ble_eq_true rfl) rfl ?_
    refine E_goto (pc := 27) hx 2 dX11_reckons_27 rfl ?_
    refine En.sub [1, 2, 3, 0] rfl ?_
    exact hk2 (v3 + 1) w14
  refine I_iconst (pc := 18) hx 0 dX11_reckons_18 ?_
  refine E_goto (pc := 19) hx 23 dX11_reckons_19 rfl ?_
  refine I_iast (pc := 23) hx (kt_9_9 h0) dX11_reckons_23 (fun w15 => ?_)
  refine I_iinc (pc := 24) hx 1 3 dX11_reckons_24 rfl (Nat.le_of_ble_eq_true rfl) rfl ?_
  refine E_goto (pc := 27) hx 2 dX11_reckons_27 rfl ?_
  refine En.sub [1, 2, 3, 0] rfl ?_
  exact hk2 (v3 + 1) w15
theorem l_X11_reckons_b2 {x : Cx} (F : Nat) (a0 : Nat) (h0 : shK a0 = 10 + 9) (p1 : Int) (p2 : Int)  (hx : CxOK x RX11 cX11_reckons 5 3 0 none)  : ∀ (n : Nat) (v3 : Int) (w : aI), En x jvV 0 0 2 [(0, .ref a0), (1, .int (oI p1)), (2, .int (oI p2)), (3, .int (oI v3))] [] (cm w) (f_X11_reckons_b2 F a0 p1 p2   n v3 w) := by
  intro n
  induction n with
  | zero => intro v3 w; exact E_none
  | succ n ih => intro v3 w; exact l_X11_reckons_b2_b F a0 h0 p1 p2  hx  _ ih v3 w
set_option maxHeartbeats 4000000 in
set_option maxRecDepth 100000 in
theorem ev_X11_reckons (F : Nat) (a0 : Nat) (h0 : shK a0 = 10 + 9) (p1 : Int) (p2 : Int) (w : aI) : Ev yX11_reckons cX11_reckons 5 none 3 0 jvV [.ref a0, .int (oI p1), .int (oI p2)] (cm w) (f_X11_reckons F a0 p1 p2 w) := by
  refine Ev.of (own := RX11) (by decide +kernel) rfl (Nat.le_of_ble_eq_true rfl) (fun x hx => ?_)
  show En x jvV 0 0 0 [(0, .ref a0), (1, .int (oI p1)), (2, .int (oI p2))] [] (cm w) _
  unfold f_X11_reckons
  refine I_iconst (pc := 0) hx 0 dX11_reckons_0 ?_
  refine E_istore_n (pc := 1) hx dX11_reckons_1 rfl (Nat.le_of_ble_eq_true rfl) rfl ?_
  refine En.sub [1, 2, 3, 0] rfl ?_
  exact l_X11_reckons_b2 F a0 h0 p1 p2 hx F 0 w
set_option maxHeartbeats 4000000 in
set_option maxRecDepth 100000 in
theorem ev_X11_sumTo (F : Nat) (a0 : Nat) (h0 : shK a0 = 10 + 9) (p1 : Int) (p2 : Int) (w : aI) : Ev yX11_sumTo cX11_sumTo 3 (some .int) 4 0 jvIW [.ref a0, .int (oI p1), .int (oI p2)] (cm w) (f_X11_sumTo F a0 p1 p2 w) := by
  refine Ev.of (own := RX11) (by decide +kernel) rfl (Nat.le_of_ble_eq_true rfl) (fun x hx => ?_)
  show En x jvIW 0 0 0 [(0, .ref a0), (1, .int (oI p1)), (2, .int (oI p2))] [] (cm w) _
  unfold f_X11_sumTo
  refine E_aload_n (pc := 0) hx 0 dX11_sumTo_0 rfl rfl ?_
  refine E_iload_n (pc := 1) hx 2 dX11_sumTo_1 rfl rfl ?_
  refine I_iconst (pc := 2) hx (-1) dX11_sumTo_2 ?_
  refine I_cVV  (pc := 3) hx [.int (oI p2), .int (oI (-1))] [] (ev_X11_reckons F a0 h0 p2 (-1) w) vm_X11_reckons fc9 h0 g1677 dX11_sumTo_3 rfl rfl (Nat.le_of_ble_eq_true rfl) (Nat.le_of_ble_eq_true rfl) (Nat.le_of_ble_eq_true rfl) (fun w1 => ?_)
  refine E_aload_n (pc := 6) hx 0 dX11_sumTo_6 rfl rfl ?_
  refine E_getR (pc := 7) hx 9 fc9 h0 rfl ⟨rfl, rfl, rfl⟩ g1341 dX11_sumTo_7 ?_
  refine E_iload_n (pc := 10) hx 1 dX11_sumTo_10 rfl rfl ?_
  refine I_iald (pc := 11) hx (kt_9_9 h0) dX11_sumTo_11 ?_
  exact E_iret (pc := 12) hx dX11_sumTo_12 rfl rfl (Nat.le_of_ble_eq_true rfl)
set_option maxHeartbeats 4000000 in
set_option maxRecDepth 100000 in
theorem l_X11_nextTo_b100 {x : Cx} (F : Nat) (a0 : Nat) (h0 : shK a0 = 10 + 9) (p1 : Int) (p2 : Int)  (hx : CxOK x RX11 cX11_nextTo 7 5 0 (some .int)) (k22 : Int → Int → aI → Option (Int × aI)) (hk22 : ∀ (v3 : Int) (v4 : Int) (w : aI), En x jvIW 0 0 22 [(0, .ref a0), (1, .int (oI p1)), (3, .int (oI v3)), (4, .int (oI v4))] [] (cm w) (k22 v3 v4 w))  (v3 : Int) (v4 : Int) (v5 : Int) (z0 : Int) (w : aI) : En x jvIW 0 0 100 [(0, .ref a0), (1, .int (oI p1)), (3, .int (oI v3)), (4, .int (oI v4)), (5, .int (oI v5))] [.int (oI z0)] (cm w) (f_X11_nextTo_b100 F a0 p1 p2  k22  v3 v4 v5 z0 w) := by
  unfold f_X11_nextTo_b100
  refine E_istore (pc := 100) hx dX11_nextTo_100 (Nat.le_of_ble_eq_true rfl) rfl ?_
  refine E_iload (pc := 102) hx 0 dX11_nextTo_102 rfl ?_
  refine E_gd (fun hr9 => ?_)
  refine I_if_eq (pc := 104) hx 123 dX11_nextTo_104 rfl hr9 ?_ ?_
  · refine E_iload_n (pc := 123) hx 3 dX11_nextTo_123 rfl rfl ?_
    refine E_istore_n (pc := 124) hx dX11_nextTo_124 rfl (Nat.le_of_ble_eq_true rfl) rfl ?_
    refine I_iinc (pc := 125) hx 1 4 dX11_nextTo_125 rfl (Nat.le_of_ble_eq_true rfl) rfl ?_
    refine E_goto (pc := 128) hx 22 dX11_nextTo_128 rfl ?_
    refine En.sub [3, 4, 1, 0] rfl ?_
    exact hk22 v3 (v4 + 1) w
  refine E_iload_n (pc := 107) hx 3 dX11_nextTo_107 rfl rfl ?_
  refine I_iconst (pc := 108) hx (-1) dX11_nextTo_108 ?_
  refine E_gd (fun hr10 => ?_)
  refine I_icmp_eq (pc := 109) hx 118 dX11_nextTo_109 rfl ⟨hr10, (by decide)⟩ ?_ ?_
  · refine E_iload (pc := 118) hx 5 dX11_nextTo_118 rfl ?_
    refine E_goto (pc := 120) hx 124 dX11_nextTo_120 rfl ?_
    refine E_istore_n (pc := 124) hx dX11_nextTo_124 rfl (Nat.le_of_ble_eq_true rfl) rfl ?_
    refine I_iinc (pc := 125) hx 1 4 dX11_nextTo_125 rfl (Nat.le_of_ble_eq_true rfl) rfl ?_
    refine E_goto (pc := 128) hx 22 dX11_nextTo_128 rfl ?_
    refine En.sub [3, 4, 1, 0] rfl ?_
    exact hk22 v5 (v4 + 1) w
  refine E_iload (pc := 112) hx 5 dX11_nextTo_112 rfl ?_
  refine E_iload_n (pc := 114) hx 3 dX11_nextTo_114 rfl rfl ?_
  refine E_gd (fun hr11 => ?_)
  refine I_icmp_ge (pc := 115) hx 123 dX11_nextTo_115 rfl ⟨hr11, hr10⟩ ?_ ?_
  · refine E_iload_n (pc := 123) hx 3 dX11_nextTo_123 rfl rfl ?_
    refine E_istore_n (pc := 124) hx dX11_nextTo_124 rfl (Nat.le_of_ble_eq_true rfl) rfl ?_
    refine I_iinc (pc := 125) hx 1 4 dX11_nextTo_125 rfl (Nat.le_of_ble_eq_true rfl) rfl ?_
    refine E_goto (pc := 128) hx 22 dX11_nextTo_128 rfl ?_
    refine En.sub [3, 4, 1, 0] rfl ?_
    exact hk22 v3 (v4 + 1) w
  refine E_iload (pc := 118) hx 5 dX11_nextTo_118 rfl ?_
  refine E_goto (pc := 120) hx 124 dX11_nextTo_120 rfl ?_
  refine E_istore_n (pc := 124) hx dX11_nextTo_124 rfl (Nat.le_of_ble_eq_true rfl) rfl ?_
  refine I_iinc (pc := 125) hx 1 4 dX11_nextTo_125 rfl (Nat.le_of_ble_eq_true rfl) rfl ?_
  refine E_goto (pc := 128) hx 22 dX11_nextTo_128 rfl ?_
  refine En.sub [3, 4, 1, 0] rfl ?_
  exact hk22 v5 (v4 + 1) w
set_option maxHeartbeats 4000000 in
set_option maxRecDepth 100000 in
theorem l_X11_nextTo_b99 {x : Cx} (F : Nat) (a0 : Nat) (h0 : shK a0 = 10 + 9) (p1 : Int) (p2 : Int)  (hx : CxOK x RX11 cX11_nextTo 7 5 0 (some .int)) (k22 : Int → Int → aI → Option (Int × aI)) (hk22 : ∀ (v3 : Int) (v4 : Int) (w : aI), En x jvIW 0 0 22 [(0, .ref a0), (1, .int (oI p1)), (3, .int (oI v3)), (4, .int (oI v4))] [] (cm w) (k22 v3 v4 w))  (v3 : Int) (v4 : Int) (v5 : Int) (w : aI) : En x jvIW 0 0 99 [(0, .ref a0), (1, .int (oI p1)), (3, .int (oI v3)), (4, .int (oI v4)), (5, .int (oI v5))] [] (cm w) (f_X11_nextTo_b99 F a0 p1 p2  k22  v3 v4 v5 w) := by
  unfold f_X11_nextTo_b99
  refine I_iconst (pc := 99) hx 0 dX11_nextTo_99 ?_
  exact l_X11_nextTo_b100 F a0 h0 p1 p2 hx k22 hk22 v3 v4 v5 0 w
set_option maxHeartbeats 4000000 in
set_option maxRecDepth 100000 in
theorem l_X11_nextTo_b22_b {x : Cx} (F : Nat) (a0 : Nat) (h0 : shK a0 = 10 + 9) (p1 : Int) (p2 : Int)  (hx : CxOK x RX11 cX11_nextTo 7 5 0 (some .int))  (k22 : Int → Int → aI → Option (Int × aI)) (hk22 : ∀ (v3 : Int) (v4 : Int) (w : aI), En x jvIW 0 0 22 [(0, .ref a0), (1, .int (oI p1)), (3, .int (oI v3)), (4, .int (oI v4))] [] (cm w) (k22 v3 v4 w)) (v3 : Int) (v4 : Int) (w : aI) : En x jvIW 0 0 22 [(0, .ref a0), (1, .int (oI p1)), (3, .int (oI v3)), (4, .int (oI v4))] [] (cm w) (f_X11_nextTo_b22_b F a0 p1 p2   k22 v3 v4 w) := by
  unfold f_X11_nextTo_b22_b
  refine E_iload (pc := 22) hx 3 dX11_nextTo_22 rfl ?_
  refine E_aload_n (pc := 24) hx 0 dX11_nextTo_24 rfl rfl ?_
  refine E_getR (pc := 25) hx 0 fc9 h0 rfl ⟨rfl, rfl, rfl⟩ g1332 dX11_nextTo_25 ?_
  refine I_iconst (pc := 28) hx 1 dX11_nextTo_28 ?_
  refine I_iald (pc := 29) hx (kt_9_0 h0) dX11_nextTo_29 ?_
  refine E_gd (fun hr5 => ?_)
  refine I_icmp_ge (pc := 30) hx 131 dX11_nextTo_30 rfl ⟨hr5.1, hr5.2⟩ ?_ ?_
  · refine E_iload_n (pc := 131) hx 2 dX11_nextTo_131 rfl rfl ?_
    exact E_iret (pc := 132) hx dX11_nextTo_132 rfl rfl (Nat.le_of_ble_eq_true rfl)
  refine E_aload_n (pc := 33) hx 0 dX11_nextTo_33 rfl rfl ?_
  refine E_iload (pc := 34) hx 3 dX11_nextTo_34 rfl ?_
  refine E_iload_n (pc := 36) hx 1 dX11_nextTo_36 rfl rfl ?_
  refine I_cVB  (pc := 37) hx [.int (oI v4), .int (oI p1)] [] (ev_X11_ends F a0 h0 v4 p1 w) vm_X11_ends fc9 h0 g1524 dX11_nextTo_37 rfl rfl (Nat.le_of_ble_eq_true rfl) (Nat.le_of_ble_eq_true rfl) (Nat.le_of_ble_eq_true rfl) (fun r6 => ?_)
  refine I_ifB_ne (pc := 40) hx 46 dX11_nextTo_40 rfl ?_ ?_
  · refine E_aload_n (pc := 46) hx 0 dX11_nextTo_46 rfl rfl ?_
    refine E_iload (pc := 47) hx 3 dX11_nextTo_47 rfl ?_
    refine E_iload_n (pc := 49) hx 1 dX11_nextTo_49 rfl rfl ?_
    refine I_cVI  (pc := 50) hx [.int (oI v4), .int (oI p1)] [] (ev_X11_otherEnd F a0 h0 v4 p1 w) vm_X11_otherEnd fc9 h0 g1685 dX11_nextTo_50 rfl rfl (Nat.le_of_ble_eq_true rfl) (Nat.le_of_ble_eq_true rfl) (Nat.le_of_ble_eq_true rfl) (fun r7 => ?_)
    refine E_istore (pc := 53) hx dX11_nextTo_53 (Nat.le_of_ble_eq_true rfl) rfl ?_
    refine E_aload_n (pc := 55) hx 1 dX11_nextTo_55 rfl rfl ?_
    refine E_getR (pc := 56) hx 9 fc9 h0 rfl ⟨rfl, rfl, rfl⟩ g1341 dX11_nextTo_56 ?_
    refine E_iload (pc := 59) hx 0 dX11_nextTo_59 rfl ?_
    refine I_iald (pc := 61) hx (kt_9_9 h0) dX11_nextTo_61 ?_
    refine I_iconst (pc := 62) hx (-1) dX11_nextTo_62 ?_
    refine E_gd (fun hr8 => ?_)
    refine I_icmp_eq (pc := 63) hx 99 dX11_nextTo_63 rfl ⟨hr8, (by decide)⟩ ?_ ?_
    · refine En.sub [1, 2, 3, 4, 0] rfl ?_
      exact l_X11_nextTo_b99 F a0 h0 p1 p2 hx k22 hk22 v3 v4 r7 w
    refine E_aload_n (pc := 66) hx 1 dX11_nextTo_66 rfl rfl ?_
    refine E_getR (pc := 67) hx 9 fc9 h0 rfl ⟨rfl, rfl, rfl⟩ g1341 dX11_nextTo_67 ?_
    refine E_iload (pc := 70) hx 0 dX11_nextTo_70 rfl ?_
    refine I_iald (pc := 72) hx (kt_9_9 h0) dX11_nextTo_72 ?_
    refine E_aload_n (pc := 73) hx 1 dX11_nextTo_73 rfl rfl ?_
    refine E_getR (pc := 74) hx 0 fc9 h0 rfl ⟨rfl, rfl, rfl⟩ g1332 dX11_nextTo_74 ?_
    refine E_iload (pc := 77) hx 4 dX11_nextTo_77 rfl ?_
    refine I_cSI  (pc := 79) hx [.int (oI v4)] [.ref (shR a0 0), .int (oI (w (shR a0 9) r7))] (ev_X11_w F v4 w) sm_X11_w g1329 dX11_nextTo_79 rfl rfl (Nat.le_of_ble_eq_true rfl) (Nat.le_of_ble_eq_true rfl) (Nat.le_of_ble_eq_true rfl) (fun r12 => ?_)
    refine I_iconst (pc := 82) hx 2 dX11_nextTo_82 ?_
    refine I_iadd (pc := 83) hx dX11_nextTo_83 ?_
    refine I_iald (pc := 84) hx (kt_9_0 h0) dX11_nextTo_84 ?_
    refine I_iadd (pc := 85) hx dX11_nextTo_85 ?_
    refine E_aload_n (pc := 86) hx 1 dX11_nextTo_86 rfl rfl ?_
    refine E_getR (pc := 87) hx 9 fc9 h0 rfl ⟨rfl, rfl, rfl⟩ g1341 dX11_nextTo_87 ?_
    refine E_iload_n (pc := 90) hx 2 dX11_nextTo_90 rfl rfl ?_
    refine I_iald (pc := 91) hx (kt_9_9 h0) dX11_nextTo_91 ?_
    refine E_gd (fun hr13 => ?_)
    refine I_icmp_ne (pc := 92) hx 99 dX11_nextTo_92 rfl ⟨hr13.1, hr13.2⟩ ?_ ?_
    · refine En.sub [1, 2, 3, 4, 0] rfl ?_
      exact l_X11_nextTo_b99 F a0 h0 p1 p2 hx k22 hk22 v3 v4 r7 w
    refine I_iconst (pc := 95) hx 1 dX11_nextTo_95 ?_
    refine E_goto (pc := 96) hx 100 dX11_nextTo_96 rfl ?_
    refine En.sub [1, 2, 3, 4, 0] rfl ?_
    exact l_X11_nextTo_b100 F a0 h0 p1 p2 hx k22 hk22 v3 v4 r7 1 w
  refine E_goto (pc := 43) hx 125 dX11_nextTo_43 rfl ?_
  refine I_iinc (pc := 125) hx 1 3 dX11_nextTo_125 rfl (Nat.le_of_ble_eq_true rfl) rfl ?_
  refine E_goto (pc := 128) hx 22 dX11_nextTo_128 rfl ?_
  refine En.sub [1, 2, 3, 0] rfl ?_
  exact hk22 v3 (v4 + 1) w
theorem l_X11_nextTo_b22 {x : Cx} (F : Nat) (a0 : Nat) (h0 : shK a0 = 10 + 9) (p1 : Int) (p2 : Int)  (hx : CxOK x RX11 cX11_nextTo 7 5 0 (some .int))  : ∀ (n : Nat) (v3 : Int) (v4 : Int) (w : aI), En x jvIW 0 0 22 [(0, .ref a0), (1, .int (oI p1)), (3, .int (oI v3)), (4, .int (oI v4))] [] (cm w) (f_X11_nextTo_b22 F a0 p1 p2   n v3 v4 w) := by
  intro n
  induction n with
  | zero => intro v3 v4 w; exact E_none
  | succ n ih => intro v3 v4 w; exact l_X11_nextTo_b22_b F a0 h0 p1 p2  hx  _ ih v3 v4 w
set_option maxHeartbeats 4000000 in
set_option maxRecDepth 100000 in
theorem ev_X11_nextTo (F : Nat) (a0 : Nat) (h0 : shK a0 = 10 + 9) (p1 : Int) (p2 : Int) (w : aI) : Ev yX11_nextTo cX11_nextTo 7 (some .int) 5 0 jvIW [.ref a0, .int (oI p1), .int (oI p2)] (cm w) (f_X11_nextTo F a0 p1 p2 w) := by
  refine Ev.of (own := RX11) (by decide +kernel) rfl (Nat.le_of_ble_eq_true rfl) (fun x hx => ?_)
  show En x jvIW 0 0 0 [(0, .ref a0), (1, .int (oI p1)), (2, .int (oI p2))] [] (cm w) _
  unfold f_X11_nextTo
  refine E_iload_n (pc := 0) hx 1 dX11_nextTo_0 rfl rfl ?_
  refine E_iload_n (pc := 1) hx 2 dX11_nextTo_1 rfl rfl ?_
  refine E_gd (fun hr1 => ?_)
  refine I_icmp_eq (pc := 2) hx 15 dX11_nextTo_2 rfl ⟨hr1.1, hr1.2⟩ ?_ ?_
  · refine I_iconst (pc := 15) hx (-1) dX11_nextTo_15 ?_
    exact E_iret (pc := 16) hx dX11_nextTo_16 rfl rfl (Nat.le_of_ble_eq_true rfl)
  refine E_aload_n (pc := 5) hx 0 dX11_nextTo_5 rfl rfl ?_
  refine E_iload_n (pc := 6) hx 1 dX11_nextTo_6 rfl rfl ?_
  refine E_iload_n (pc := 7) hx 2 dX11_nextTo_7 rfl rfl ?_
  refine I_cVIW  (pc := 8) hx [.int (oI p1), .int (oI p2)] [] (ev_X11_sumTo F a0 h0 p1 p2 w) vm_X11_sumTo fc9 h0 g1673 dX11_nextTo_8 rfl rfl (Nat.le_of_ble_eq_true rfl) (Nat.le_of_ble_eq_true rfl) (Nat.le_of_ble_eq_true rfl) (fun r2 w3 => ?_)
  refine I_iconst (pc := 11) hx (-1) dX11_nextTo_11 ?_
  refine E_gd (fun hr4 => ?_)
  refine I_icmp_ne (pc := 12) hx 17 dX11_nextTo_12 rfl ⟨hr4, (by decide)⟩ ?_ ?_
  · refine I_iconst (pc := 17) hx (-1) dX11_nextTo_17 ?_
    refine E_istore_n (pc := 18) hx dX11_nextTo_18 rfl (Nat.le_of_ble_eq_true rfl) rfl ?_
    refine I_iconst (pc := 19) hx 0 dX11_nextTo_19 ?_
    refine E_istore (pc := 20) hx dX11_nextTo_20 (Nat.le_of_ble_eq_true rfl) rfl ?_
    refine En.sub [2, 3, 1, 0] rfl ?_
    exact l_X11_nextTo_b22 F a0 h0 p1 p2 hx F (-1) 0 w3
  refine I_iconst (pc := 15) hx (-1) dX11_nextTo_15 ?_
  exact E_iret (pc := 16) hx dX11_nextTo_16 rfl rfl (Nat.le_of_ble_eq_true rfl)
set_option maxHeartbeats 4000000 in
set_option maxRecDepth 100000 in
theorem ev_X11_isBusy (F : Nat) (a0 : Nat) (h0 : shK a0 = 10 + 9) (p1 : Int) (p2 : Int) (w : aI) : Ev yX11_isBusy cX11_isBusy 3 (some .boolean) 1 0 (jvB w) [.ref a0, .int (oI p1), .int (oI p2)] (cm w) (f_X11_isBusy F a0 p1 p2 w) := by
  refine Ev.of (own := RX11) (by decide +kernel) rfl (Nat.le_of_ble_eq_true rfl) (fun x hx => ?_)
  show En x (jvB w) 0 0 0 [(0, .ref a0), (1, .int (oI p1)), (2, .int (oI p2))] [] (cm w) _
  unfold f_X11_isBusy
  refine E_aload_n (pc := 0) hx 0 dX11_isBusy_0 rfl rfl ?_
  refine E_getR (pc := 1) hx 0 fc9 h0 rfl ⟨rfl, rfl, rfl⟩ g1332 dX11_isBusy_1 ?_
  refine E_iload_n (pc := 4) hx 1 dX11_isBusy_4 rfl rfl ?_
  refine I_cSI  (pc := 5) hx [.int (oI p1)] [.ref (shR a0 0)] (ev_X11_r F p1 w) sm_X11_r g1322 dX11_isBusy_5 rfl rfl (Nat.le_of_ble_eq_true rfl) (Nat.le_of_ble_eq_true rfl) (Nat.le_of_ble_eq_true rfl) (fun r1 => ?_)
  refine I_bipush (pc := 8) hx 11 dX11_isBusy_8 rfl ?_
  refine I_iadd (pc := 10) hx dX11_isBusy_10 ?_
  refine I_iald (pc := 11) hx (kt_9_0 h0) dX11_isBusy_11 ?_
  refine E_iload_n (pc := 12) hx 2 dX11_isBusy_12 rfl rfl ?_
  refine E_gd (fun hr2 => ?_)
  refine I_icmp_le (pc := 13) hx 20 dX11_isBusy_13 rfl ⟨hr2.1, hr2.2⟩ ?_ ?_
  · refine I_iconst (pc := 20) hx 0 dX11_isBusy_20 ?_
    exact E_zret (pc := 21) hx dX11_isBusy_21 rfl rfl rfl (Nat.le_of_ble_eq_true rfl)
  refine I_iconst (pc := 16) hx 1 dX11_isBusy_16 ?_
  refine E_goto (pc := 17) hx 21 dX11_isBusy_17 rfl ?_
  exact E_zret (pc := 21) hx dX11_isBusy_21 rfl rfl rfl (Nat.le_of_ble_eq_true rfl)
set_option maxHeartbeats 4000000 in
set_option maxRecDepth 100000 in
theorem ev_X11_barsOf (F : Nat) (a0 : Nat) (h0 : shK a0 = 10 + 9) (p1 : Int) (w : aI) : Ev yX11_barsOf cX11_barsOf 2 (some .int) 0 0 (jvI w) [.ref a0, .int (oI p1)] (cm w) (f_X11_barsOf F a0 p1 w) := by
  refine Ev.of (own := RX11) (by decide +kernel) rfl (Nat.le_of_ble_eq_true rfl) (fun x hx => ?_)
  show En x (jvI w) 0 0 0 [(0, .ref a0), (1, .int (oI p1))] [] (cm w) _
  unfold f_X11_barsOf
  refine E_iload_n (pc := 0) hx 1 dX11_barsOf_0 rfl rfl ?_
  refine I_iconst (pc := 1) hx 3 dX11_barsOf_1 ?_
  refine I_iadd (pc := 2) hx dX11_barsOf_2 ?_
  refine I_iconst (pc := 3) hx 4 dX11_barsOf_3 ?_
  refine E_gd (fun hr1 => ?_)
  refine I_idiv (pc := 4) hx dX11_barsOf_4 ⟨hr1, (by decide), (by decide)⟩ ?_
  exact E_iret (pc := 5) hx dX11_barsOf_5 rfl rfl (Nat.le_of_ble_eq_true rfl)
set_option maxHeartbeats 4000000 in
set_option maxRecDepth 100000 in
theorem ev_X11_bars (F : Nat) (a0 : Nat) (h0 : shK a0 = 10 + 9) (p1 : Int) (w : aI) : Ev yX11_bars cX11_bars 2 (some .int) 1 0 (jvI w) [.ref a0, .int (oI p1)] (cm w) (f_X11_bars F a0 p1 w) := by
  refine Ev.of (own := RX11) (by decide +kernel) rfl (Nat.le_of_ble_eq_true rfl) (fun x hx => ?_)
  show En x (jvI w) 0 0 0 [(0, .ref a0), (1, .int (oI p1))] [] (cm w) _
  unfold f_X11_bars
  refine E_aload_n (pc := 0) hx 0 dX11_bars_0 rfl rfl ?_
  refine E_aload_n (pc := 1) hx 0 dX11_bars_1 rfl rfl ?_
  refine E_getR (pc := 2) hx 0 fc9 h0 rfl ⟨rfl, rfl, rfl⟩ g1332 dX11_bars_2 ?_
  refine E_iload_n (pc := 5) hx 1 dX11_bars_5 rfl rfl ?_
  refine I_cSI  (pc := 6) hx [.int (oI p1)] [.ref (shR a0 0), .ref a0] (ev_X11_t F p1 w) sm_X11_t g1594 dX11_bars_6 rfl rfl (Nat.le_of_ble_eq_true rfl) (Nat.le_of_ble_eq_true rfl) (Nat.le_of_ble_eq_true rfl) (fun r1 => ?_)
  refine I_iconst (pc := 9) hx 2 dX11_bars_9 ?_
  refine I_iadd (pc := 10) hx dX11_bars_10 ?_
  refine I_iald (pc := 11) hx (kt_9_0 h0) dX11_bars_11 ?_
  refine I_cVI  (pc := 12) hx [.int (oI (w (shR a0 0) (r1 + 2)))] [] (ev_X11_barsOf F a0 h0 (w (shR a0 0) (r1 + 2)) w) vm_X11_barsOf fc9 h0 g1657 dX11_bars_12 rfl rfl (Nat.le_of_ble_eq_true rfl) (Nat.le_of_ble_eq_true rfl) (Nat.le_of_ble_eq_true rfl) (fun r2 => ?_)
  exact E_iret (pc := 15) hx dX11_bars_15 rfl rfl (Nat.le_of_ble_eq_true rfl)
set_option maxHeartbeats 4000000 in
set_option maxRecDepth 100000 in
theorem ev_X11_waitsAt (F : Nat) (a0 : Nat) (h0 : shK a0 = 10 + 9) (p1 : Int) (p2 : Int) (w : aI) : Ev yX11_waitsAt cX11_waitsAt 3 (some .boolean) 1 0 (jvB w) [.ref a0, .int (oI p1), .int (oI p2)] (cm w) (f_X11_waitsAt F a0 p1 p2 w) := by
  refine Ev.of (own := RX11) (by decide +kernel) rfl (Nat.le_of_ble_eq_true rfl) (fun x hx => ?_)
  show En x (jvB w) 0 0 0 [(0, .ref a0), (1, .int (oI p1)), (2, .int (oI p2))] [] (cm w) _
  unfold f_X11_waitsAt
  refine E_aload_n (pc := 0) hx 0 dX11_waitsAt_0 rfl rfl ?_
  refine E_getR (pc := 1) hx 0 fc9 h0 rfl ⟨rfl, rfl, rfl⟩ g1332 dX11_waitsAt_1 ?_
  refine E_iload_n (pc := 4) hx 1 dX11_waitsAt_4 rfl rfl ?_
  refine I_cSI  (pc := 5) hx [.int (oI p1)] [.ref (shR a0 0)] (ev_X11_t F p1 w) sm_X11_t g1594 dX11_waitsAt_5 rfl rfl (Nat.le_of_ble_eq_true rfl) (Nat.le_of_ble_eq_true rfl) (Nat.le_of_ble_eq_true rfl) (fun r1 => ?_)
  refine I_iconst (pc := 8) hx 3 dX11_waitsAt_8 ?_
  refine I_iadd (pc := 9) hx dX11_waitsAt_9 ?_
  refine I_iald (pc := 10) hx (kt_9_0 h0) dX11_waitsAt_10 ?_
  refine E_gd (fun hr2 => ?_)
  refine I_if_ne (pc := 11) hx 33 dX11_waitsAt_11 rfl hr2 ?_ ?_
  · refine I_iconst (pc := 33) hx 0 dX11_waitsAt_33 ?_
    exact E_zret (pc := 34) hx dX11_waitsAt_34 rfl rfl rfl (Nat.le_of_ble_eq_true rfl)
  refine E_aload_n (pc := 14) hx 0 dX11_waitsAt_14 rfl rfl ?_
  refine E_getR (pc := 15) hx 0 fc9 h0 rfl ⟨rfl, rfl, rfl⟩ g1332 dX11_waitsAt_15 ?_
  refine E_iload_n (pc := 18) hx 1 dX11_waitsAt_18 rfl rfl ?_
  refine I_cSI  (pc := 19) hx [.int (oI p1)] [.ref (shR a0 0)] (ev_X11_t F p1 w) sm_X11_t g1594 dX11_waitsAt_19 rfl rfl (Nat.le_of_ble_eq_true rfl) (Nat.le_of_ble_eq_true rfl) (Nat.le_of_ble_eq_true rfl) (fun r3 => ?_)
  refine I_iconst (pc := 22) hx 4 dX11_waitsAt_22 ?_
  refine I_iadd (pc := 23) hx dX11_waitsAt_23 ?_
  refine I_iald (pc := 24) hx (kt_9_0 h0) dX11_waitsAt_24 ?_
  refine E_iload_n (pc := 25) hx 2 dX11_waitsAt_25 rfl rfl ?_
  refine E_gd (fun hr4 => ?_)
  refine I_icmp_ne (pc := 26) hx 33 dX11_waitsAt_26 rfl ⟨hr4.1, hr4.2⟩ ?_ ?_
  · refine I_iconst (pc := 33) hx 0 dX11_waitsAt_33 ?_
    exact E_zret (pc := 34) hx dX11_waitsAt_34 rfl rfl rfl (Nat.le_of_ble_eq_true rfl)
  refine I_iconst (pc := 29) hx 1 dX11_waitsAt_29 ?_
  refine E_goto (pc := 30) hx 34 dX11_waitsAt_30 rfl ?_
  exact E_zret (pc := 34) hx dX11_waitsAt_34 rfl rfl rfl (Nat.le_of_ble_eq_true rfl)
set_option maxHeartbeats 4000000 in
set_option maxRecDepth 100000 in
theorem l_X11_unlike_b4_b {x : Cx} (F : Nat) (a0 : Nat) (h0 : shK a0 = 10 + 9) (p1 : Int) (w : aI) (hx : CxOK x RX11 cX11_unlike 4 1 0 (some .int))  (k4 : Int → Int → Option Int) (hk4 : ∀ (v2 : Int) (v3 : Int), En x (jvI w) 0 0 4 [(0, .ref a0), (1, .int (oI p1)), (2, .int (oI v2)), (3, .int (oI v3))] [] (cm w) (k4 v2 v3)) (v2 : Int) (v3 : Int)  : En x (jvI w) 0 0 4 [(0, .ref a0), (1, .int (oI p1)), (2, .int (oI v2)), (3, .int (oI v3))] [] (cm w) (f_X11_unlike_b4_b F a0 p1 w  k4 v2 v3) := by
  unfold f_X11_unlike_b4_b
  refine E_iload_n (pc := 4) hx 3 dX11_unlike_4 rfl rfl ?_
  refine E_aload_n (pc := 5) hx 0 dX11_unlike_5 rfl rfl ?_
  refine E_getR (pc := 6) hx 0 fc9 h0 rfl ⟨rfl, rfl, rfl⟩ g1332 dX11_unlike_6 ?_
  refine E_iload_n (pc := 9) hx 1 dX11_unlike_9 rfl rfl ?_
  refine I_cSI  (pc := 10) hx [.int (oI p1)] [.ref (shR a0 0), .int (oI v3)] (ev_X11_t F p1 w) sm_X11_t g1594 dX11_unlike_10 rfl rfl (Nat.le_of_ble_eq_true rfl) (Nat.le_of_ble_eq_true rfl) (Nat.le_of_ble_eq_true rfl) (fun r1 => ?_)
  refine I_iconst (pc := 13) hx 2 dX11_unlike_13 ?_
  refine I_iadd (pc := 14) hx dX11_unlike_14 ?_
  refine I_iald (pc := 15) hx (kt_9_0 h0) dX11_unlike_15 ?_
  refine E_gd (fun hr2 => ?_)
  refine I_icmp_ge (pc := 16) hx 67 dX11_unlike_16 rfl ⟨hr2.1, hr2.2⟩ ?_ ?_
  · refine E_iload_n (pc := 67) hx 2 dX11_unlike_67 rfl rfl ?_
    exact E_iret (pc := 68) hx dX11_unlike_68 rfl rfl (Nat.le_of_ble_eq_true rfl)
  refine E_iload_n (pc := 19) hx 2 dX11_unlike_19 rfl rfl ?_
  refine E_aload_n (pc := 20) hx 0 dX11_unlike_20 rfl rfl ?_
  refine E_getR (pc := 21) hx 0 fc9 h0 rfl ⟨rfl, rfl, rfl⟩ g1332 dX11_unlike_21 ?_
  refine E_iload_n (pc := 24) hx 1 dX11_unlike_24 rfl rfl ?_
  refine I_cSI  (pc := 25) hx [.int (oI p1)] [.ref (shR a0 0), .int (oI v2)] (ev_X11_t F p1 w) sm_X11_t g1594 dX11_unlike_25 rfl rfl (Nat.le_of_ble_eq_true rfl) (Nat.le_of_ble_eq_true rfl) (Nat.le_of_ble_eq_true rfl) (fun r3 => ?_)
  refine I_bipush (pc := 28) hx 11 dX11_unlike_28 rfl ?_
  refine I_iadd (pc := 30) hx dX11_unlike_30 ?_
  refine E_iload_n (pc := 31) hx 3 dX11_unlike_31 rfl rfl ?_
  refine I_iadd (pc := 32) hx dX11_unlike_32 ?_
  refine I_iald (pc := 33) hx (kt_9_0 h0) dX11_unlike_33 ?_
  refine E_aload_n (pc := 34) hx 0 dX11_unlike_34 rfl rfl ?_
  refine E_getR (pc := 35) hx 0 fc9 h0 rfl ⟨rfl, rfl, rfl⟩ g1332 dX11_unlike_35 ?_
  refine E_iload_n (pc := 38) hx 1 dX11_unlike_38 rfl rfl ?_
  refine I_cSI  (pc := 39) hx [.int (oI p1)] [.ref (shR a0 0), .int (oI (w (shR a0 0) ((r3 + 11) + v3))), .int (oI v2)] (ev_X11_t F p1 w) sm_X11_t g1594 dX11_unlike_39 rfl rfl (Nat.le_of_ble_eq_true rfl) (Nat.le_of_ble_eq_true rfl) (Nat.le_of_ble_eq_true rfl) (fun r4 => ?_)
  refine I_bipush (pc := 42) hx 19 dX11_unlike_42 rfl ?_
  refine I_iadd (pc := 44) hx dX11_unlike_44 ?_
  refine E_iload_n (pc := 45) hx 3 dX11_unlike_45 rfl rfl ?_
  refine I_iadd (pc := 46) hx dX11_unlike_46 ?_
  refine I_iald (pc := 47) hx (kt_9_0 h0) dX11_unlike_47 ?_
  refine E_gd (fun hr5 => ?_)
  refine I_icmp_eq (pc := 48) hx 55 dX11_unlike_48 rfl ⟨hr5.1, hr5.2⟩ ?_ ?_
  · refine I_iconst (pc := 55) hx 0 dX11_unlike_55 ?_
    refine I_cSI  (pc := 56) hx [.int (oI 0)] [.int (oI v2)] (ev_X11_one F 0 w) sm_X11_one g1597 dX11_unlike_56 rfl rfl (Nat.le_of_ble_eq_true rfl) (Nat.le_of_ble_eq_true rfl) (Nat.le_of_ble_eq_true rfl) (fun r6 => ?_)
    refine I_iadd (pc := 59) hx dX11_unlike_59 ?_
    refine I_ltv (fun v2_7 => ?_)
    refine E_istore_n (pc := 60) hx dX11_unlike_60 rfl (Nat.le_of_ble_eq_true rfl) rfl ?_
    refine I_iinc (pc := 61) hx 1 3 dX11_unlike_61 rfl (Nat.le_of_ble_eq_true rfl) rfl ?_
    refine E_goto (pc := 64) hx 4 dX11_unlike_64 rfl ?_
    refine En.sub [2, 3, 1, 0] rfl ?_
    exact hk4 v2_7 (v3 + 1)
  refine I_iconst (pc := 51) hx 1 dX11_unlike_51 ?_
  refine E_goto (pc := 52) hx 56 dX11_unlike_52 rfl ?_
  refine I_cSI  (pc := 56) hx [.int (oI 1)] [.int (oI v2)] (ev_X11_one F 1 w) sm_X11_one g1597 dX11_unlike_56 rfl rfl (Nat.le_of_ble_eq_true rfl) (Nat.le_of_ble_eq_true rfl) (Nat.le_of_ble_eq_true rfl) (fun r8 => ?_)
  refine I_iadd (pc := 59) hx dX11_unlike_59 ?_
  refine I_ltv (fun v2_9 => ?_)
  refine E_istore_n (pc := 60) hx dX11_unlike_60 rfl (Nat.le_of_ble_eq_true rfl) rfl ?_
  refine I_iinc (pc := 61) hx 1 3 dX11_unlike_61 rfl (Nat.le_of_ble_eq_true rfl) rfl ?_
  refine E_goto (pc := 64) hx 4 dX11_unlike_64 rfl ?_
  refine En.sub [2, 3, 1, 0] rfl ?_
  exact hk4 v2_9 (v3 + 1)
theorem l_X11_unlike_b4 {x : Cx} (F : Nat) (a0 : Nat) (h0 : shK a0 = 10 + 9) (p1 : Int) (w : aI) (hx : CxOK x RX11 cX11_unlike 4 1 0 (some .int))  : ∀ (n : Nat) (v2 : Int) (v3 : Int), En x (jvI w) 0 0 4 [(0, .ref a0), (1, .int (oI p1)), (2, .int (oI v2)), (3, .int (oI v3))] [] (cm w) (f_X11_unlike_b4 F a0 p1 w  n v2 v3) := by
  intro n
  induction n with
  | zero => intro v2 v3; exact E_none
  | succ n ih => intro v2 v3; exact l_X11_unlike_b4_b F a0 h0 p1 w hx  _ ih v2 v3
set_option maxHeartbeats 4000000 in
set_option maxRecDepth 100000 in
theorem ev_X11_unlike (F : Nat) (a0 : Nat) (h0 : shK a0 = 10 + 9) (p1 : Int) (w : aI) : Ev yX11_unlike cX11_unlike 4 (some .int) 1 0 (jvI w) [.ref a0, .int (oI p1)] (cm w) (f_X11_unlike F a0 p1 w) := by
  refine Ev.of (own := RX11) (by decide +kernel) rfl (Nat.le_of_ble_eq_true rfl) (fun x hx => ?_)
  show En x (jvI w) 0 0 0 [(0, .ref a0), (1, .int (oI p1))] [] (cm w) _
  unfold f_X11_unlike
  refine I_iconst (pc := 0) hx 0 dX11_unlike_0 ?_
  refine E_istore_n (pc := 1) hx dX11_unlike_1 rfl (Nat.le_of_ble_eq_true rfl) rfl ?_
  refine I_iconst (pc := 2) hx 0 dX11_unlike_2 ?_
  refine E_istore_n (pc := 3) hx dX11_unlike_3 rfl (Nat.le_of_ble_eq_true rfl) rfl ?_
  refine En.sub [2, 3, 1, 0] rfl ?_
  exact l_X11_unlike_b4 F a0 h0 p1 w hx F 0 0
set_option maxHeartbeats 4000000 in
set_option maxRecDepth 100000 in
theorem l_X11_hearsAsSent_b2_b {x : Cx} (F : Nat) (a0 : Nat) (h0 : shK a0 = 10 + 9) (p1 : Int)  (hx : CxOK x RX11 cX11_hearsAsSent 3 1 0 none)  (k2 : Int → aI → Option aI) (hk2 : ∀ (v2 : Int) (w : aI), En x jvV 0 0 2 [(0, .ref a0), (1, .int (oI p1)), (2, .int (oI v2))] [] (cm w) (k2 v2 w)) (v2 : Int) (w : aI) : En x jvV 0 0 2 [(0, .ref a0), (1, .int (oI p1)), (2, .int (oI v2))] [] (cm w) (f_X11_hearsAsSent_b2_b F a0 p1   k2 v2 w) := by
  unfold f_X11_hearsAsSent_b2_b
  refine E_iload_n (pc := 2) hx 2 dX11_hearsAsSent_2 rfl rfl ?_
  refine I_bipush (pc := 3) hx 8 dX11_hearsAsSent_3 rfl ?_
  refine E_gd (fun hr1 => ?_)
  refine I_icmp_ge (pc := 5) hx 42 dX11_hearsAsSent_5 rfl ⟨hr1, (by decide)⟩ ?_ ?_
  · exact E_vret (pc := 42) hx dX11_hearsAsSent_42 rfl rfl (Nat.le_of_ble_eq_true rfl)
  refine E_aload_n (pc := 8) hx 0 dX11_hearsAsSent_8 rfl rfl ?_
  refine E_getR (pc := 9) hx 0 fc9 h0 rfl ⟨rfl, rfl, rfl⟩ g1332 dX11_hearsAsSent_9 ?_
  refine E_iload_n (pc := 12) hx 1 dX11_hearsAsSent_12 rfl rfl ?_
  refine I_cSI  (pc := 13) hx [.int (oI p1)] [.ref (shR a0 0)] (ev_X11_t F p1 w) sm_X11_t g1594 dX11_hearsAsSent_13 rfl rfl (Nat.le_of_ble_eq_true rfl) (Nat.le_of_ble_eq_true rfl) (Nat.le_of_ble_eq_true rfl) (fun r2 => ?_)
  refine I_bipush (pc := 16) hx 19 dX11_hearsAsSent_16 rfl ?_
  refine I_iadd (pc := 18) hx dX11_hearsAsSent_18 ?_
  refine E_iload_n (pc := 19) hx 2 dX11_hearsAsSent_19 rfl rfl ?_
  refine I_iadd (pc := 20) hx dX11_hearsAsSent_20 ?_
  refine E_aload_n (pc := 21) hx 0 dX11_hearsAsSent_21 rfl rfl ?_
  refine E_getR (pc := 22) hx 0 fc9 h0 rfl ⟨rfl, rfl, rfl⟩ g1332 dX11_hearsAsSent_22 ?_
  refine E_iload_n (pc := 25) hx 1 dX11_hearsAsSent_25 rfl rfl ?_
  refine I_cSI  (pc := 26) hx [.int (oI p1)] [.ref (shR a0 0), .int (oI ((r2 + 19) + v2)), .ref (shR a0 0)] (ev_X11_t F p1 w) sm_X11_t g1594 dX11_hearsAsSent_26 rfl rfl (Nat.le_of_ble_eq_true rfl) (Nat.le_of_ble_eq_true rfl) (Nat.le_of_ble_eq_true rfl) (fun r3 => ?_)
  refine I_bipush (pc := 29) hx 11 dX11_hearsAsSent_29 rfl ?_
  refine I_iadd (pc := 31) hx dX11_hearsAsSent_31 ?_
  refine E_iload_n (pc := 32) hx 2 dX11_hearsAsSent_32 rfl rfl ?_
  refine I_iadd (pc := 33) hx dX11_hearsAsSent_33 ?_
  refine I_iald (pc := 34) hx (kt_9_0 h0) dX11_hearsAsSent_34 ?_
  refine I_iast (pc := 35) hx (kt_9_0 h0) dX11_hearsAsSent_35 (fun w4 => ?_)
  refine I_iinc (pc := 36) hx 1 2 dX11_hearsAsSent_36 rfl (Nat.le_of_ble_eq_true rfl) rfl ?_
  refine E_goto (pc := 39) hx 2 dX11_hearsAsSent_39 rfl ?_
  refine En.sub [1, 2, 0] rfl ?_
  exact hk2 (v2 + 1) w4
theorem l_X11_hearsAsSent_b2 {x : Cx} (F : Nat) (a0 : Nat) (h0 : shK a0 = 10 + 9) (p1 : Int)  (hx : CxOK x RX11 cX11_hearsAsSent 3 1 0 none)  : ∀ (n : Nat) (v2 : Int) (w : aI), En x jvV 0 0 2 [(0, .ref a0), (1, .int (oI p1)), (2, .int (oI v2))] [] (cm w) (f_X11_hearsAsSent_b2 F a0 p1   n v2 w) := by
  intro n
  induction n with
  | zero => intro v2 w; exact E_none
  | succ n ih => intro v2 w; exact l_X11_hearsAsSent_b2_b F a0 h0 p1  hx  _ ih v2 w
set_option maxHeartbeats 4000000 in
set_option maxRecDepth 100000 in
theorem ev_X11_hearsAsSent (F : Nat) (a0 : Nat) (h0 : shK a0 = 10 + 9) (p1 : Int) (w : aI) : Ev yX11_hearsAsSent cX11_hearsAsSent 3 none 1 0 jvV [.ref a0, .int (oI p1)] (cm w) (f_X11_hearsAsSent F a0 p1 w) := by
  refine Ev.of (own := RX11) (by decide +kernel) rfl (Nat.le_of_ble_eq_true rfl) (fun x hx => ?_)
  show En x jvV 0 0 0 [(0, .ref a0), (1, .int (oI p1))] [] (cm w) _
  unfold f_X11_hearsAsSent
  refine I_iconst (pc := 0) hx 0 dX11_hearsAsSent_0 ?_
  refine E_istore_n (pc := 1) hx dX11_hearsAsSent_1 rfl (Nat.le_of_ble_eq_true rfl) rfl ?_
  refine En.sub [1, 2, 0] rfl ?_
  exact l_X11_hearsAsSent_b2 F a0 h0 p1 hx F 0 w
