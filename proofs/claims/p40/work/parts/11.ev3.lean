set_option maxHeartbeats 4000000 in
set_option maxRecDepth 100000 in
theorem ev_X5_isStatementRead (F : Nat) (a0 : Nat) (h0 : shK a0 = 10 + 5) (w : aI) : Ev yX5_isStatementRead cX5_isStatementRead 2 (some .boolean) 8 0 jvBW [.ref a0] (cm w) (f_X5_isStatementRead F a0 w) := by
  refine Ev.of (own := RX5) (by decide +kernel) rfl (Nat.le_of_ble_eq_true rfl) (fun x hx => ?_)
  show En x jvBW 0 0 0 [(0, .ref a0)] [] (cm w) _
  unfold f_X5_isStatementRead
  refine E_aload_n (pc := 0) hx 0 dX5_isStatementRead_0 rfl rfl ?_
  refine E_getR (pc := 1) hx 0 fc5 h0 (hx.ci h0 (Nat.le_of_ble_eq_true rfl)) rfl ⟨rfl, rfl, rfl⟩ g231 dX5_isStatementRead_1 ?_
  refine E_ldcS (pc := 4) hx (tx := xTx.getD 18 "") 18 (by decide +kernel) dX5_isStatementRead_4 ?_
  refine I_cVB  (pc := 6) hx [.ref (sx 18)] [] (ev_X9_isWord F (shR a0 0) (kt_5_0 h0) 18 w) vm_X9_isWord fc7 (kt_5_0 h0) (hx.ci (kt_5_0 h0) (Nat.le_of_ble_eq_true rfl)) g360 dX5_isStatementRead_6 rfl rfl (Nat.le_of_ble_eq_true rfl) (Nat.le_of_ble_eq_true rfl) (Nat.le_of_ble_eq_true rfl) (fun r1 => ?_)
  refine I_ifB_eq (pc := 9) hx 17 dX5_isStatementRead_9 rfl ?_ ?_
  · refine E_aload_n (pc := 17) hx 0 dX5_isStatementRead_17 rfl rfl ?_
    refine E_getR (pc := 18) hx 0 fc5 h0 (hx.ci h0 (Nat.le_of_ble_eq_true rfl)) rfl ⟨rfl, rfl, rfl⟩ g231 dX5_isStatementRead_18 ?_
    refine E_ldcS (pc := 21) hx (tx := xTx.getD 19 "") 19 (by decide +kernel) dX5_isStatementRead_21 ?_
    refine I_cVB  (pc := 23) hx [.ref (sx 19)] [] (ev_X9_isWord F (shR a0 0) (kt_5_0 h0) 19 w) vm_X9_isWord fc7 (kt_5_0 h0) (hx.ci (kt_5_0 h0) (Nat.le_of_ble_eq_true rfl)) g360 dX5_isStatementRead_23 rfl rfl (Nat.le_of_ble_eq_true rfl) (Nat.le_of_ble_eq_true rfl) (Nat.le_of_ble_eq_true rfl) (fun r2 => ?_)
    refine I_ifB_eq (pc := 26) hx 34 dX5_isStatementRead_26 rfl ?_ ?_
    · refine E_aload_n (pc := 34) hx 0 dX5_isStatementRead_34 rfl rfl ?_
      refine E_getR (pc := 35) hx 0 fc5 h0 (hx.ci h0 (Nat.le_of_ble_eq_true rfl)) rfl ⟨rfl, rfl, rfl⟩ g231 dX5_isStatementRead_35 ?_
      refine I_cVI  (pc := 38) hx [] [] (ev_X9_settingWord F (shR a0 0) (kt_5_0 h0) w) vm_X9_settingWord fc7 (kt_5_0 h0) (hx.ci (kt_5_0 h0) (Nat.le_of_ble_eq_true rfl)) g427 dX5_isStatementRead_38 rfl rfl (Nat.le_of_ble_eq_true rfl) (Nat.le_of_ble_eq_true rfl) (Nat.le_of_ble_eq_true rfl) (fun r3 => ?_)
      refine E_istore_n (pc := 41) hx dX5_isStatementRead_41 rfl (Nat.le_of_ble_eq_true rfl) rfl ?_
      refine E_iload_n (pc := 42) hx 0 dX5_isStatementRead_42 rfl rfl ?_
      refine I_iconst (pc := 43) hx (-1) dX5_isStatementRead_43 ?_
      refine E_gd (fun hr4 => ?_)
      refine I_icmp_ne (pc := 44) hx 58 dX5_isStatementRead_44 rfl ⟨hr4, (by decide)⟩ ?_ ?_
      · refine E_aload_n (pc := 58) hx 1 dX5_isStatementRead_58 rfl rfl ?_
        refine E_iload_n (pc := 59) hx 0 dX5_isStatementRead_59 rfl rfl ?_
        refine I_cVBW  (pc := 60) hx [.int (oI r3)] [] (ev_X5_isSettingRead F a0 h0 r3 w) vm_X5_isSettingRead fc5 h0 (hx.ci h0 (Nat.le_of_ble_eq_true rfl)) g435 dX5_isStatementRead_60 rfl rfl (Nat.le_of_ble_eq_true rfl) (Nat.le_of_ble_eq_true rfl) (Nat.le_of_ble_eq_true rfl) (fun r5 w6 => ?_)
        exact E_zret (pc := 63) hx dX5_isStatementRead_63 rfl (bI_nar _) rfl (Nat.le_of_ble_eq_true rfl)
      refine E_aload_n (pc := 47) hx 1 dX5_isStatementRead_47 rfl rfl ?_
      refine E_getR (pc := 48) hx 0 fc5 h0 (hx.ci h0 (Nat.le_of_ble_eq_true rfl)) rfl ⟨rfl, rfl, rfl⟩ g231 dX5_isStatementRead_48 ?_
      refine I_iconst (pc := 51) hx 1 dX5_isStatementRead_51 ?_
      refine I_cVBW  (pc := 52) hx [.int (oI 1)] [] (ev_X9_fail F (shR a0 0) (kt_5_0 h0) 1 w) vm_X9_fail fc7 (kt_5_0 h0) (hx.ci (kt_5_0 h0) (Nat.le_of_ble_eq_true rfl)) g370 dX5_isStatementRead_52 rfl rfl (Nat.le_of_ble_eq_true rfl) (Nat.le_of_ble_eq_true rfl) (Nat.le_of_ble_eq_true rfl) (fun r7 w8 => ?_)
      refine E_goto (pc := 55) hx 63 dX5_isStatementRead_55 rfl ?_
      exact E_zret (pc := 63) hx dX5_isStatementRead_63 rfl (bI_nar _) rfl (Nat.le_of_ble_eq_true rfl)
    refine E_aload_n (pc := 29) hx 0 dX5_isStatementRead_29 rfl rfl ?_
    refine I_cVBW  (pc := 30) hx [] [] (ev_X5_isWayRead F a0 h0 w) vm_X5_isWayRead fc5 h0 (hx.ci h0 (Nat.le_of_ble_eq_true rfl)) g405 dX5_isStatementRead_30 rfl rfl (Nat.le_of_ble_eq_true rfl) (Nat.le_of_ble_eq_true rfl) (Nat.le_of_ble_eq_true rfl) (fun r9 w10 => ?_)
    exact E_zret (pc := 33) hx dX5_isStatementRead_33 rfl (bI_nar _) rfl (Nat.le_of_ble_eq_true rfl)
  refine E_aload_n (pc := 12) hx 0 dX5_isStatementRead_12 rfl rfl ?_
  refine I_cVBW  (pc := 13) hx [] [] (ev_X5_isRoofRead F a0 h0 w) vm_X5_isRoofRead fc5 h0 (hx.ci h0 (Nat.le_of_ble_eq_true rfl)) g366 dX5_isStatementRead_13 rfl rfl (Nat.le_of_ble_eq_true rfl) (Nat.le_of_ble_eq_true rfl) (Nat.le_of_ble_eq_true rfl) (fun r11 w12 => ?_)
  exact E_zret (pc := 16) hx dX5_isStatementRead_16 rfl (bI_nar _) rfl (Nat.le_of_ble_eq_true rfl)
set_option maxHeartbeats 4000000 in
set_option maxRecDepth 100000 in
theorem l_X5_isRead_b48 {x : Cx} (F : Nat) (a0 : Nat) (h0 : shK a0 = 10 + 5)  (hx : CxOK x RX5 cX5_isRead 2 9 0 (some .boolean))    (w : aI) : En x jvBW 0 0 48 [(0, .ref a0)] [] (cm w) (f_X5_isRead_b48 F a0    w) := by
  unfold f_X5_isRead_b48
  refine E_aload_n (pc := 48) hx 0 dX5_isRead_48 rfl rfl ?_
  refine E_getR (pc := 49) hx 1 fc5 h0 (hx.ci h0 (Nat.le_of_ble_eq_true rfl)) rfl ⟨rfl, rfl, rfl⟩ g232 dX5_isRead_49 ?_
  refine I_getI (pc := 52) hx 1 1 rfl fc2 (kt_5_1 h0) (hx.ci (kt_5_1 h0) (Nat.le_of_ble_eq_true rfl)) rfl ⟨rfl, rfl, rfl⟩ g125 dX5_isRead_52 ?_
  refine I_iconst (pc := 55) hx 2 dX5_isRead_55 ?_
  refine E_gd (fun hr4 => ?_)
  refine I_icmp_ge (pc := 56) hx 69 dX5_isRead_56 rfl ⟨hr4, (by decide)⟩ ?_ ?_
  · refine E_aload_n (pc := 69) hx 0 dX5_isRead_69 rfl rfl ?_
    refine E_getR (pc := 70) hx 1 fc5 h0 (hx.ci h0 (Nat.le_of_ble_eq_true rfl)) rfl ⟨rfl, rfl, rfl⟩ g232 dX5_isRead_70 ?_
    refine E_getR (pc := 73) hx 9 fc2 (kt_5_1 h0) (hx.ci (kt_5_1 h0) (Nat.le_of_ble_eq_true rfl)) rfl ⟨rfl, rfl, rfl⟩ g153 dX5_isRead_73 ?_
    refine E_aload_n (pc := 76) hx 0 dX5_isRead_76 rfl rfl ?_
    refine E_getR (pc := 77) hx 1 fc5 h0 (hx.ci h0 (Nat.le_of_ble_eq_true rfl)) rfl ⟨rfl, rfl, rfl⟩ g232 dX5_isRead_77 ?_
    refine I_cVV  (pc := 80) hx [.ref (shR a0 1)] [] (ev_X3_lay F (shR (shR a0 1) 9) (kt_2_9 (kt_5_1 h0)) (shR a0 1) (kt_5_1 h0) w) vm_X3_lay fc3 (kt_2_9 (kt_5_1 h0)) (hx.ci (kt_2_9 (kt_5_1 h0)) (Nat.le_of_ble_eq_true rfl)) g446 dX5_isRead_80 rfl rfl (Nat.le_of_ble_eq_true rfl) (Nat.le_of_ble_eq_true rfl) (Nat.le_of_ble_eq_true rfl) (fun w5 => ?_)
    refine I_iconst (pc := 83) hx 1 dX5_isRead_83 ?_
    exact E_zret (pc := 84) hx dX5_isRead_84 rfl rfl rfl (Nat.le_of_ble_eq_true rfl)
  refine E_aload_n (pc := 59) hx 0 dX5_isRead_59 rfl rfl ?_
  refine E_getR (pc := 60) hx 0 fc5 h0 (hx.ci h0 (Nat.le_of_ble_eq_true rfl)) rfl ⟨rfl, rfl, rfl⟩ g231 dX5_isRead_60 ?_
  refine I_bipush (pc := 63) hx 6 dX5_isRead_63 rfl ?_
  refine I_cVBW  (pc := 65) hx [.int (oI 6)] [] (ev_X9_fail F (shR a0 0) (kt_5_0 h0) 6 w) vm_X9_fail fc7 (kt_5_0 h0) (hx.ci (kt_5_0 h0) (Nat.le_of_ble_eq_true rfl)) g370 dX5_isRead_65 rfl rfl (Nat.le_of_ble_eq_true rfl) (Nat.le_of_ble_eq_true rfl) (Nat.le_of_ble_eq_true rfl) (fun r6 w7 => ?_)
  exact E_zret (pc := 68) hx dX5_isRead_68 rfl (bI_nar _) rfl (Nat.le_of_ble_eq_true rfl)
set_option maxHeartbeats 4000000 in
set_option maxRecDepth 100000 in
theorem l_X5_isRead_b16_b {x : Cx} (F : Nat) (a0 : Nat) (h0 : shK a0 = 10 + 5)  (hx : CxOK x RX5 cX5_isRead 2 9 0 (some .boolean))  (k16 : Int → aI → Option (Bool × aI)) (hk16 : ∀ (v1 : Int) (w : aI), En x jvBW 0 0 16 [(0, .ref a0), (1, .int (oI v1))] [] (cm w) (k16 v1 w)) (v1 : Int) (w : aI) : En x jvBW 0 0 16 [(0, .ref a0), (1, .int (oI v1))] [] (cm w) (f_X5_isRead_b16_b F a0   k16 v1 w) := by
  unfold f_X5_isRead_b16_b
  refine E_iload_n (pc := 16) hx 1 dX5_isRead_16 rfl rfl ?_
  refine I_sipush (pc := 17) hx 800 dX5_isRead_17 rfl ?_
  refine E_gd (fun hr3 => ?_)
  refine I_icmp_ge (pc := 20) hx 48 dX5_isRead_20 rfl ⟨hr3, (by decide)⟩ ?_ ?_
  · refine En.sub [0] rfl ?_
    exact l_X5_isRead_b48 F a0 h0 hx w
  refine E_aload_n (pc := 23) hx 0 dX5_isRead_23 rfl rfl ?_
  refine E_getR (pc := 24) hx 0 fc5 h0 (hx.ci h0 (Nat.le_of_ble_eq_true rfl)) rfl ⟨rfl, rfl, rfl⟩ g231 dX5_isRead_24 ?_
  refine I_getI (pc := 27) hx 3 3 rfl fc7 (kt_5_0 h0) (hx.ci (kt_5_0 h0) (Nat.le_of_ble_eq_true rfl)) rfl ⟨rfl, rfl, rfl⟩ g205 dX5_isRead_27 ?_
  refine E_gd (fun hr8 => ?_)
  refine I_if_eq (pc := 30) hx 48 dX5_isRead_30 rfl hr8 ?_ ?_
  · refine En.sub [0] rfl ?_
    exact l_X5_isRead_b48 F a0 h0 hx w
  refine E_aload_n (pc := 33) hx 0 dX5_isRead_33 rfl rfl ?_
  refine I_cVBW  (pc := 34) hx [] [] (ev_X5_isStatementRead F a0 h0 w) vm_X5_isStatementRead fc5 h0 (hx.ci h0 (Nat.le_of_ble_eq_true rfl)) g355 dX5_isRead_34 rfl rfl (Nat.le_of_ble_eq_true rfl) (Nat.le_of_ble_eq_true rfl) (Nat.le_of_ble_eq_true rfl) (fun r9 w10 => ?_)
  refine I_ifB_ne (pc := 37) hx 42 dX5_isRead_37 rfl ?_ ?_
  · refine I_iinc (pc := 42) hx 1 1 dX5_isRead_42 rfl (Nat.le_of_ble_eq_true rfl) rfl ?_
    refine E_goto (pc := 45) hx 16 dX5_isRead_45 rfl ?_
    refine En.sub [1, 0] rfl ?_
    exact hk16 (v1 + 1) w10
  refine I_iconst (pc := 40) hx 0 dX5_isRead_40 ?_
  exact E_zret (pc := 41) hx dX5_isRead_41 rfl rfl rfl (Nat.le_of_ble_eq_true rfl)
theorem l_X5_isRead_b16 {x : Cx} (F : Nat) (a0 : Nat) (h0 : shK a0 = 10 + 5)  (hx : CxOK x RX5 cX5_isRead 2 9 0 (some .boolean))  : ∀ (n : Nat) (v1 : Int) (w : aI), En x jvBW 0 0 16 [(0, .ref a0), (1, .int (oI v1))] [] (cm w) (f_X5_isRead_b16 F a0   n v1 w) := by
  intro n
  induction n with
  | zero => intro v1 w; exact E_none
  | succ n ih => intro v1 w; exact l_X5_isRead_b16_b F a0 h0  hx  _ ih v1 w
set_option maxHeartbeats 4000000 in
set_option maxRecDepth 100000 in
theorem ev_X5_isRead (F : Nat) (a0 : Nat) (h0 : shK a0 = 10 + 5) (w : aI) : Ev yX5_isRead cX5_isRead 2 (some .boolean) 9 0 jvBW [.ref a0] (cm w) (f_X5_isRead F a0 w) := by
  refine Ev.of (own := RX5) (by decide +kernel) rfl (Nat.le_of_ble_eq_true rfl) (fun x hx => ?_)
  show En x jvBW 0 0 0 [(0, .ref a0)] [] (cm w) _
  unfold f_X5_isRead
  refine E_aload_n (pc := 0) hx 0 dX5_isRead_0 rfl rfl ?_
  refine E_getR (pc := 1) hx 1 fc5 h0 (hx.ci h0 (Nat.le_of_ble_eq_true rfl)) rfl ⟨rfl, rfl, rfl⟩ g232 dX5_isRead_1 ?_
  refine I_cVV  (pc := 4) hx [] [] (ev_X2_clear F (shR a0 1) (kt_5_1 h0) w) vm_X2_clear fc2 (kt_5_1 h0) (hx.ci (kt_5_1 h0) (Nat.le_of_ble_eq_true rfl)) g320 dX5_isRead_4 rfl rfl (Nat.le_of_ble_eq_true rfl) (Nat.le_of_ble_eq_true rfl) (Nat.le_of_ble_eq_true rfl) (fun w1 => ?_)
  refine E_aload_n (pc := 7) hx 0 dX5_isRead_7 rfl rfl ?_
  refine E_getR (pc := 8) hx 0 fc5 h0 (hx.ci h0 (Nat.le_of_ble_eq_true rfl)) rfl ⟨rfl, rfl, rfl⟩ g231 dX5_isRead_8 ?_
  refine I_cVV  (pc := 11) hx [] [] (ev_X9_open F (shR a0 0) (kt_5_0 h0) w1) vm_X9_open fc7 (kt_5_0 h0) (hx.ci (kt_5_0 h0) (Nat.le_of_ble_eq_true rfl)) g336 dX5_isRead_11 rfl rfl (Nat.le_of_ble_eq_true rfl) (Nat.le_of_ble_eq_true rfl) (Nat.le_of_ble_eq_true rfl) (fun w2 => ?_)
  refine I_iconst (pc := 14) hx 0 dX5_isRead_14 ?_
  refine E_istore_n (pc := 15) hx dX5_isRead_15 rfl (Nat.le_of_ble_eq_true rfl) rfl ?_
  refine En.sub [1, 0] rfl ?_
  exact l_X5_isRead_b16 F a0 h0 hx F 0 w2
set_option maxHeartbeats 4000000 in
set_option maxRecDepth 100000 in
theorem l_X6_areTunesRight_b2_b {x : Cx} (F : Nat) (a0 : Nat) (h0 : shK a0 = 10 + 2) (w : aI) (hx : CxOK x RX6 cX6_areTunesRight 4 1 0 (some .boolean))  (k2 : Int → Option Bool) (hk2 : ∀ (v1 : Int), En x (jvB w) 0 0 2 [(0, .ref a0), (1, .int (oI v1))] [] (cm w) (k2 v1)) (v1 : Int)  : En x (jvB w) 0 0 2 [(0, .ref a0), (1, .int (oI v1))] [] (cm w) (f_X6_areTunesRight_b2_b F a0 w  k2 v1) := by
  unfold f_X6_areTunesRight_b2_b
  refine E_iload_n (pc := 2) hx 1 dX6_areTunesRight_2 rfl rfl ?_
  refine E_aload_n (pc := 3) hx 0 dX6_areTunesRight_3 rfl rfl ?_
  refine I_getI (pc := 4) hx 3 3 rfl fc2 h0 (hx.ci h0 (Nat.le_of_ble_eq_true rfl)) rfl ⟨rfl, rfl, rfl⟩ g136 dX6_areTunesRight_4 ?_
  refine E_gd (fun hr1 => ?_)
  refine I_icmp_ge (pc := 7) hx 79 dX6_areTunesRight_7 rfl ⟨hr1.1, hr1.2⟩ ?_ ?_
  · refine I_iconst (pc := 79) hx 1 dX6_areTunesRight_79 ?_
    exact E_zret (pc := 80) hx dX6_areTunesRight_80 rfl rfl rfl (Nat.le_of_ble_eq_true rfl)
  refine E_aload_n (pc := 10) hx 0 dX6_areTunesRight_10 rfl rfl ?_
  refine E_getR (pc := 11) hx 6 fc2 h0 (hx.ci h0 (Nat.le_of_ble_eq_true rfl)) rfl ⟨rfl, rfl, rfl⟩ g146 dX6_areTunesRight_11 ?_
  refine E_iload_n (pc := 14) hx 1 dX6_areTunesRight_14 rfl rfl ?_
  refine I_iconst (pc := 15) hx 3 dX6_areTunesRight_15 ?_
  refine I_cVI  (pc := 16) hx [.int (oI v1), .int (oI 3)] [] (ev_X7_get F (shR a0 6) (kt_2_6 h0) v1 3 w) vm_X7_get fc6 (kt_2_6 h0) (hx.ci (kt_2_6 h0) (Nat.le_of_ble_eq_true rfl)) g1096 dX6_areTunesRight_16 rfl rfl (Nat.le_of_ble_eq_true rfl) (Nat.le_of_ble_eq_true rfl) (Nat.le_of_ble_eq_true rfl) (fun r2 => ?_)
  refine E_istore_n (pc := 19) hx dX6_areTunesRight_19 rfl (Nat.le_of_ble_eq_true rfl) rfl ?_
  refine E_aload_n (pc := 20) hx 1 dX6_areTunesRight_20 rfl rfl ?_
  refine E_getR (pc := 21) hx 6 fc2 h0 (hx.ci h0 (Nat.le_of_ble_eq_true rfl)) rfl ⟨rfl, rfl, rfl⟩ g146 dX6_areTunesRight_21 ?_
  refine E_iload_n (pc := 24) hx 2 dX6_areTunesRight_24 rfl rfl ?_
  refine I_iconst (pc := 25) hx 4 dX6_areTunesRight_25 ?_
  refine I_cVI  (pc := 26) hx [.int (oI v1), .int (oI 4)] [] (ev_X7_get F (shR a0 6) (kt_2_6 h0) v1 4 w) vm_X7_get fc6 (kt_2_6 h0) (hx.ci (kt_2_6 h0) (Nat.le_of_ble_eq_true rfl)) g1096 dX6_areTunesRight_26 rfl rfl (Nat.le_of_ble_eq_true rfl) (Nat.le_of_ble_eq_true rfl) (Nat.le_of_ble_eq_true rfl) (fun r3 => ?_)
  refine E_istore_n (pc := 29) hx dX6_areTunesRight_29 rfl (Nat.le_of_ble_eq_true rfl) rfl ?_
  refine E_iload_n (pc := 30) hx 1 dX6_areTunesRight_30 rfl rfl ?_
  refine E_gd (fun hr4 => ?_)
  refine I_if_lt (pc := 31) hx 51 dX6_areTunesRight_31 rfl hr4 ?_ ?_
  · refine I_iconst (pc := 51) hx 0 dX6_areTunesRight_51 ?_
    exact E_zret (pc := 52) hx dX6_areTunesRight_52 rfl rfl rfl (Nat.le_of_ble_eq_true rfl)
  refine E_iload_n (pc := 34) hx 1 dX6_areTunesRight_34 rfl rfl ?_
  refine I_iconst (pc := 35) hx 3 dX6_areTunesRight_35 ?_
  refine I_icmp_gt (pc := 36) hx 51 dX6_areTunesRight_36 rfl ⟨hr4, (by decide)⟩ ?_ ?_
  · refine I_iconst (pc := 51) hx 0 dX6_areTunesRight_51 ?_
    exact E_zret (pc := 52) hx dX6_areTunesRight_52 rfl rfl rfl (Nat.le_of_ble_eq_true rfl)
  refine E_iload_n (pc := 39) hx 0 dX6_areTunesRight_39 rfl rfl ?_
  refine E_gd (fun hr5 => ?_)
  refine I_if_lt (pc := 40) hx 51 dX6_areTunesRight_40 rfl hr5 ?_ ?_
  · refine I_iconst (pc := 51) hx 0 dX6_areTunesRight_51 ?_
    exact E_zret (pc := 52) hx dX6_areTunesRight_52 rfl rfl rfl (Nat.le_of_ble_eq_true rfl)
  refine E_iload_n (pc := 43) hx 0 dX6_areTunesRight_43 rfl rfl ?_
  refine E_aload_n (pc := 44) hx 2 dX6_areTunesRight_44 rfl rfl ?_
  refine I_getI (pc := 45) hx 1 1 rfl fc2 h0 (hx.ci h0 (Nat.le_of_ble_eq_true rfl)) rfl ⟨rfl, rfl, rfl⟩ g128 dX6_areTunesRight_45 ?_
  refine E_gd (fun hr6 => ?_)
  refine I_icmp_lt (pc := 48) hx 53 dX6_areTunesRight_48 rfl ⟨hr5, hr6⟩ ?_ ?_
  · refine E_iload_n (pc := 53) hx 1 dX6_areTunesRight_53 rfl rfl ?_
    refine I_iconst (pc := 54) hx 2 dX6_areTunesRight_54 ?_
    refine I_icmp_ne (pc := 55) hx 73 dX6_areTunesRight_55 rfl ⟨hr4, (by decide)⟩ ?_ ?_
    · refine I_iinc (pc := 73) hx 1 3 dX6_areTunesRight_73 rfl (Nat.le_of_ble_eq_true rfl) rfl ?_
      refine E_goto (pc := 76) hx 2 dX6_areTunesRight_76 rfl ?_
      refine En.sub [3, 0] rfl ?_
      exact hk2 (v1 + 1)
    refine E_iload_n (pc := 58) hx 0 dX6_areTunesRight_58 rfl rfl ?_
    refine E_aload_n (pc := 59) hx 2 dX6_areTunesRight_59 rfl rfl ?_
    refine E_getR (pc := 60) hx 6 fc2 h0 (hx.ci h0 (Nat.le_of_ble_eq_true rfl)) rfl ⟨rfl, rfl, rfl⟩ g146 dX6_areTunesRight_60 ?_
    refine E_iload_n (pc := 63) hx 3 dX6_areTunesRight_63 rfl rfl ?_
    refine I_iconst (pc := 64) hx 1 dX6_areTunesRight_64 ?_
    refine I_cVI  (pc := 65) hx [.int (oI v1), .int (oI 1)] [.int (oI r3)] (ev_X7_get F (shR a0 6) (kt_2_6 h0) v1 1 w) vm_X7_get fc6 (kt_2_6 h0) (hx.ci (kt_2_6 h0) (Nat.le_of_ble_eq_true rfl)) g1096 dX6_areTunesRight_65 rfl rfl (Nat.le_of_ble_eq_true rfl) (Nat.le_of_ble_eq_true rfl) (Nat.le_of_ble_eq_true rfl) (fun r7 => ?_)
    refine E_gd (fun hr8 => ?_)
    refine I_icmp_eq (pc := 68) hx 73 dX6_areTunesRight_68 rfl ⟨hr5, hr8⟩ ?_ ?_
    · refine I_iinc (pc := 73) hx 1 3 dX6_areTunesRight_73 rfl (Nat.le_of_ble_eq_true rfl) rfl ?_
      refine E_goto (pc := 76) hx 2 dX6_areTunesRight_76 rfl ?_
      refine En.sub [3, 0] rfl ?_
      exact hk2 (v1 + 1)
    refine I_iconst (pc := 71) hx 0 dX6_areTunesRight_71 ?_
    exact E_zret (pc := 72) hx dX6_areTunesRight_72 rfl rfl rfl (Nat.le_of_ble_eq_true rfl)
  refine I_iconst (pc := 51) hx 0 dX6_areTunesRight_51 ?_
  exact E_zret (pc := 52) hx dX6_areTunesRight_52 rfl rfl rfl (Nat.le_of_ble_eq_true rfl)
theorem l_X6_areTunesRight_b2 {x : Cx} (F : Nat) (a0 : Nat) (h0 : shK a0 = 10 + 2) (w : aI) (hx : CxOK x RX6 cX6_areTunesRight 4 1 0 (some .boolean))  : ∀ (n : Nat) (v1 : Int), En x (jvB w) 0 0 2 [(0, .ref a0), (1, .int (oI v1))] [] (cm w) (f_X6_areTunesRight_b2 F a0 w  n v1) := by
  intro n
  induction n with
  | zero => intro v1; exact E_none
  | succ n ih => intro v1; exact l_X6_areTunesRight_b2_b F a0 h0 w hx  _ ih v1
set_option maxHeartbeats 4000000 in
set_option maxRecDepth 100000 in
theorem ev_X6_areTunesRight (F : Nat) (a0 : Nat) (h0 : shK a0 = 10 + 2) (w : aI) : Ev yX6_areTunesRight cX6_areTunesRight 4 (some .boolean) 1 0 (jvB w) [.ref a0] (cm w) (f_X6_areTunesRight F a0 w) := by
  refine Ev.of (own := RX6) (by decide +kernel) rfl (Nat.le_of_ble_eq_true rfl) (fun x hx => ?_)
  show En x (jvB w) 0 0 0 [(0, .ref a0)] [] (cm w) _
  unfold f_X6_areTunesRight
  refine I_iconst (pc := 0) hx 0 dX6_areTunesRight_0 ?_
  refine E_istore_n (pc := 1) hx dX6_areTunesRight_1 rfl (Nat.le_of_ble_eq_true rfl) rfl ?_
  refine En.sub [1, 0] rfl ?_
  exact l_X6_areTunesRight_b2 F a0 h0 w hx F 0
set_option maxHeartbeats 4000000 in
set_option maxRecDepth 100000 in
theorem l_X6_areAccountsRight_b35_b {x : Cx} (F : Nat) (a0 : Nat) (h0 : shK a0 = 10 + 2) (w : aI) (hx : CxOK x RX6 cX6_areAccountsRight 4 2 0 (some .boolean))  (k35 : Int → Int → Int → Option Bool) (hk35 : ∀ (v1 : Int) (v2 : Int) (v3 : Int), En x (jvB w) 0 0 35 [(0, .ref a0), (1, .int (oI v1)), (2, .int (oI v2)), (3, .int (oI v3))] [] (cm w) (k35 v1 v2 v3)) (v1 : Int) (v2 : Int) (v3 : Int)  : En x (jvB w) 0 0 35 [(0, .ref a0), (1, .int (oI v1)), (2, .int (oI v2)), (3, .int (oI v3))] [] (cm w) (f_X6_areAccountsRight_b35_b F a0 w  k35 v1 v2 v3) := by
  unfold f_X6_areAccountsRight_b35_b
  refine E_iload_n (pc := 35) hx 3 dX6_areAccountsRight_35 rfl rfl ?_
  refine E_aload_n (pc := 36) hx 0 dX6_areAccountsRight_36 rfl rfl ?_
  refine I_getI (pc := 37) hx 3 3 rfl fc2 h0 (hx.ci h0 (Nat.le_of_ble_eq_true rfl)) rfl ⟨rfl, rfl, rfl⟩ g136 dX6_areAccountsRight_37 ?_
  refine E_gd (fun hr2 => ?_)
  refine I_icmp_ge (pc := 40) hx 62 dX6_areAccountsRight_40 rfl ⟨hr2.1, hr2.2⟩ ?_ ?_
  · refine E_aload_n (pc := 62) hx 0 dX6_areAccountsRight_62 rfl rfl ?_
    refine E_getR (pc := 63) hx 8 fc2 h0 (hx.ci h0 (Nat.le_of_ble_eq_true rfl)) rfl ⟨rfl, rfl, rfl⟩ g150 dX6_areAccountsRight_63 ?_
    refine I_iconst (pc := 66) hx 0 dX6_areAccountsRight_66 ?_
    refine I_iconst (pc := 67) hx 1 dX6_areAccountsRight_67 ?_
    refine I_cVI  (pc := 68) hx [.int (oI 0), .int (oI 1)] [] (ev_X7_get F (shR a0 8) (kt_2_8 h0) 0 1 w) vm_X7_get fc6 (kt_2_8 h0) (hx.ci (kt_2_8 h0) (Nat.le_of_ble_eq_true rfl)) g1096 dX6_areAccountsRight_68 rfl rfl (Nat.le_of_ble_eq_true rfl) (Nat.le_of_ble_eq_true rfl) (Nat.le_of_ble_eq_true rfl) (fun r3 => ?_)
    refine E_aload_n (pc := 71) hx 0 dX6_areAccountsRight_71 rfl rfl ?_
    refine I_getI (pc := 72) hx 3 3 rfl fc2 h0 (hx.ci h0 (Nat.le_of_ble_eq_true rfl)) rfl ⟨rfl, rfl, rfl⟩ g136 dX6_areAccountsRight_72 ?_
    refine E_gd (fun hr4 => ?_)
    refine I_icmp_ne (pc := 75) hx 171 dX6_areAccountsRight_75 rfl ⟨hr4, hr2.2⟩ ?_ ?_
    · refine I_iconst (pc := 171) hx 0 dX6_areAccountsRight_171 ?_
      exact E_zret (pc := 172) hx dX6_areAccountsRight_172 rfl rfl rfl (Nat.le_of_ble_eq_true rfl)
    refine E_aload_n (pc := 78) hx 0 dX6_areAccountsRight_78 rfl rfl ?_
    refine E_getR (pc := 79) hx 8 fc2 h0 (hx.ci h0 (Nat.le_of_ble_eq_true rfl)) rfl ⟨rfl, rfl, rfl⟩ g150 dX6_areAccountsRight_79 ?_
    refine I_iconst (pc := 82) hx 0 dX6_areAccountsRight_82 ?_
    refine I_iconst (pc := 83) hx 5 dX6_areAccountsRight_83 ?_
    refine I_cVI  (pc := 84) hx [.int (oI 0), .int (oI 5)] [] (ev_X7_get F (shR a0 8) (kt_2_8 h0) 0 5 w) vm_X7_get fc6 (kt_2_8 h0) (hx.ci (kt_2_8 h0) (Nat.le_of_ble_eq_true rfl)) g1096 dX6_areAccountsRight_84 rfl rfl (Nat.le_of_ble_eq_true rfl) (Nat.le_of_ble_eq_true rfl) (Nat.le_of_ble_eq_true rfl) (fun r5 => ?_)
    refine E_aload_n (pc := 87) hx 0 dX6_areAccountsRight_87 rfl rfl ?_
    refine I_iconst (pc := 88) hx 2 dX6_areAccountsRight_88 ?_
    refine I_cVI  (pc := 89) hx [.int (oI 2)] [.int (oI r5)] (ev_X2_tunesIn F a0 h0 2 w) vm_X2_tunesIn fc2 h0 (hx.ci h0 (Nat.le_of_ble_eq_true rfl)) g1100 dX6_areAccountsRight_89 rfl rfl (Nat.le_of_ble_eq_true rfl) (Nat.le_of_ble_eq_true rfl) (Nat.le_of_ble_eq_true rfl) (fun r6 => ?_)
    refine E_gd (fun hr7 => ?_)
    refine I_icmp_ne (pc := 92) hx 171 dX6_areAccountsRight_92 rfl ⟨hr7.1, hr7.2⟩ ?_ ?_
    · refine I_iconst (pc := 171) hx 0 dX6_areAccountsRight_171 ?_
      exact E_zret (pc := 172) hx dX6_areAccountsRight_172 rfl rfl rfl (Nat.le_of_ble_eq_true rfl)
    refine E_aload_n (pc := 95) hx 0 dX6_areAccountsRight_95 rfl rfl ?_
    refine E_getR (pc := 96) hx 8 fc2 h0 (hx.ci h0 (Nat.le_of_ble_eq_true rfl)) rfl ⟨rfl, rfl, rfl⟩ g150 dX6_areAccountsRight_96 ?_
    refine I_iconst (pc := 99) hx 0 dX6_areAccountsRight_99 ?_
    refine I_bipush (pc := 100) hx 8 dX6_areAccountsRight_100 rfl ?_
    refine I_cVI  (pc := 102) hx [.int (oI 0), .int (oI 8)] [] (ev_X7_get F (shR a0 8) (kt_2_8 h0) 0 8 w) vm_X7_get fc6 (kt_2_8 h0) (hx.ci (kt_2_8 h0) (Nat.le_of_ble_eq_true rfl)) g1096 dX6_areAccountsRight_102 rfl rfl (Nat.le_of_ble_eq_true rfl) (Nat.le_of_ble_eq_true rfl) (Nat.le_of_ble_eq_true rfl) (fun r8 => ?_)
    refine E_aload_n (pc := 105) hx 0 dX6_areAccountsRight_105 rfl rfl ?_
    refine I_iconst (pc := 106) hx 3 dX6_areAccountsRight_106 ?_
    refine I_cVI  (pc := 107) hx [.int (oI 3)] [.int (oI r8)] (ev_X2_tunesIn F a0 h0 3 w) vm_X2_tunesIn fc2 h0 (hx.ci h0 (Nat.le_of_ble_eq_true rfl)) g1100 dX6_areAccountsRight_107 rfl rfl (Nat.le_of_ble_eq_true rfl) (Nat.le_of_ble_eq_true rfl) (Nat.le_of_ble_eq_true rfl) (fun r9 => ?_)
    refine E_gd (fun hr10 => ?_)
    refine I_icmp_ne (pc := 110) hx 171 dX6_areAccountsRight_110 rfl ⟨hr10.1, hr10.2⟩ ?_ ?_
    · refine I_iconst (pc := 171) hx 0 dX6_areAccountsRight_171 ?_
      exact E_zret (pc := 172) hx dX6_areAccountsRight_172 rfl rfl rfl (Nat.le_of_ble_eq_true rfl)
    refine E_aload_n (pc := 113) hx 0 dX6_areAccountsRight_113 rfl rfl ?_
    refine I_cVI  (pc := 114) hx [] [] (ev_X2_pursesTogether F a0 h0 w) vm_X2_pursesTogether fc2 h0 (hx.ci h0 (Nat.le_of_ble_eq_true rfl)) g1101 dX6_areAccountsRight_114 rfl rfl (Nat.le_of_ble_eq_true rfl) (Nat.le_of_ble_eq_true rfl) (Nat.le_of_ble_eq_true rfl) (fun r11 => ?_)
    refine E_iload_n (pc := 117) hx 1 dX6_areAccountsRight_117 rfl rfl ?_
    refine E_aload_n (pc := 118) hx 0 dX6_areAccountsRight_118 rfl rfl ?_
    refine E_getR (pc := 119) hx 8 fc2 h0 (hx.ci h0 (Nat.le_of_ble_eq_true rfl)) rfl ⟨rfl, rfl, rfl⟩ g150 dX6_areAccountsRight_119 ?_
    refine I_iconst (pc := 122) hx 0 dX6_areAccountsRight_122 ?_
    refine I_bipush (pc := 123) hx 10 dX6_areAccountsRight_123 rfl ?_
    refine I_cVI  (pc := 125) hx [.int (oI 0), .int (oI 10)] [.int (oI v1), .int (oI r11)] (ev_X7_get F (shR a0 8) (kt_2_8 h0) 0 10 w) vm_X7_get fc6 (kt_2_8 h0) (hx.ci (kt_2_8 h0) (Nat.le_of_ble_eq_true rfl)) g1096 dX6_areAccountsRight_125 rfl rfl (Nat.le_of_ble_eq_true rfl) (Nat.le_of_ble_eq_true rfl) (Nat.le_of_ble_eq_true rfl) (fun r12 => ?_)
    refine I_iadd (pc := 128) hx dX6_areAccountsRight_128 ?_
    refine E_gd (fun hr13 => ?_)
    refine I_icmp_ne (pc := 129) hx 171 dX6_areAccountsRight_129 rfl ⟨hr13.1, hr13.2⟩ ?_ ?_
    · refine I_iconst (pc := 171) hx 0 dX6_areAccountsRight_171 ?_
      exact E_zret (pc := 172) hx dX6_areAccountsRight_172 rfl rfl rfl (Nat.le_of_ble_eq_true rfl)
    refine E_aload_n (pc := 132) hx 0 dX6_areAccountsRight_132 rfl rfl ?_
    refine E_getR (pc := 133) hx 8 fc2 h0 (hx.ci h0 (Nat.le_of_ble_eq_true rfl)) rfl ⟨rfl, rfl, rfl⟩ g150 dX6_areAccountsRight_133 ?_
    refine I_iconst (pc := 136) hx 0 dX6_areAccountsRight_136 ?_
    refine I_iconst (pc := 137) hx 3 dX6_areAccountsRight_137 ?_
    refine I_cVI  (pc := 138) hx [.int (oI 0), .int (oI 3)] [] (ev_X7_get F (shR a0 8) (kt_2_8 h0) 0 3 w) vm_X7_get fc6 (kt_2_8 h0) (hx.ci (kt_2_8 h0) (Nat.le_of_ble_eq_true rfl)) g1096 dX6_areAccountsRight_138 rfl rfl (Nat.le_of_ble_eq_true rfl) (Nat.le_of_ble_eq_true rfl) (Nat.le_of_ble_eq_true rfl) (fun r14 => ?_)
    refine E_iload_n (pc := 141) hx 2 dX6_areAccountsRight_141 rfl rfl ?_
    refine E_gd (fun hr15 => ?_)
    refine I_icmp_ne (pc := 142) hx 171 dX6_areAccountsRight_142 rfl ⟨hr15.1, hr15.2⟩ ?_ ?_
    · refine I_iconst (pc := 171) hx 0 dX6_areAccountsRight_171 ?_
      exact E_zret (pc := 172) hx dX6_areAccountsRight_172 rfl rfl rfl (Nat.le_of_ble_eq_true rfl)
    refine E_aload_n (pc := 145) hx 0 dX6_areAccountsRight_145 rfl rfl ?_
    refine E_getR (pc := 146) hx 8 fc2 h0 (hx.ci h0 (Nat.le_of_ble_eq_true rfl)) rfl ⟨rfl, rfl, rfl⟩ g150 dX6_areAccountsRight_146 ?_
    refine I_iconst (pc := 149) hx 0 dX6_areAccountsRight_149 ?_
    refine I_bipush (pc := 150) hx 6 dX6_areAccountsRight_150 rfl ?_
    refine I_cVI  (pc := 152) hx [.int (oI 0), .int (oI 6)] [] (ev_X7_get F (shR a0 8) (kt_2_8 h0) 0 6 w) vm_X7_get fc6 (kt_2_8 h0) (hx.ci (kt_2_8 h0) (Nat.le_of_ble_eq_true rfl)) g1096 dX6_areAccountsRight_152 rfl rfl (Nat.le_of_ble_eq_true rfl) (Nat.le_of_ble_eq_true rfl) (Nat.le_of_ble_eq_true rfl) (fun r16 => ?_)
    refine E_aload_n (pc := 155) hx 0 dX6_areAccountsRight_155 rfl rfl ?_
    refine E_getR (pc := 156) hx 8 fc2 h0 (hx.ci h0 (Nat.le_of_ble_eq_true rfl)) rfl ⟨rfl, rfl, rfl⟩ g150 dX6_areAccountsRight_156 ?_
    refine I_iconst (pc := 159) hx 0 dX6_areAccountsRight_159 ?_
    refine I_iconst (pc := 160) hx 5 dX6_areAccountsRight_160 ?_
    refine I_cVI  (pc := 161) hx [.int (oI 0), .int (oI 5)] [.int (oI r16)] (ev_X7_get F (shR a0 8) (kt_2_8 h0) 0 5 w) vm_X7_get fc6 (kt_2_8 h0) (hx.ci (kt_2_8 h0) (Nat.le_of_ble_eq_true rfl)) g1096 dX6_areAccountsRight_161 rfl rfl (Nat.le_of_ble_eq_true rfl) (Nat.le_of_ble_eq_true rfl) (Nat.le_of_ble_eq_true rfl) (fun r17 => ?_)
    refine E_gd (fun hr18 => ?_)
    refine I_icmp_gt (pc := 164) hx 171 dX6_areAccountsRight_164 rfl ⟨hr18.1, hr18.2⟩ ?_ ?_
    · refine I_iconst (pc := 171) hx 0 dX6_areAccountsRight_171 ?_
      exact E_zret (pc := 172) hx dX6_areAccountsRight_172 rfl rfl rfl (Nat.le_of_ble_eq_true rfl)
    refine I_iconst (pc := 167) hx 1 dX6_areAccountsRight_167 ?_
    refine E_goto (pc := 168) hx 172 dX6_areAccountsRight_168 rfl ?_
    exact E_zret (pc := 172) hx dX6_areAccountsRight_172 rfl rfl rfl (Nat.le_of_ble_eq_true rfl)
  refine E_iload_n (pc := 43) hx 2 dX6_areAccountsRight_43 rfl rfl ?_
  refine E_aload_n (pc := 44) hx 0 dX6_areAccountsRight_44 rfl rfl ?_
  refine E_getR (pc := 45) hx 6 fc2 h0 (hx.ci h0 (Nat.le_of_ble_eq_true rfl)) rfl ⟨rfl, rfl, rfl⟩ g146 dX6_areAccountsRight_45 ?_
  refine E_iload_n (pc := 48) hx 3 dX6_areAccountsRight_48 rfl rfl ?_
  refine I_bipush (pc := 49) hx 11 dX6_areAccountsRight_49 rfl ?_
  refine I_cVI  (pc := 51) hx [.int (oI v3), .int (oI 11)] [.int (oI v2)] (ev_X7_get F (shR a0 6) (kt_2_6 h0) v3 11 w) vm_X7_get fc6 (kt_2_6 h0) (hx.ci (kt_2_6 h0) (Nat.le_of_ble_eq_true rfl)) g1096 dX6_areAccountsRight_51 rfl rfl (Nat.le_of_ble_eq_true rfl) (Nat.le_of_ble_eq_true rfl) (Nat.le_of_ble_eq_true rfl) (fun r19 => ?_)
  refine I_iadd (pc := 54) hx dX6_areAccountsRight_54 ?_
  refine I_ltv (fun v2_20 => ?_)
  refine E_istore_n (pc := 55) hx dX6_areAccountsRight_55 rfl (Nat.le_of_ble_eq_true rfl) rfl ?_
  refine I_iinc (pc := 56) hx 1 3 dX6_areAccountsRight_56 rfl (Nat.le_of_ble_eq_true rfl) rfl ?_
  refine E_goto (pc := 59) hx 35 dX6_areAccountsRight_59 rfl ?_
  refine En.sub [2, 3, 1, 0] rfl ?_
  exact hk35 v1 v2_20 (v3 + 1)
theorem l_X6_areAccountsRight_b35 {x : Cx} (F : Nat) (a0 : Nat) (h0 : shK a0 = 10 + 2) (w : aI) (hx : CxOK x RX6 cX6_areAccountsRight 4 2 0 (some .boolean))  : ∀ (n : Nat) (v1 : Int) (v2 : Int) (v3 : Int), En x (jvB w) 0 0 35 [(0, .ref a0), (1, .int (oI v1)), (2, .int (oI v2)), (3, .int (oI v3))] [] (cm w) (f_X6_areAccountsRight_b35 F a0 w  n v1 v2 v3) := by
  intro n
  induction n with
  | zero => intro v1 v2 v3; exact E_none
  | succ n ih => intro v1 v2 v3; exact l_X6_areAccountsRight_b35_b F a0 h0 w hx  _ ih v1 v2 v3
set_option maxHeartbeats 4000000 in
set_option maxRecDepth 100000 in
theorem l_X6_areAccountsRight_b4_b {x : Cx} (F : Nat) (a0 : Nat) (h0 : shK a0 = 10 + 2) (w : aI) (hx : CxOK x RX6 cX6_areAccountsRight 4 2 0 (some .boolean))  (k4 : Int → Int → Option Bool) (hk4 : ∀ (v1 : Int) (v2 : Int), En x (jvB w) 0 0 4 [(0, .ref a0), (1, .int (oI v1)), (2, .int (oI v2))] [] (cm w) (k4 v1 v2)) (v1 : Int) (v2 : Int)  : En x (jvB w) 0 0 4 [(0, .ref a0), (1, .int (oI v1)), (2, .int (oI v2))] [] (cm w) (f_X6_areAccountsRight_b4_b F a0 w  k4 v1 v2) := by
  unfold f_X6_areAccountsRight_b4_b
  refine E_iload_n (pc := 4) hx 2 dX6_areAccountsRight_4 rfl rfl ?_
  refine E_aload_n (pc := 5) hx 0 dX6_areAccountsRight_5 rfl rfl ?_
  refine I_getI (pc := 6) hx 1 1 rfl fc2 h0 (hx.ci h0 (Nat.le_of_ble_eq_true rfl)) rfl ⟨rfl, rfl, rfl⟩ g128 dX6_areAccountsRight_6 ?_
  refine E_gd (fun hr1 => ?_)
  refine I_icmp_ge (pc := 9) hx 31 dX6_areAccountsRight_9 rfl ⟨hr1.1, hr1.2⟩ ?_ ?_
  · refine I_iconst (pc := 31) hx 0 dX6_areAccountsRight_31 ?_
    refine E_istore_n (pc := 32) hx dX6_areAccountsRight_32 rfl (Nat.le_of_ble_eq_true rfl) rfl ?_
    refine I_iconst (pc := 33) hx 0 dX6_areAccountsRight_33 ?_
    refine E_istore_n (pc := 34) hx dX6_areAccountsRight_34 rfl (Nat.le_of_ble_eq_true rfl) rfl ?_
    refine En.sub [2, 3, 1, 0] rfl ?_
    exact l_X6_areAccountsRight_b35 F a0 h0 w hx F v1 0 0
  refine E_iload_n (pc := 12) hx 1 dX6_areAccountsRight_12 rfl rfl ?_
  refine E_aload_n (pc := 13) hx 0 dX6_areAccountsRight_13 rfl rfl ?_
  refine E_getR (pc := 14) hx 4 fc2 h0 (hx.ci h0 (Nat.le_of_ble_eq_true rfl)) rfl ⟨rfl, rfl, rfl⟩ g139 dX6_areAccountsRight_14 ?_
  refine E_iload_n (pc := 17) hx 2 dX6_areAccountsRight_17 rfl rfl ?_
  refine I_bipush (pc := 18) hx 6 dX6_areAccountsRight_18 rfl ?_
  refine I_cVI  (pc := 20) hx [.int (oI v2), .int (oI 6)] [.int (oI v1)] (ev_X7_get F (shR a0 4) (kt_2_4 h0) v2 6 w) vm_X7_get fc6 (kt_2_4 h0) (hx.ci (kt_2_4 h0) (Nat.le_of_ble_eq_true rfl)) g1096 dX6_areAccountsRight_20 rfl rfl (Nat.le_of_ble_eq_true rfl) (Nat.le_of_ble_eq_true rfl) (Nat.le_of_ble_eq_true rfl) (fun r21 => ?_)
  refine I_iadd (pc := 23) hx dX6_areAccountsRight_23 ?_
  refine I_ltv (fun v1_22 => ?_)
  refine E_istore_n (pc := 24) hx dX6_areAccountsRight_24 rfl (Nat.le_of_ble_eq_true rfl) rfl ?_
  refine I_iinc (pc := 25) hx 1 2 dX6_areAccountsRight_25 rfl (Nat.le_of_ble_eq_true rfl) rfl ?_
  refine E_goto (pc := 28) hx 4 dX6_areAccountsRight_28 rfl ?_
  refine En.sub [2, 1, 0] rfl ?_
  exact hk4 v1_22 (v2 + 1)
theorem l_X6_areAccountsRight_b4 {x : Cx} (F : Nat) (a0 : Nat) (h0 : shK a0 = 10 + 2) (w : aI) (hx : CxOK x RX6 cX6_areAccountsRight 4 2 0 (some .boolean))  : ∀ (n : Nat) (v1 : Int) (v2 : Int), En x (jvB w) 0 0 4 [(0, .ref a0), (1, .int (oI v1)), (2, .int (oI v2))] [] (cm w) (f_X6_areAccountsRight_b4 F a0 w  n v1 v2) := by
  intro n
  induction n with
  | zero => intro v1 v2; exact E_none
  | succ n ih => intro v1 v2; exact l_X6_areAccountsRight_b4_b F a0 h0 w hx  _ ih v1 v2
set_option maxHeartbeats 4000000 in
set_option maxRecDepth 100000 in
theorem ev_X6_areAccountsRight (F : Nat) (a0 : Nat) (h0 : shK a0 = 10 + 2) (w : aI) : Ev yX6_areAccountsRight cX6_areAccountsRight 4 (some .boolean) 2 0 (jvB w) [.ref a0] (cm w) (f_X6_areAccountsRight F a0 w) := by
  refine Ev.of (own := RX6) (by decide +kernel) rfl (Nat.le_of_ble_eq_true rfl) (fun x hx => ?_)
  show En x (jvB w) 0 0 0 [(0, .ref a0)] [] (cm w) _
  unfold f_X6_areAccountsRight
  refine I_iconst (pc := 0) hx 0 dX6_areAccountsRight_0 ?_
  refine E_istore_n (pc := 1) hx dX6_areAccountsRight_1 rfl (Nat.le_of_ble_eq_true rfl) rfl ?_
  refine I_iconst (pc := 2) hx 0 dX6_areAccountsRight_2 ?_
  refine E_istore_n (pc := 3) hx dX6_areAccountsRight_3 rfl (Nat.le_of_ble_eq_true rfl) rfl ?_
  refine En.sub [2, 1, 0] rfl ?_
  exact l_X6_areAccountsRight_b4 F a0 h0 w hx F 0 0
set_option maxHeartbeats 4000000 in
set_option maxRecDepth 100000 in
theorem ev_X8_raised (F : Nat) (p0 : Int) (p1 : Int) (w : aI) : Ev yX8_raised cX8_raised 4 (some .int) 1 0 (jvI w) [.int (oI p0), .int (oI p1)] (cm w) (f_X8_raised F p0 p1 w) := by
  refine Ev.of (own := RX8) (by decide +kernel) rfl (Nat.le_of_ble_eq_true rfl) (fun x hx => ?_)
  show En x (jvI w) 0 0 0 [(0, .int (oI p0)), (1, .int (oI p1))] [] (cm w) _
  unfold f_X8_raised
  refine I_iconst (pc := 0) hx 3 dX8_raised_0 ?_
  refine E_iload_n (pc := 1) hx 1 dX8_raised_1 rfl rfl ?_
  refine I_imul (pc := 2) hx dX8_raised_2 ?_
  refine I_ltv (fun v2_1 => ?_)
  refine E_istore_n (pc := 3) hx dX8_raised_3 rfl (Nat.le_of_ble_eq_true rfl) rfl ?_
  refine E_iload_n (pc := 4) hx 1 dX8_raised_4 rfl rfl ?_
  refine E_iload_n (pc := 5) hx 2 dX8_raised_5 rfl rfl ?_
  refine I_cNI  (pc := 6) hx [.int (oI p0), .int (oI p1)] [] (ev_X10_noteOf F p0 p1 w) sm_X10_noteOf hx.xe.2.2.1.1 dX8_raised_6 rfl rfl (Nat.le_of_ble_eq_true rfl) (Nat.le_of_ble_eq_true rfl) (Nat.le_of_ble_eq_true rfl) (fun r2 => ?_)
  refine I_iconst (pc := 9) hx 1 dX8_raised_9 ?_
  refine I_iadd (pc := 10) hx dX8_raised_10 ?_
  refine I_bipush (pc := 11) hx 7 dX8_raised_11 rfl ?_
  refine I_iand (pc := 13) hx dX8_raised_13 ?_
  refine I_ltv (fun v3_3 => ?_)
  refine E_istore_n (pc := 14) hx dX8_raised_14 rfl (Nat.le_of_ble_eq_true rfl) rfl ?_
  refine E_iload_n (pc := 15) hx 2 dX8_raised_15 rfl rfl ?_
  refine I_bipush (pc := 16) hx 7 dX8_raised_16 rfl ?_
  refine E_iload_n (pc := 18) hx 1 dX8_raised_18 rfl rfl ?_
  refine E_gd (fun hs4 => ?_)
  refine I_ishl (pc := 19) hx dX8_raised_19 hs4 ?_
  refine I_iconst (pc := 20) hx (-1) dX8_raised_20 ?_
  refine I_ixor (pc := 21) hx dX8_raised_21 ?_
  refine I_iand (pc := 22) hx dX8_raised_22 ?_
  refine E_iload_n (pc := 23) hx 0 dX8_raised_23 rfl rfl ?_
  refine E_iload_n (pc := 24) hx 1 dX8_raised_24 rfl rfl ?_
  refine E_gd (fun hs5 => ?_)
  refine I_ishl (pc := 25) hx dX8_raised_25 hs5 ?_
  refine I_ior (pc := 26) hx dX8_raised_26 ?_
  exact E_iret (pc := 27) hx dX8_raised_27 rfl rfl (Nat.le_of_ble_eq_true rfl)
set_option maxHeartbeats 4000000 in
set_option maxRecDepth 100000 in
theorem l_X8_land_b85 {x : Cx} (F : Nat) (a0 : Nat) (h0 : shK a0 = 10 + 2) (p1 : Int)  (hx : CxOK x RX8 cX8_land 6 2 0 none)   (v3 : Int) (v4 : Int) (w : aI) : En x jvV 0 0 85 [(0, .ref a0), (1, .int (oI p1)), (3, .int (oI v3)), (4, .int (oI v4))] [] (cm w) (f_X8_land_b85 F a0 p1    v3 v4 w) := by
  unfold f_X8_land_b85
  refine E_aload_n (pc := 85) hx 0 dX8_land_85 rfl rfl ?_
  refine E_getR (pc := 86) hx 6 fc2 h0 (hx.ci h0 (Nat.le_of_ble_eq_true rfl)) rfl ⟨rfl, rfl, rfl⟩ g145 dX8_land_86 ?_
  refine E_iload_n (pc := 89) hx 1 dX8_land_89 rfl rfl ?_
  refine I_bipush (pc := 90) hx 10 dX8_land_90 rfl ?_
  refine E_iload (pc := 92) hx 3 dX8_land_92 rfl ?_
  refine I_cVV  (pc := 94) hx [.int (oI p1), .int (oI 10), .int (oI v4)] [] (ev_X7_put F (shR a0 6) (kt_2_6 h0) p1 10 v4 w) vm_X7_put fc6 (kt_2_6 h0) (hx.ci (kt_2_6 h0) (Nat.le_of_ble_eq_true rfl)) g946 dX8_land_94 rfl rfl (Nat.le_of_ble_eq_true rfl) (Nat.le_of_ble_eq_true rfl) (Nat.le_of_ble_eq_true rfl) (fun w8 => ?_)
  refine E_aload_n (pc := 97) hx 0 dX8_land_97 rfl rfl ?_
  refine E_getR (pc := 98) hx 6 fc2 h0 (hx.ci h0 (Nat.le_of_ble_eq_true rfl)) rfl ⟨rfl, rfl, rfl⟩ g145 dX8_land_98 ?_
  refine E_iload_n (pc := 101) hx 1 dX8_land_101 rfl rfl ?_
  refine I_iconst (pc := 102) hx 3 dX8_land_102 ?_
  refine I_iconst (pc := 103) hx 0 dX8_land_103 ?_
  refine I_cVV  (pc := 104) hx [.int (oI p1), .int (oI 3), .int (oI 0)] [] (ev_X7_put F (shR a0 6) (kt_2_6 h0) p1 3 0 w8) vm_X7_put fc6 (kt_2_6 h0) (hx.ci (kt_2_6 h0) (Nat.le_of_ble_eq_true rfl)) g946 dX8_land_104 rfl rfl (Nat.le_of_ble_eq_true rfl) (Nat.le_of_ble_eq_true rfl) (Nat.le_of_ble_eq_true rfl) (fun w9 => ?_)
  refine E_aload_n (pc := 107) hx 0 dX8_land_107 rfl rfl ?_
  refine E_getR (pc := 108) hx 6 fc2 h0 (hx.ci h0 (Nat.le_of_ble_eq_true rfl)) rfl ⟨rfl, rfl, rfl⟩ g145 dX8_land_108 ?_
  refine E_iload_n (pc := 111) hx 1 dX8_land_111 rfl rfl ?_
  refine I_iconst (pc := 112) hx 5 dX8_land_112 ?_
  refine I_iconst (pc := 113) hx (-1) dX8_land_113 ?_
  refine I_cVV  (pc := 114) hx [.int (oI p1), .int (oI 5), .int (oI (-1))] [] (ev_X7_put F (shR a0 6) (kt_2_6 h0) p1 5 (-1) w9) vm_X7_put fc6 (kt_2_6 h0) (hx.ci (kt_2_6 h0) (Nat.le_of_ble_eq_true rfl)) g946 dX8_land_114 rfl rfl (Nat.le_of_ble_eq_true rfl) (Nat.le_of_ble_eq_true rfl) (Nat.le_of_ble_eq_true rfl) (fun w10 => ?_)
  refine E_aload_n (pc := 117) hx 0 dX8_land_117 rfl rfl ?_
  refine I_iconst (pc := 118) hx 4 dX8_land_118 ?_
  refine E_iload_n (pc := 119) hx 2 dX8_land_119 rfl rfl ?_
  refine I_cVV  (pc := 120) hx [.int (oI 4), .int (oI v3)] [] (ev_X2_enter F a0 h0 4 v3 w10) vm_X2_enter fc2 h0 (hx.ci h0 (Nat.le_of_ble_eq_true rfl)) g925 dX8_land_120 rfl rfl (Nat.le_of_ble_eq_true rfl) (Nat.le_of_ble_eq_true rfl) (Nat.le_of_ble_eq_true rfl) (fun w11 => ?_)
  exact E_vret (pc := 123) hx dX8_land_123 rfl rfl (Nat.le_of_ble_eq_true rfl)
set_option maxHeartbeats 4000000 in
set_option maxRecDepth 100000 in
theorem l_X8_land_b56_b {x : Cx} (F : Nat) (a0 : Nat) (h0 : shK a0 = 10 + 2) (p1 : Int)  (hx : CxOK x RX8 cX8_land 6 2 0 none)  (k56 : Int → Int → Int → Int → aI → Option aI) (hk56 : ∀ (v2 : Int) (v3 : Int) (v4 : Int) (v5 : Int) (w : aI), En x jvV 0 0 56 [(0, .ref a0), (1, .int (oI p1)), (2, .int (oI v2)), (3, .int (oI v3)), (4, .int (oI v4)), (5, .int (oI v5))] [] (cm w) (k56 v2 v3 v4 v5 w)) (v2 : Int) (v3 : Int) (v4 : Int) (v5 : Int) (w : aI) : En x jvV 0 0 56 [(0, .ref a0), (1, .int (oI p1)), (2, .int (oI v2)), (3, .int (oI v3)), (4, .int (oI v4)), (5, .int (oI v5))] [] (cm w) (f_X8_land_b56_b F a0 p1   k56 v2 v3 v4 v5 w) := by
  unfold f_X8_land_b56_b
  refine E_iload (pc := 56) hx 5 dX8_land_56 rfl ?_
  refine E_iload_n (pc := 58) hx 3 dX8_land_58 rfl rfl ?_
  refine E_gd (fun hr7 => ?_)
  refine I_icmp_ge (pc := 59) hx 85 dX8_land_59 rfl ⟨hr7.1, hr7.2⟩ ?_ ?_
  · refine En.sub [0, 1, 3, 4] rfl ?_
    exact l_X8_land_b85 F a0 h0 p1 hx v3 v4 w
  refine E_iload_n (pc := 62) hx 2 dX8_land_62 rfl rfl ?_
  refine E_gd (fun hr12 => ?_)
  refine I_if_le (pc := 63) hx 85 dX8_land_63 rfl hr12 ?_ ?_
  · refine En.sub [0, 1, 3, 4] rfl ?_
    exact l_X8_land_b85 F a0 h0 p1 hx v3 v4 w
  refine E_iload (pc := 66) hx 4 dX8_land_66 rfl ?_
  refine E_iload_n (pc := 68) hx 1 dX8_land_68 rfl rfl ?_
  refine E_iload (pc := 69) hx 5 dX8_land_69 rfl ?_
  refine I_iadd (pc := 71) hx dX8_land_71 ?_
  refine E_iload_n (pc := 72) hx 2 dX8_land_72 rfl rfl ?_
  refine E_gd (fun hr13 => ?_)
  refine E_gd (fun hd14 => ?_)
  refine I_irem (pc := 73) hx dX8_land_73 ⟨hr13, hr12, hd14⟩ ?_
  refine I_cSI  (pc := 74) hx [.int (oI v4), .int (oI (Int.tmod (p1 + v5) v2))] [] (ev_X8_raised F v4 (Int.tmod (p1 + v5) v2) w) sm_X8_raised g940 dX8_land_74 rfl rfl (Nat.le_of_ble_eq_true rfl) (Nat.le_of_ble_eq_true rfl) (Nat.le_of_ble_eq_true rfl) (fun r15 => ?_)
  refine E_istore (pc := 77) hx dX8_land_77 (Nat.le_of_ble_eq_true rfl) rfl ?_
  refine I_iinc (pc := 79) hx 1 5 dX8_land_79 rfl (Nat.le_of_ble_eq_true rfl) rfl ?_
  refine E_goto (pc := 82) hx 56 dX8_land_82 rfl ?_
  refine En.sub [2, 3, 4, 5, 1, 0] rfl ?_
  exact hk56 v2 v3 r15 (v5 + 1) w
theorem l_X8_land_b56 {x : Cx} (F : Nat) (a0 : Nat) (h0 : shK a0 = 10 + 2) (p1 : Int)  (hx : CxOK x RX8 cX8_land 6 2 0 none)  : ∀ (n : Nat) (v2 : Int) (v3 : Int) (v4 : Int) (v5 : Int) (w : aI), En x jvV 0 0 56 [(0, .ref a0), (1, .int (oI p1)), (2, .int (oI v2)), (3, .int (oI v3)), (4, .int (oI v4)), (5, .int (oI v5))] [] (cm w) (f_X8_land_b56 F a0 p1   n v2 v3 v4 v5 w) := by
  intro n
  induction n with
  | zero => intro v2 v3 v4 v5 w; exact E_none
  | succ n ih => intro v2 v3 v4 v5 w; exact l_X8_land_b56_b F a0 h0 p1  hx  _ ih v2 v3 v4 v5 w
set_option maxHeartbeats 4000000 in
set_option maxRecDepth 100000 in
theorem ev_X8_land (F : Nat) (a0 : Nat) (h0 : shK a0 = 10 + 2) (p1 : Int) (w : aI) : Ev yX8_land cX8_land 6 none 2 0 jvV [.ref a0, .int (oI p1)] (cm w) (f_X8_land F a0 p1 w) := by
  refine Ev.of (own := RX8) (by decide +kernel) rfl (Nat.le_of_ble_eq_true rfl) (fun x hx => ?_)
  show En x jvV 0 0 0 [(0, .ref a0), (1, .int (oI p1))] [] (cm w) _
  unfold f_X8_land
  refine E_aload_n (pc := 0) hx 0 dX8_land_0 rfl rfl ?_
  refine E_getR (pc := 1) hx 6 fc2 h0 (hx.ci h0 (Nat.le_of_ble_eq_true rfl)) rfl ⟨rfl, rfl, rfl⟩ g145 dX8_land_1 ?_
  refine E_iload_n (pc := 4) hx 1 dX8_land_4 rfl rfl ?_
  refine I_iconst (pc := 5) hx 2 dX8_land_5 ?_
  refine I_cVI  (pc := 6) hx [.int (oI p1), .int (oI 2)] [] (ev_X7_get F (shR a0 6) (kt_2_6 h0) p1 2 w) vm_X7_get fc6 (kt_2_6 h0) (hx.ci (kt_2_6 h0) (Nat.le_of_ble_eq_true rfl)) g929 dX8_land_6 rfl rfl (Nat.le_of_ble_eq_true rfl) (Nat.le_of_ble_eq_true rfl) (Nat.le_of_ble_eq_true rfl) (fun r1 => ?_)
  refine E_istore_n (pc := 9) hx dX8_land_9 rfl (Nat.le_of_ble_eq_true rfl) rfl ?_
  refine E_aload_n (pc := 10) hx 1 dX8_land_10 rfl rfl ?_
  refine E_aload_n (pc := 11) hx 1 dX8_land_11 rfl rfl ?_
  refine E_getR (pc := 12) hx 6 fc2 h0 (hx.ci h0 (Nat.le_of_ble_eq_true rfl)) rfl ⟨rfl, rfl, rfl⟩ g145 dX8_land_12 ?_
  refine E_iload_n (pc := 15) hx 2 dX8_land_15 rfl rfl ?_
  refine I_bipush (pc := 16) hx 12 dX8_land_16 rfl ?_
  refine I_cVI  (pc := 18) hx [.int (oI p1), .int (oI 12)] [.ref a0] (ev_X7_get F (shR a0 6) (kt_2_6 h0) p1 12 w) vm_X7_get fc6 (kt_2_6 h0) (hx.ci (kt_2_6 h0) (Nat.le_of_ble_eq_true rfl)) g929 dX8_land_18 rfl rfl (Nat.le_of_ble_eq_true rfl) (Nat.le_of_ble_eq_true rfl) (Nat.le_of_ble_eq_true rfl) (fun r2 => ?_)
  refine E_aload_n (pc := 21) hx 1 dX8_land_21 rfl rfl ?_
  refine E_getR (pc := 22) hx 6 fc2 h0 (hx.ci h0 (Nat.le_of_ble_eq_true rfl)) rfl ⟨rfl, rfl, rfl⟩ g145 dX8_land_22 ?_
  refine E_iload_n (pc := 25) hx 2 dX8_land_25 rfl rfl ?_
  refine I_iconst (pc := 26) hx 4 dX8_land_26 ?_
  refine I_cVI  (pc := 27) hx [.int (oI p1), .int (oI 4)] [.int (oI r2), .ref a0] (ev_X7_get F (shR a0 6) (kt_2_6 h0) p1 4 w) vm_X7_get fc6 (kt_2_6 h0) (hx.ci (kt_2_6 h0) (Nat.le_of_ble_eq_true rfl)) g929 dX8_land_27 rfl rfl (Nat.le_of_ble_eq_true rfl) (Nat.le_of_ble_eq_true rfl) (Nat.le_of_ble_eq_true rfl) (fun r3 => ?_)
  refine E_iload_n (pc := 30) hx 0 dX8_land_30 rfl rfl ?_
  refine E_aload_n (pc := 31) hx 1 dX8_land_31 rfl rfl ?_
  refine I_bipush (pc := 32) hx 8 dX8_land_32 rfl ?_
  refine I_cVI  (pc := 34) hx [.int (oI 8)] [.int (oI r1), .int (oI r3), .int (oI r2), .ref a0] (ev_X2_setting F a0 h0 8 w) vm_X2_setting fc2 h0 (hx.ci h0 (Nat.le_of_ble_eq_true rfl)) g933 dX8_land_34 rfl rfl (Nat.le_of_ble_eq_true rfl) (Nat.le_of_ble_eq_true rfl) (Nat.le_of_ble_eq_true rfl) (fun r4 => ?_)
  refine I_cVI  (pc := 37) hx [.int (oI r2), .int (oI r3), .int (oI r1), .int (oI r4)] [] (ev_X2_wrongOf F a0 h0 r2 r3 r1 r4 w) vm_X2_wrongOf fc2 h0 (hx.ci h0 (Nat.le_of_ble_eq_true rfl)) g934 dX8_land_37 rfl rfl (Nat.le_of_ble_eq_true rfl) (Nat.le_of_ble_eq_true rfl) (Nat.le_of_ble_eq_true rfl) (fun r5 => ?_)
  refine E_istore_n (pc := 40) hx dX8_land_40 rfl (Nat.le_of_ble_eq_true rfl) rfl ?_
  refine E_aload_n (pc := 41) hx 2 dX8_land_41 rfl rfl ?_
  refine E_getR (pc := 42) hx 6 fc2 h0 (hx.ci h0 (Nat.le_of_ble_eq_true rfl)) rfl ⟨rfl, rfl, rfl⟩ g145 dX8_land_42 ?_
  refine E_iload_n (pc := 45) hx 3 dX8_land_45 rfl rfl ?_
  refine I_bipush (pc := 46) hx 10 dX8_land_46 rfl ?_
  refine I_cVI  (pc := 48) hx [.int (oI p1), .int (oI 10)] [] (ev_X7_get F (shR a0 6) (kt_2_6 h0) p1 10 w) vm_X7_get fc6 (kt_2_6 h0) (hx.ci (kt_2_6 h0) (Nat.le_of_ble_eq_true rfl)) g929 dX8_land_48 rfl rfl (Nat.le_of_ble_eq_true rfl) (Nat.le_of_ble_eq_true rfl) (Nat.le_of_ble_eq_true rfl) (fun r6 => ?_)
  refine E_istore (pc := 51) hx dX8_land_51 (Nat.le_of_ble_eq_true rfl) rfl ?_
  refine I_iconst (pc := 53) hx 0 dX8_land_53 ?_
  refine E_istore (pc := 54) hx dX8_land_54 (Nat.le_of_ble_eq_true rfl) rfl ?_
  refine En.sub [4, 5, 3, 2, 1, 0] rfl ?_
  exact l_X8_land_b56 F a0 h0 p1 hx F r1 r5 r6 0 w
set_option maxHeartbeats 4000000 in
set_option maxRecDepth 100000 in
theorem l_X8_turned_b4_b {x : Cx} (F : Nat) (p0 : Int) (p1 : Int) (w : aI) (hx : CxOK x RX8 cX8_turned 4 1 0 (some .int))  (k4 : Int → Int → Option Int) (hk4 : ∀ (v2 : Int) (v3 : Int), En x (jvI w) 0 0 4 [(0, .int (oI p0)), (1, .int (oI p1)), (2, .int (oI v2)), (3, .int (oI v3))] [] (cm w) (k4 v2 v3)) (v2 : Int) (v3 : Int)  : En x (jvI w) 0 0 4 [(0, .int (oI p0)), (1, .int (oI p1)), (2, .int (oI v2)), (3, .int (oI v3))] [] (cm w) (f_X8_turned_b4_b F p0 p1 w  k4 v2 v3) := by
  unfold f_X8_turned_b4_b
  refine E_iload_n (pc := 4) hx 3 dX8_turned_4 rfl rfl ?_
  refine E_iload_n (pc := 5) hx 1 dX8_turned_5 rfl rfl ?_
  refine E_gd (fun hr1 => ?_)
  refine I_icmp_ge (pc := 6) hx 25 dX8_turned_6 rfl ⟨hr1.1, hr1.2⟩ ?_ ?_
  · refine E_iload_n (pc := 25) hx 2 dX8_turned_25 rfl rfl ?_
    exact E_iret (pc := 26) hx dX8_turned_26 rfl rfl (Nat.le_of_ble_eq_true rfl)
  refine E_iload_n (pc := 9) hx 2 dX8_turned_9 rfl rfl ?_
  refine I_iconst (pc := 10) hx 3 dX8_turned_10 ?_
  refine I_ishl (pc := 11) hx dX8_turned_11 (by decide) ?_
  refine E_iload_n (pc := 12) hx 0 dX8_turned_12 rfl rfl ?_
  refine E_iload_n (pc := 13) hx 3 dX8_turned_13 rfl rfl ?_
  refine I_cNI  (pc := 14) hx [.int (oI p0), .int (oI v3)] [.int (oI (shl v2 3))] (ev_X10_noteOf F p0 v3 w) sm_X10_noteOf hx.xe.2.2.1.1 dX8_turned_14 rfl rfl (Nat.le_of_ble_eq_true rfl) (Nat.le_of_ble_eq_true rfl) (Nat.le_of_ble_eq_true rfl) (fun r2 => ?_)
  refine I_ior (pc := 17) hx dX8_turned_17 ?_
  refine I_ltv (fun v2_3 => ?_)
  refine E_istore_n (pc := 18) hx dX8_turned_18 rfl (Nat.le_of_ble_eq_true rfl) rfl ?_
  refine I_iinc (pc := 19) hx 1 3 dX8_turned_19 rfl (Nat.le_of_ble_eq_true rfl) rfl ?_
  refine E_goto (pc := 22) hx 4 dX8_turned_22 rfl ?_
  refine En.sub [2, 3, 1, 0] rfl ?_
  exact hk4 v2_3 (v3 + 1)
theorem l_X8_turned_b4 {x : Cx} (F : Nat) (p0 : Int) (p1 : Int) (w : aI) (hx : CxOK x RX8 cX8_turned 4 1 0 (some .int))  : ∀ (n : Nat) (v2 : Int) (v3 : Int), En x (jvI w) 0 0 4 [(0, .int (oI p0)), (1, .int (oI p1)), (2, .int (oI v2)), (3, .int (oI v3))] [] (cm w) (f_X8_turned_b4 F p0 p1 w  n v2 v3) := by
  intro n
  induction n with
  | zero => intro v2 v3; exact E_none
  | succ n ih => intro v2 v3; exact l_X8_turned_b4_b F p0 p1 w hx  _ ih v2 v3
set_option maxHeartbeats 4000000 in
set_option maxRecDepth 100000 in
theorem ev_X8_turned (F : Nat) (p0 : Int) (p1 : Int) (w : aI) : Ev yX8_turned cX8_turned 4 (some .int) 1 0 (jvI w) [.int (oI p0), .int (oI p1)] (cm w) (f_X8_turned F p0 p1 w) := by
  refine Ev.of (own := RX8) (by decide +kernel) rfl (Nat.le_of_ble_eq_true rfl) (fun x hx => ?_)
  show En x (jvI w) 0 0 0 [(0, .int (oI p0)), (1, .int (oI p1))] [] (cm w) _
  unfold f_X8_turned
  refine I_iconst (pc := 0) hx 0 dX8_turned_0 ?_
  refine E_istore_n (pc := 1) hx dX8_turned_1 rfl (Nat.le_of_ble_eq_true rfl) rfl ?_
  refine I_iconst (pc := 2) hx 0 dX8_turned_2 ?_
  refine E_istore_n (pc := 3) hx dX8_turned_3 rfl (Nat.le_of_ble_eq_true rfl) rfl ?_
  refine En.sub [2, 3, 1, 0] rfl ?_
  exact l_X8_turned_b4 F p0 p1 w hx F 0 0
set_option maxHeartbeats 4000000 in
set_option maxRecDepth 100000 in
theorem l_X8_reachGoal_b102 {x : Cx} (F : Nat) (a0 : Nat) (h0 : shK a0 = 10 + 2) (p1 : Int)  (hx : CxOK x RX8 cX8_reachGoal 5 3 0 none)   (v2 : Int) (v3 : Int) (w : aI) : En x jvV 0 0 102 [(0, .ref a0), (1, .int (oI p1)), (2, .int (oI v2)), (3, .int (oI v3))] [] (cm w) (f_X8_reachGoal_b102 F a0 p1    v2 v3 w) := by
  unfold f_X8_reachGoal_b102
  refine E_aload_n (pc := 102) hx 0 dX8_reachGoal_102 rfl rfl ?_
  refine E_getR (pc := 103) hx 6 fc2 h0 (hx.ci h0 (Nat.le_of_ble_eq_true rfl)) rfl ⟨rfl, rfl, rfl⟩ g145 dX8_reachGoal_103 ?_
  refine E_iload_n (pc := 106) hx 1 dX8_reachGoal_106 rfl rfl ?_
  refine I_iconst (pc := 107) hx 3 dX8_reachGoal_107 ?_
  refine I_iconst (pc := 108) hx 2 dX8_reachGoal_108 ?_
  refine I_cVV  (pc := 109) hx [.int (oI p1), .int (oI 3), .int (oI 2)] [] (ev_X7_put F (shR a0 6) (kt_2_6 h0) p1 3 2 w) vm_X7_put fc6 (kt_2_6 h0) (hx.ci (kt_2_6 h0) (Nat.le_of_ble_eq_true rfl)) g946 dX8_reachGoal_109 rfl rfl (Nat.le_of_ble_eq_true rfl) (Nat.le_of_ble_eq_true rfl) (Nat.le_of_ble_eq_true rfl) (fun w5 => ?_)
  refine E_aload_n (pc := 112) hx 0 dX8_reachGoal_112 rfl rfl ?_
  refine I_iconst (pc := 113) hx 5 dX8_reachGoal_113 ?_
  refine I_iconst (pc := 114) hx 1 dX8_reachGoal_114 ?_
  refine I_cVV  (pc := 115) hx [.int (oI 5), .int (oI 1)] [] (ev_X2_enter F a0 h0 5 1 w5) vm_X2_enter fc2 h0 (hx.ci h0 (Nat.le_of_ble_eq_true rfl)) g925 dX8_reachGoal_115 rfl rfl (Nat.le_of_ble_eq_true rfl) (Nat.le_of_ble_eq_true rfl) (Nat.le_of_ble_eq_true rfl) (fun w6 => ?_)
  refine E_iload_n (pc := 118) hx 3 dX8_reachGoal_118 rfl rfl ?_
  refine E_gd (fun hr7 => ?_)
  refine I_if_ne (pc := 119) hx 123 dX8_reachGoal_119 rfl hr7 ?_ ?_
  · refine E_aload_n (pc := 123) hx 0 dX8_reachGoal_123 rfl rfl ?_
    refine I_bipush (pc := 124) hx 6 dX8_reachGoal_124 rfl ?_
    refine I_iconst (pc := 126) hx 1 dX8_reachGoal_126 ?_
    refine I_cVV  (pc := 127) hx [.int (oI 6), .int (oI 1)] [] (ev_X2_enter F a0 h0 6 1 w6) vm_X2_enter fc2 h0 (hx.ci h0 (Nat.le_of_ble_eq_true rfl)) g925 dX8_reachGoal_127 rfl rfl (Nat.le_of_ble_eq_true rfl) (Nat.le_of_ble_eq_true rfl) (Nat.le_of_ble_eq_true rfl) (fun w8 => ?_)
    refine E_aload_n (pc := 130) hx 0 dX8_reachGoal_130 rfl rfl ?_
    refine E_getR (pc := 131) hx 6 fc2 h0 (hx.ci h0 (Nat.le_of_ble_eq_true rfl)) rfl ⟨rfl, rfl, rfl⟩ g145 dX8_reachGoal_131 ?_
    refine E_iload_n (pc := 134) hx 1 dX8_reachGoal_134 rfl rfl ?_
    refine I_bipush (pc := 135) hx 7 dX8_reachGoal_135 rfl ?_
    refine I_cVI  (pc := 137) hx [.int (oI p1), .int (oI 7)] [] (ev_X7_get F (shR a0 6) (kt_2_6 h0) p1 7 w8) vm_X7_get fc6 (kt_2_6 h0) (hx.ci (kt_2_6 h0) (Nat.le_of_ble_eq_true rfl)) g929 dX8_reachGoal_137 rfl rfl (Nat.le_of_ble_eq_true rfl) (Nat.le_of_ble_eq_true rfl) (Nat.le_of_ble_eq_true rfl) (fun r9 => ?_)
    refine I_iconst (pc := 140) hx 1 dX8_reachGoal_140 ?_
    refine E_gd (fun hr10 => ?_)
    refine I_icmp_ne (pc := 141) hx 203 dX8_reachGoal_141 rfl ⟨hr10, (by decide)⟩ ?_ ?_
    · exact E_vret (pc := 203) hx dX8_reachGoal_203 rfl rfl (Nat.le_of_ble_eq_true rfl)
    refine E_aload_n (pc := 144) hx 0 dX8_reachGoal_144 rfl rfl ?_
    refine I_getI (pc := 145) hx 3 3 rfl fc2 h0 (hx.ci h0 (Nat.le_of_ble_eq_true rfl)) rfl ⟨rfl, rfl, rfl⟩ g135 dX8_reachGoal_145 ?_
    refine I_bipush (pc := 148) hx 30 dX8_reachGoal_148 rfl ?_
    refine E_gd (fun hr11 => ?_)
    refine I_icmp_ge (pc := 150) hx 203 dX8_reachGoal_150 rfl ⟨hr11, (by decide)⟩ ?_ ?_
    · exact E_vret (pc := 203) hx dX8_reachGoal_203 rfl rfl (Nat.le_of_ble_eq_true rfl)
    refine E_aload_n (pc := 153) hx 0 dX8_reachGoal_153 rfl rfl ?_
    refine E_getR (pc := 154) hx 6 fc2 h0 (hx.ci h0 (Nat.le_of_ble_eq_true rfl)) rfl ⟨rfl, rfl, rfl⟩ g145 dX8_reachGoal_154 ?_
    refine E_iload_n (pc := 157) hx 1 dX8_reachGoal_157 rfl rfl ?_
    refine I_iconst (pc := 158) hx 2 dX8_reachGoal_158 ?_
    refine I_cVI  (pc := 159) hx [.int (oI p1), .int (oI 2)] [] (ev_X7_get F (shR a0 6) (kt_2_6 h0) p1 2 w8) vm_X7_get fc6 (kt_2_6 h0) (hx.ci (kt_2_6 h0) (Nat.le_of_ble_eq_true rfl)) g929 dX8_reachGoal_159 rfl rfl (Nat.le_of_ble_eq_true rfl) (Nat.le_of_ble_eq_true rfl) (Nat.le_of_ble_eq_true rfl) (fun r12 => ?_)
    refine E_istore (pc := 162) hx dX8_reachGoal_162 (Nat.le_of_ble_eq_true rfl) rfl ?_
    refine E_aload_n (pc := 164) hx 1 dX8_reachGoal_164 rfl rfl ?_
    refine E_aload_n (pc := 165) hx 1 dX8_reachGoal_165 rfl rfl ?_
    refine E_getR (pc := 166) hx 6 fc2 h0 (hx.ci h0 (Nat.le_of_ble_eq_true rfl)) rfl ⟨rfl, rfl, rfl⟩ g145 dX8_reachGoal_166 ?_
    refine E_iload_n (pc := 169) hx 2 dX8_reachGoal_169 rfl rfl ?_
    refine I_iconst (pc := 170) hx 1 dX8_reachGoal_170 ?_
    refine I_cVI  (pc := 171) hx [.int (oI p1), .int (oI 1)] [.ref a0] (ev_X7_get F (shR a0 6) (kt_2_6 h0) p1 1 w8) vm_X7_get fc6 (kt_2_6 h0) (hx.ci (kt_2_6 h0) (Nat.le_of_ble_eq_true rfl)) g929 dX8_reachGoal_171 rfl rfl (Nat.le_of_ble_eq_true rfl) (Nat.le_of_ble_eq_true rfl) (Nat.le_of_ble_eq_true rfl) (fun r13 => ?_)
    refine E_aload_n (pc := 174) hx 1 dX8_reachGoal_174 rfl rfl ?_
    refine E_getR (pc := 175) hx 6 fc2 h0 (hx.ci h0 (Nat.le_of_ble_eq_true rfl)) rfl ⟨rfl, rfl, rfl⟩ g145 dX8_reachGoal_175 ?_
    refine E_iload_n (pc := 178) hx 2 dX8_reachGoal_178 rfl rfl ?_
    refine I_iconst (pc := 179) hx 0 dX8_reachGoal_179 ?_
    refine I_cVI  (pc := 180) hx [.int (oI p1), .int (oI 0)] [.int (oI r13), .ref a0] (ev_X7_get F (shR a0 6) (kt_2_6 h0) p1 0 w8) vm_X7_get fc6 (kt_2_6 h0) (hx.ci (kt_2_6 h0) (Nat.le_of_ble_eq_true rfl)) g929 dX8_reachGoal_180 rfl rfl (Nat.le_of_ble_eq_true rfl) (Nat.le_of_ble_eq_true rfl) (Nat.le_of_ble_eq_true rfl) (fun r14 => ?_)
    refine E_iload (pc := 183) hx 0 dX8_reachGoal_183 rfl ?_
    refine E_iload_n (pc := 185) hx 3 dX8_reachGoal_185 rfl rfl ?_
    refine E_iload (pc := 186) hx 0 dX8_reachGoal_186 rfl ?_
    refine I_cSI  (pc := 188) hx [.int (oI v2), .int (oI r12)] [.int (oI r12), .int (oI r14), .int (oI r13), .ref a0] (ev_X8_turned F v2 r12 w8) sm_X8_turned g951 dX8_reachGoal_188 rfl rfl (Nat.le_of_ble_eq_true rfl) (Nat.le_of_ble_eq_true rfl) (Nat.le_of_ble_eq_true rfl) (fun r15 => ?_)
    refine I_iconst (pc := 191) hx 1 dX8_reachGoal_191 ?_
    refine I_iconst (pc := 192) hx 0 dX8_reachGoal_192 ?_
    refine I_cVIW  (pc := 193) hx [.int (oI r13), .int (oI r14), .int (oI r12), .int (oI r15), .int (oI 1), .int (oI 0)] [] (ev_X2_addTune F a0 h0 r13 r14 r12 r15 1 0 w8) vm_X2_addTune fc2 h0 (hx.ci h0 (Nat.le_of_ble_eq_true rfl)) g954 dX8_reachGoal_193 rfl rfl (Nat.le_of_ble_eq_true rfl) (Nat.le_of_ble_eq_true rfl) (Nat.le_of_ble_eq_true rfl) (fun r16 w17 => ?_)
    refine E_pop (pc := 196) hx dX8_reachGoal_196 rfl ?_
    refine E_aload_n (pc := 197) hx 1 dX8_reachGoal_197 rfl rfl ?_
    refine I_iconst (pc := 198) hx 2 dX8_reachGoal_198 ?_
    refine I_iconst (pc := 199) hx 1 dX8_reachGoal_199 ?_
    refine I_cVV  (pc := 200) hx [.int (oI 2), .int (oI 1)] [] (ev_X2_enter F a0 h0 2 1 w17) vm_X2_enter fc2 h0 (hx.ci h0 (Nat.le_of_ble_eq_true rfl)) g925 dX8_reachGoal_200 rfl rfl (Nat.le_of_ble_eq_true rfl) (Nat.le_of_ble_eq_true rfl) (Nat.le_of_ble_eq_true rfl) (fun w18 => ?_)
    exact E_vret (pc := 203) hx dX8_reachGoal_203 rfl rfl (Nat.le_of_ble_eq_true rfl)
  exact E_vret (pc := 122) hx dX8_reachGoal_122 rfl rfl (Nat.le_of_ble_eq_true rfl)
set_option maxHeartbeats 4000000 in
set_option maxRecDepth 100000 in
theorem l_X8_reachGoal_b30 {x : Cx} (F : Nat) (a0 : Nat) (h0 : shK a0 = 10 + 2) (p1 : Int)  (hx : CxOK x RX8 cX8_reachGoal 5 3 0 none)   (v2 : Int) (z0 : Int) (w : aI) : En x jvV 0 0 30 [(0, .ref a0), (1, .int (oI p1)), (2, .int (oI v2))] [.int (oI z0)] (cm w) (f_X8_reachGoal_b30 F a0 p1    v2 z0 w) := by
  unfold f_X8_reachGoal_b30
  refine E_istore_n (pc := 30) hx dX8_reachGoal_30 rfl (Nat.le_of_ble_eq_true rfl) rfl ?_
  refine E_iload_n (pc := 31) hx 0 dX8_reachGoal_31 rfl rfl ?_
  refine E_gd (fun hr4 => ?_)
  refine I_if_ne (pc := 32) hx 102 dX8_reachGoal_32 rfl hr4 ?_ ?_
  · refine En.sub [1, 2, 3, 0] rfl ?_
    exact l_X8_reachGoal_b102 F a0 h0 p1 hx v2 z0 w
  refine E_aload_n (pc := 35) hx 1 dX8_reachGoal_35 rfl rfl ?_
  refine E_getR (pc := 36) hx 6 fc2 h0 (hx.ci h0 (Nat.le_of_ble_eq_true rfl)) rfl ⟨rfl, rfl, rfl⟩ g145 dX8_reachGoal_36 ?_
  refine E_iload_n (pc := 39) hx 2 dX8_reachGoal_39 rfl rfl ?_
  refine I_bipush (pc := 40) hx 8 dX8_reachGoal_40 rfl ?_
  refine I_cVI  (pc := 42) hx [.int (oI p1), .int (oI 8)] [] (ev_X7_get F (shR a0 6) (kt_2_6 h0) p1 8 w) vm_X7_get fc6 (kt_2_6 h0) (hx.ci (kt_2_6 h0) (Nat.le_of_ble_eq_true rfl)) g929 dX8_reachGoal_42 rfl rfl (Nat.le_of_ble_eq_true rfl) (Nat.le_of_ble_eq_true rfl) (Nat.le_of_ble_eq_true rfl) (fun r19 => ?_)
  refine E_aload_n (pc := 45) hx 1 dX8_reachGoal_45 rfl rfl ?_
  refine I_bipush (pc := 46) hx 10 dX8_reachGoal_46 rfl ?_
  refine I_cVI  (pc := 48) hx [.int (oI 10)] [.int (oI r19)] (ev_X2_setting F a0 h0 10 w) vm_X2_setting fc2 h0 (hx.ci h0 (Nat.le_of_ble_eq_true rfl)) g933 dX8_reachGoal_48 rfl rfl (Nat.le_of_ble_eq_true rfl) (Nat.le_of_ble_eq_true rfl) (Nat.le_of_ble_eq_true rfl) (fun r20 => ?_)
  refine E_gd (fun hr21 => ?_)
  refine I_icmp_ge (pc := 51) hx 102 dX8_reachGoal_51 rfl ⟨hr21.1, hr21.2⟩ ?_ ?_
  · refine En.sub [1, 2, 3, 0] rfl ?_
    exact l_X8_reachGoal_b102 F a0 h0 p1 hx v2 z0 w
  refine E_aload_n (pc := 54) hx 1 dX8_reachGoal_54 rfl rfl ?_
  refine E_getR (pc := 55) hx 6 fc2 h0 (hx.ci h0 (Nat.le_of_ble_eq_true rfl)) rfl ⟨rfl, rfl, rfl⟩ g145 dX8_reachGoal_55 ?_
  refine E_iload_n (pc := 58) hx 2 dX8_reachGoal_58 rfl rfl ?_
  refine I_bipush (pc := 59) hx 8 dX8_reachGoal_59 rfl ?_
  refine I_iconst (pc := 61) hx 1 dX8_reachGoal_61 ?_
  refine I_cVV  (pc := 62) hx [.int (oI p1), .int (oI 8), .int (oI 1)] [] (ev_X7_grow F (shR a0 6) (kt_2_6 h0) p1 8 1 w) vm_X7_grow fc6 (kt_2_6 h0) (hx.ci (kt_2_6 h0) (Nat.le_of_ble_eq_true rfl)) g950 dX8_reachGoal_62 rfl rfl (Nat.le_of_ble_eq_true rfl) (Nat.le_of_ble_eq_true rfl) (Nat.le_of_ble_eq_true rfl) (fun w22 => ?_)
  refine E_aload_n (pc := 65) hx 1 dX8_reachGoal_65 rfl rfl ?_
  refine E_getR (pc := 66) hx 6 fc2 h0 (hx.ci h0 (Nat.le_of_ble_eq_true rfl)) rfl ⟨rfl, rfl, rfl⟩ g145 dX8_reachGoal_66 ?_
  refine E_iload_n (pc := 69) hx 2 dX8_reachGoal_69 rfl rfl ?_
  refine I_bipush (pc := 70) hx 10 dX8_reachGoal_70 rfl ?_
  refine E_iload_n (pc := 72) hx 3 dX8_reachGoal_72 rfl rfl ?_
  refine I_cVV  (pc := 73) hx [.int (oI p1), .int (oI 10), .int (oI v2)] [] (ev_X7_put F (shR a0 6) (kt_2_6 h0) p1 10 v2 w22) vm_X7_put fc6 (kt_2_6 h0) (hx.ci (kt_2_6 h0) (Nat.le_of_ble_eq_true rfl)) g946 dX8_reachGoal_73 rfl rfl (Nat.le_of_ble_eq_true rfl) (Nat.le_of_ble_eq_true rfl) (Nat.le_of_ble_eq_true rfl) (fun w23 => ?_)
  refine E_aload_n (pc := 76) hx 1 dX8_reachGoal_76 rfl rfl ?_
  refine E_getR (pc := 77) hx 6 fc2 h0 (hx.ci h0 (Nat.le_of_ble_eq_true rfl)) rfl ⟨rfl, rfl, rfl⟩ g145 dX8_reachGoal_77 ?_
  refine E_iload_n (pc := 80) hx 2 dX8_reachGoal_80 rfl rfl ?_
  refine I_iconst (pc := 81) hx 4 dX8_reachGoal_81 ?_
  refine E_aload_n (pc := 82) hx 1 dX8_reachGoal_82 rfl rfl ?_
  refine E_getR (pc := 83) hx 6 fc2 h0 (hx.ci h0 (Nat.le_of_ble_eq_true rfl)) rfl ⟨rfl, rfl, rfl⟩ g145 dX8_reachGoal_83 ?_
  refine E_iload_n (pc := 86) hx 2 dX8_reachGoal_86 rfl rfl ?_
  refine I_iconst (pc := 87) hx 0 dX8_reachGoal_87 ?_
  refine I_cVI  (pc := 88) hx [.int (oI p1), .int (oI 0)] [.int (oI 4), .int (oI p1), .ref (shR a0 6)] (ev_X7_get F (shR a0 6) (kt_2_6 h0) p1 0 w23) vm_X7_get fc6 (kt_2_6 h0) (hx.ci (kt_2_6 h0) (Nat.le_of_ble_eq_true rfl)) g929 dX8_reachGoal_88 rfl rfl (Nat.le_of_ble_eq_true rfl) (Nat.le_of_ble_eq_true rfl) (Nat.le_of_ble_eq_true rfl) (fun r24 => ?_)
  refine I_cVV  (pc := 91) hx [.int (oI p1), .int (oI 4), .int (oI r24)] [] (ev_X7_put F (shR a0 6) (kt_2_6 h0) p1 4 r24 w23) vm_X7_put fc6 (kt_2_6 h0) (hx.ci (kt_2_6 h0) (Nat.le_of_ble_eq_true rfl)) g946 dX8_reachGoal_91 rfl rfl (Nat.le_of_ble_eq_true rfl) (Nat.le_of_ble_eq_true rfl) (Nat.le_of_ble_eq_true rfl) (fun w25 => ?_)
  refine E_aload_n (pc := 94) hx 1 dX8_reachGoal_94 rfl rfl ?_
  refine I_bipush (pc := 95) hx 7 dX8_reachGoal_95 rfl ?_
  refine I_iconst (pc := 97) hx 1 dX8_reachGoal_97 ?_
  refine I_cVV  (pc := 98) hx [.int (oI 7), .int (oI 1)] [] (ev_X2_enter F a0 h0 7 1 w25) vm_X2_enter fc2 h0 (hx.ci h0 (Nat.le_of_ble_eq_true rfl)) g925 dX8_reachGoal_98 rfl rfl (Nat.le_of_ble_eq_true rfl) (Nat.le_of_ble_eq_true rfl) (Nat.le_of_ble_eq_true rfl) (fun w26 => ?_)
  exact E_vret (pc := 101) hx dX8_reachGoal_101 rfl rfl (Nat.le_of_ble_eq_true rfl)
set_option maxHeartbeats 4000000 in
set_option maxRecDepth 100000 in
theorem ev_X8_reachGoal (F : Nat) (a0 : Nat) (h0 : shK a0 = 10 + 2) (p1 : Int) (w : aI) : Ev yX8_reachGoal cX8_reachGoal 5 none 3 0 jvV [.ref a0, .int (oI p1)] (cm w) (f_X8_reachGoal F a0 p1 w) := by
  refine Ev.of (own := RX8) (by decide +kernel) rfl (Nat.le_of_ble_eq_true rfl) (fun x hx => ?_)
  show En x jvV 0 0 0 [(0, .ref a0), (1, .int (oI p1))] [] (cm w) _
  unfold f_X8_reachGoal
  refine E_aload_n (pc := 0) hx 0 dX8_reachGoal_0 rfl rfl ?_
  refine E_getR (pc := 1) hx 6 fc2 h0 (hx.ci h0 (Nat.le_of_ble_eq_true rfl)) rfl ⟨rfl, rfl, rfl⟩ g145 dX8_reachGoal_1 ?_
  refine E_iload_n (pc := 4) hx 1 dX8_reachGoal_4 rfl rfl ?_
  refine I_bipush (pc := 5) hx 9 dX8_reachGoal_5 rfl ?_
  refine I_cVI  (pc := 7) hx [.int (oI p1), .int (oI 9)] [] (ev_X7_get F (shR a0 6) (kt_2_6 h0) p1 9 w) vm_X7_get fc6 (kt_2_6 h0) (hx.ci (kt_2_6 h0) (Nat.le_of_ble_eq_true rfl)) g929 dX8_reachGoal_7 rfl rfl (Nat.le_of_ble_eq_true rfl) (Nat.le_of_ble_eq_true rfl) (Nat.le_of_ble_eq_true rfl) (fun r1 => ?_)
  refine E_istore_n (pc := 10) hx dX8_reachGoal_10 rfl (Nat.le_of_ble_eq_true rfl) rfl ?_
  refine E_aload_n (pc := 11) hx 1 dX8_reachGoal_11 rfl rfl ?_
  refine E_getR (pc := 12) hx 6 fc2 h0 (hx.ci h0 (Nat.le_of_ble_eq_true rfl)) rfl ⟨rfl, rfl, rfl⟩ g145 dX8_reachGoal_12 ?_
  refine E_iload_n (pc := 15) hx 2 dX8_reachGoal_15 rfl rfl ?_
  refine I_bipush (pc := 16) hx 10 dX8_reachGoal_16 rfl ?_
  refine I_cVI  (pc := 18) hx [.int (oI p1), .int (oI 10)] [] (ev_X7_get F (shR a0 6) (kt_2_6 h0) p1 10 w) vm_X7_get fc6 (kt_2_6 h0) (hx.ci (kt_2_6 h0) (Nat.le_of_ble_eq_true rfl)) g929 dX8_reachGoal_18 rfl rfl (Nat.le_of_ble_eq_true rfl) (Nat.le_of_ble_eq_true rfl) (Nat.le_of_ble_eq_true rfl) (fun r2 => ?_)
  refine E_iload_n (pc := 21) hx 0 dX8_reachGoal_21 rfl rfl ?_
  refine E_gd (fun hr3 => ?_)
  refine I_icmp_ne (pc := 22) hx 29 dX8_reachGoal_22 rfl ⟨hr3.1, hr3.2⟩ ?_ ?_
  · refine I_iconst (pc := 29) hx 0 dX8_reachGoal_29 ?_
    refine En.sub [1, 2, 0] rfl ?_
    exact l_X8_reachGoal_b30 F a0 h0 p1 hx r1 0 w
  refine I_iconst (pc := 25) hx 1 dX8_reachGoal_25 ?_
  refine E_goto (pc := 26) hx 30 dX8_reachGoal_26 rfl ?_
  refine En.sub [1, 2, 0] rfl ?_
  exact l_X8_reachGoal_b30 F a0 h0 p1 hx r1 1 w
set_option maxHeartbeats 4000000 in
set_option maxRecDepth 100000 in
theorem l_X8_landAll_b7_b {x : Cx} (F : Nat) (a0 : Nat) (h0 : shK a0 = 10 + 2)  (hx : CxOK x RX8 cX8_landAll 3 4 0 none)  (k7 : Int → Int → aI → Option aI) (hk7 : ∀ (v1 : Int) (v2 : Int) (w : aI), En x jvV 0 0 7 [(0, .ref a0), (1, .int (oI v1)), (2, .int (oI v2))] [] (cm w) (k7 v1 v2 w)) (v1 : Int) (v2 : Int) (w : aI) : En x jvV 0 0 7 [(0, .ref a0), (1, .int (oI v1)), (2, .int (oI v2))] [] (cm w) (f_X8_landAll_b7_b F a0   k7 v1 v2 w) := by
  unfold f_X8_landAll_b7_b
  refine E_iload_n (pc := 7) hx 2 dX8_landAll_7 rfl rfl ?_
  refine E_iload_n (pc := 8) hx 1 dX8_landAll_8 rfl rfl ?_
  refine E_gd (fun hr2 => ?_)
  refine I_icmp_ge (pc := 9) hx 78 dX8_landAll_9 rfl ⟨hr2.1, hr2.2⟩ ?_ ?_
  · exact E_vret (pc := 78) hx dX8_landAll_78 rfl rfl (Nat.le_of_ble_eq_true rfl)
  refine E_aload_n (pc := 12) hx 0 dX8_landAll_12 rfl rfl ?_
  refine E_getR (pc := 13) hx 6 fc2 h0 (hx.ci h0 (Nat.le_of_ble_eq_true rfl)) rfl ⟨rfl, rfl, rfl⟩ g145 dX8_landAll_13 ?_
  refine E_iload_n (pc := 16) hx 2 dX8_landAll_16 rfl rfl ?_
  refine I_iconst (pc := 17) hx 3 dX8_landAll_17 ?_
  refine I_cVI  (pc := 18) hx [.int (oI v2), .int (oI 3)] [] (ev_X7_get F (shR a0 6) (kt_2_6 h0) v2 3 w) vm_X7_get fc6 (kt_2_6 h0) (hx.ci (kt_2_6 h0) (Nat.le_of_ble_eq_true rfl)) g929 dX8_landAll_18 rfl rfl (Nat.le_of_ble_eq_true rfl) (Nat.le_of_ble_eq_true rfl) (Nat.le_of_ble_eq_true rfl) (fun r3 => ?_)
  refine I_iconst (pc := 21) hx 1 dX8_landAll_21 ?_
  refine E_gd (fun hr4 => ?_)
  refine I_icmp_ne (pc := 22) hx 72 dX8_landAll_22 rfl ⟨hr4, (by decide)⟩ ?_ ?_
  · refine I_iinc (pc := 72) hx 1 2 dX8_landAll_72 rfl (Nat.le_of_ble_eq_true rfl) rfl ?_
    refine E_goto (pc := 75) hx 7 dX8_landAll_75 rfl ?_
    refine En.sub [1, 2, 0] rfl ?_
    exact hk7 v1 (v2 + 1) w
  refine E_aload_n (pc := 25) hx 0 dX8_landAll_25 rfl rfl ?_
  refine E_getR (pc := 26) hx 6 fc2 h0 (hx.ci h0 (Nat.le_of_ble_eq_true rfl)) rfl ⟨rfl, rfl, rfl⟩ g145 dX8_landAll_26 ?_
  refine E_iload_n (pc := 29) hx 2 dX8_landAll_29 rfl rfl ?_
  refine I_iconst (pc := 30) hx 5 dX8_landAll_30 ?_
  refine I_cVI  (pc := 31) hx [.int (oI v2), .int (oI 5)] [] (ev_X7_get F (shR a0 6) (kt_2_6 h0) v2 5 w) vm_X7_get fc6 (kt_2_6 h0) (hx.ci (kt_2_6 h0) (Nat.le_of_ble_eq_true rfl)) g929 dX8_landAll_31 rfl rfl (Nat.le_of_ble_eq_true rfl) (Nat.le_of_ble_eq_true rfl) (Nat.le_of_ble_eq_true rfl) (fun r5 => ?_)
  refine E_aload_n (pc := 34) hx 0 dX8_landAll_34 rfl rfl ?_
  refine I_getI (pc := 35) hx 0 0 rfl fc2 h0 (hx.ci h0 (Nat.le_of_ble_eq_true rfl)) rfl ⟨rfl, rfl, rfl⟩ g123 dX8_landAll_35 ?_
  refine E_gd (fun hr6 => ?_)
  refine I_icmp_ne (pc := 38) hx 72 dX8_landAll_38 rfl ⟨hr6.1, hr6.2⟩ ?_ ?_
  · refine I_iinc (pc := 72) hx 1 2 dX8_landAll_72 rfl (Nat.le_of_ble_eq_true rfl) rfl ?_
    refine E_goto (pc := 75) hx 7 dX8_landAll_75 rfl ?_
    refine En.sub [1, 2, 0] rfl ?_
    exact hk7 v1 (v2 + 1) w
  refine E_aload_n (pc := 41) hx 0 dX8_landAll_41 rfl rfl ?_
  refine E_iload_n (pc := 42) hx 2 dX8_landAll_42 rfl rfl ?_
  refine I_cSV  (pc := 43) hx [.ref a0, .int (oI v2)] [] (ev_X8_land F a0 h0 v2 w) sm_X8_land g930 dX8_landAll_43 rfl rfl (Nat.le_of_ble_eq_true rfl) (Nat.le_of_ble_eq_true rfl) (Nat.le_of_ble_eq_true rfl) (fun w7 => ?_)
  refine E_aload_n (pc := 46) hx 0 dX8_landAll_46 rfl rfl ?_
  refine E_getR (pc := 47) hx 6 fc2 h0 (hx.ci h0 (Nat.le_of_ble_eq_true rfl)) rfl ⟨rfl, rfl, rfl⟩ g145 dX8_landAll_47 ?_
  refine E_iload_n (pc := 50) hx 2 dX8_landAll_50 rfl rfl ?_
  refine I_iconst (pc := 51) hx 4 dX8_landAll_51 ?_
  refine I_cVI  (pc := 52) hx [.int (oI v2), .int (oI 4)] [] (ev_X7_get F (shR a0 6) (kt_2_6 h0) v2 4 w7) vm_X7_get fc6 (kt_2_6 h0) (hx.ci (kt_2_6 h0) (Nat.le_of_ble_eq_true rfl)) g929 dX8_landAll_52 rfl rfl (Nat.le_of_ble_eq_true rfl) (Nat.le_of_ble_eq_true rfl) (Nat.le_of_ble_eq_true rfl) (fun r8 => ?_)
  refine E_aload_n (pc := 55) hx 0 dX8_landAll_55 rfl rfl ?_
  refine E_getR (pc := 56) hx 6 fc2 h0 (hx.ci h0 (Nat.le_of_ble_eq_true rfl)) rfl ⟨rfl, rfl, rfl⟩ g145 dX8_landAll_56 ?_
  refine E_iload_n (pc := 59) hx 2 dX8_landAll_59 rfl rfl ?_
  refine I_iconst (pc := 60) hx 1 dX8_landAll_60 ?_
  refine I_cVI  (pc := 61) hx [.int (oI v2), .int (oI 1)] [.int (oI r8)] (ev_X7_get F (shR a0 6) (kt_2_6 h0) v2 1 w7) vm_X7_get fc6 (kt_2_6 h0) (hx.ci (kt_2_6 h0) (Nat.le_of_ble_eq_true rfl)) g929 dX8_landAll_61 rfl rfl (Nat.le_of_ble_eq_true rfl) (Nat.le_of_ble_eq_true rfl) (Nat.le_of_ble_eq_true rfl) (fun r9 => ?_)
  refine E_gd (fun hr10 => ?_)
  refine I_icmp_ne (pc := 64) hx 72 dX8_landAll_64 rfl ⟨hr10.1, hr10.2⟩ ?_ ?_
  · refine I_iinc (pc := 72) hx 1 2 dX8_landAll_72 rfl (Nat.le_of_ble_eq_true rfl) rfl ?_
    refine E_goto (pc := 75) hx 7 dX8_landAll_75 rfl ?_
    refine En.sub [1, 2, 0] rfl ?_
    exact hk7 v1 (v2 + 1) w7
  refine E_aload_n (pc := 67) hx 0 dX8_landAll_67 rfl rfl ?_
  refine E_iload_n (pc := 68) hx 2 dX8_landAll_68 rfl rfl ?_
  refine I_cSV  (pc := 69) hx [.ref a0, .int (oI v2)] [] (ev_X8_reachGoal F a0 h0 v2 w7) sm_X8_reachGoal g947 dX8_landAll_69 rfl rfl (Nat.le_of_ble_eq_true rfl) (Nat.le_of_ble_eq_true rfl) (Nat.le_of_ble_eq_true rfl) (fun w11 => ?_)
  refine I_iinc (pc := 72) hx 1 2 dX8_landAll_72 rfl (Nat.le_of_ble_eq_true rfl) rfl ?_
  refine E_goto (pc := 75) hx 7 dX8_landAll_75 rfl ?_
  refine En.sub [1, 2, 0] rfl ?_
  exact hk7 v1 (v2 + 1) w11
theorem l_X8_landAll_b7 {x : Cx} (F : Nat) (a0 : Nat) (h0 : shK a0 = 10 + 2)  (hx : CxOK x RX8 cX8_landAll 3 4 0 none)  : ∀ (n : Nat) (v1 : Int) (v2 : Int) (w : aI), En x jvV 0 0 7 [(0, .ref a0), (1, .int (oI v1)), (2, .int (oI v2))] [] (cm w) (f_X8_landAll_b7 F a0   n v1 v2 w) := by
  intro n
  induction n with
  | zero => intro v1 v2 w; exact E_none
  | succ n ih => intro v1 v2 w; exact l_X8_landAll_b7_b F a0 h0  hx  _ ih v1 v2 w
set_option maxHeartbeats 4000000 in
set_option maxRecDepth 100000 in
theorem ev_X8_landAll (F : Nat) (a0 : Nat) (h0 : shK a0 = 10 + 2) (w : aI) : Ev yX8_landAll cX8_landAll 3 none 4 0 jvV [.ref a0] (cm w) (f_X8_landAll F a0 w) := by
  refine Ev.of (own := RX8) (by decide +kernel) rfl (Nat.le_of_ble_eq_true rfl) (fun x hx => ?_)
  show En x jvV 0 0 0 [(0, .ref a0)] [] (cm w) _
  unfold f_X8_landAll
  refine E_aload_n (pc := 0) hx 0 dX8_landAll_0 rfl rfl ?_
  refine I_getI (pc := 1) hx 3 3 rfl fc2 h0 (hx.ci h0 (Nat.le_of_ble_eq_true rfl)) rfl ⟨rfl, rfl, rfl⟩ g135 dX8_landAll_1 ?_
  refine I_ltv (fun v1_1 => ?_)
  refine E_istore_n (pc := 4) hx dX8_landAll_4 rfl (Nat.le_of_ble_eq_true rfl) rfl ?_
  refine I_iconst (pc := 5) hx 0 dX8_landAll_5 ?_
  refine E_istore_n (pc := 6) hx dX8_landAll_6 rfl (Nat.le_of_ble_eq_true rfl) rfl ?_
  refine En.sub [2, 1, 0] rfl ?_
  exact l_X8_landAll_b7 F a0 h0 hx F v1_1 0 w
set_option maxHeartbeats 4000000 in
set_option maxRecDepth 100000 in
theorem l_X8_roofsWithTunes_b4_b {x : Cx} (F : Nat) (a0 : Nat) (h0 : shK a0 = 10 + 2) (w : aI) (hx : CxOK x RX8 cX8_roofsWithTunes 3 1 0 (some .int))  (k4 : Int → Int → Option Int) (hk4 : ∀ (v1 : Int) (v2 : Int), En x (jvI w) 0 0 4 [(0, .ref a0), (1, .int (oI v1)), (2, .int (oI v2))] [] (cm w) (k4 v1 v2)) (v1 : Int) (v2 : Int)  : En x (jvI w) 0 0 4 [(0, .ref a0), (1, .int (oI v1)), (2, .int (oI v2))] [] (cm w) (f_X8_roofsWithTunes_b4_b F a0 w  k4 v1 v2) := by
  unfold f_X8_roofsWithTunes_b4_b
  refine E_iload_n (pc := 4) hx 2 dX8_roofsWithTunes_4 rfl rfl ?_
  refine E_aload_n (pc := 5) hx 0 dX8_roofsWithTunes_5 rfl rfl ?_
  refine I_getI (pc := 6) hx 3 3 rfl fc2 h0 (hx.ci h0 (Nat.le_of_ble_eq_true rfl)) rfl ⟨rfl, rfl, rfl⟩ g135 dX8_roofsWithTunes_6 ?_
  refine E_gd (fun hr1 => ?_)
  refine I_icmp_ge (pc := 9) hx 44 dX8_roofsWithTunes_9 rfl ⟨hr1.1, hr1.2⟩ ?_ ?_
  · refine E_iload_n (pc := 44) hx 1 dX8_roofsWithTunes_44 rfl rfl ?_
    exact E_iret (pc := 45) hx dX8_roofsWithTunes_45 rfl rfl (Nat.le_of_ble_eq_true rfl)
  refine E_aload_n (pc := 12) hx 0 dX8_roofsWithTunes_12 rfl rfl ?_
  refine E_getR (pc := 13) hx 6 fc2 h0 (hx.ci h0 (Nat.le_of_ble_eq_true rfl)) rfl ⟨rfl, rfl, rfl⟩ g145 dX8_roofsWithTunes_13 ?_
  refine E_iload_n (pc := 16) hx 2 dX8_roofsWithTunes_16 rfl rfl ?_
  refine I_iconst (pc := 17) hx 3 dX8_roofsWithTunes_17 ?_
  refine I_cVI  (pc := 18) hx [.int (oI v2), .int (oI 3)] [] (ev_X7_get F (shR a0 6) (kt_2_6 h0) v2 3 w) vm_X7_get fc6 (kt_2_6 h0) (hx.ci (kt_2_6 h0) (Nat.le_of_ble_eq_true rfl)) g929 dX8_roofsWithTunes_18 rfl rfl (Nat.le_of_ble_eq_true rfl) (Nat.le_of_ble_eq_true rfl) (Nat.le_of_ble_eq_true rfl) (fun r2 => ?_)
  refine E_gd (fun hr3 => ?_)
  refine I_if_ne (pc := 21) hx 38 dX8_roofsWithTunes_21 rfl hr3 ?_ ?_
  · refine I_iinc (pc := 38) hx 1 2 dX8_roofsWithTunes_38 rfl (Nat.le_of_ble_eq_true rfl) rfl ?_
    refine E_goto (pc := 41) hx 4 dX8_roofsWithTunes_41 rfl ?_
    refine En.sub [1, 2, 0] rfl ?_
    exact hk4 v1 (v2 + 1)
  refine E_iload_n (pc := 24) hx 1 dX8_roofsWithTunes_24 rfl rfl ?_
  refine I_iconst (pc := 25) hx 1 dX8_roofsWithTunes_25 ?_
  refine E_aload_n (pc := 26) hx 0 dX8_roofsWithTunes_26 rfl rfl ?_
  refine E_getR (pc := 27) hx 6 fc2 h0 (hx.ci h0 (Nat.le_of_ble_eq_true rfl)) rfl ⟨rfl, rfl, rfl⟩ g145 dX8_roofsWithTunes_27 ?_
  refine E_iload_n (pc := 30) hx 2 dX8_roofsWithTunes_30 rfl rfl ?_
  refine I_iconst (pc := 31) hx 4 dX8_roofsWithTunes_31 ?_
  refine I_cVI  (pc := 32) hx [.int (oI v2), .int (oI 4)] [.int (oI 1), .int (oI v1)] (ev_X7_get F (shR a0 6) (kt_2_6 h0) v2 4 w) vm_X7_get fc6 (kt_2_6 h0) (hx.ci (kt_2_6 h0) (Nat.le_of_ble_eq_true rfl)) g929 dX8_roofsWithTunes_32 rfl rfl (Nat.le_of_ble_eq_true rfl) (Nat.le_of_ble_eq_true rfl) (Nat.le_of_ble_eq_true rfl) (fun r4 => ?_)
  refine E_gd (fun hs5 => ?_)
  refine I_ishl (pc := 35) hx dX8_roofsWithTunes_35 hs5 ?_
  refine I_ior (pc := 36) hx dX8_roofsWithTunes_36 ?_
  refine I_ltv (fun v1_6 => ?_)
  refine E_istore_n (pc := 37) hx dX8_roofsWithTunes_37 rfl (Nat.le_of_ble_eq_true rfl) rfl ?_
  refine I_iinc (pc := 38) hx 1 2 dX8_roofsWithTunes_38 rfl (Nat.le_of_ble_eq_true rfl) rfl ?_
  refine E_goto (pc := 41) hx 4 dX8_roofsWithTunes_41 rfl ?_
  refine En.sub [2, 1, 0] rfl ?_
  exact hk4 v1_6 (v2 + 1)
theorem l_X8_roofsWithTunes_b4 {x : Cx} (F : Nat) (a0 : Nat) (h0 : shK a0 = 10 + 2) (w : aI) (hx : CxOK x RX8 cX8_roofsWithTunes 3 1 0 (some .int))  : ∀ (n : Nat) (v1 : Int) (v2 : Int), En x (jvI w) 0 0 4 [(0, .ref a0), (1, .int (oI v1)), (2, .int (oI v2))] [] (cm w) (f_X8_roofsWithTunes_b4 F a0 w  n v1 v2) := by
  intro n
  induction n with
  | zero => intro v1 v2; exact E_none
  | succ n ih => intro v1 v2; exact l_X8_roofsWithTunes_b4_b F a0 h0 w hx  _ ih v1 v2
set_option maxHeartbeats 4000000 in
set_option maxRecDepth 100000 in
theorem ev_X8_roofsWithTunes (F : Nat) (a0 : Nat) (h0 : shK a0 = 10 + 2) (w : aI) : Ev yX8_roofsWithTunes cX8_roofsWithTunes 3 (some .int) 1 0 (jvI w) [.ref a0] (cm w) (f_X8_roofsWithTunes F a0 w) := by
  refine Ev.of (own := RX8) (by decide +kernel) rfl (Nat.le_of_ble_eq_true rfl) (fun x hx => ?_)
  show En x (jvI w) 0 0 0 [(0, .ref a0)] [] (cm w) _
  unfold f_X8_roofsWithTunes
  refine I_iconst (pc := 0) hx 0 dX8_roofsWithTunes_0 ?_
  refine E_istore_n (pc := 1) hx dX8_roofsWithTunes_1 rfl (Nat.le_of_ble_eq_true rfl) rfl ?_
  refine I_iconst (pc := 2) hx 0 dX8_roofsWithTunes_2 ?_
  refine E_istore_n (pc := 3) hx dX8_roofsWithTunes_3 rfl (Nat.le_of_ble_eq_true rfl) rfl ?_
  refine En.sub [2, 1, 0] rfl ?_
  exact l_X8_roofsWithTunes_b4 F a0 h0 w hx F 0 0
set_option maxHeartbeats 4000000 in
set_option maxRecDepth 100000 in
theorem ev_X8_breathsFor (F : Nat) (a0 : Nat) (h0 : shK a0 = 10 + 2) (p1 : Int) (p2 : Int) (w : aI) : Ev yX8_breathsFor cX8_breathsFor 4 (some .int) 1 0 (jvI w) [.ref a0, .int (oI p1), .int (oI p2)] (cm w) (f_X8_breathsFor F a0 p1 p2 w) := by
  refine Ev.of (own := RX8) (by decide +kernel) rfl (Nat.le_of_ble_eq_true rfl) (fun x hx => ?_)
  show En x (jvI w) 0 0 0 [(0, .ref a0), (1, .int (oI p1)), (2, .int (oI p2))] [] (cm w) _
  unfold f_X8_breathsFor
  refine I_iconst (pc := 0) hx 1 dX8_breathsFor_0 ?_
  refine E_aload_n (pc := 1) hx 0 dX8_breathsFor_1 rfl rfl ?_
  refine E_getR (pc := 2) hx 4 fc2 h0 (hx.ci h0 (Nat.le_of_ble_eq_true rfl)) rfl ⟨rfl, rfl, rfl⟩ g140 dX8_breathsFor_2 ?_
  refine E_iload_n (pc := 5) hx 1 dX8_breathsFor_5 rfl rfl ?_
  refine I_iconst (pc := 6) hx 0 dX8_breathsFor_6 ?_
  refine I_cVI  (pc := 7) hx [.int (oI p1), .int (oI 0)] [.int (oI 1)] (ev_X7_get F (shR a0 4) (kt_2_4 h0) p1 0 w) vm_X7_get fc6 (kt_2_4 h0) (hx.ci (kt_2_4 h0) (Nat.le_of_ble_eq_true rfl)) g929 dX8_breathsFor_7 rfl rfl (Nat.le_of_ble_eq_true rfl) (Nat.le_of_ble_eq_true rfl) (Nat.le_of_ble_eq_true rfl) (fun r1 => ?_)
  refine E_gd (fun hr2 => ?_)
  refine I_mmax (pc := 10) hx ⟨(by decide), hr2⟩ g996 g895 g40 g896 (Nat.le_of_ble_eq_true rfl) (Nat.le_of_ble_eq_true rfl) (Nat.le_of_ble_eq_true rfl) dX8_breathsFor_10 ?_
  refine I_ltv (fun v3_3 => ?_)
  refine E_istore_n (pc := 13) hx dX8_breathsFor_13 rfl (Nat.le_of_ble_eq_true rfl) rfl ?_
  refine E_aload_n (pc := 14) hx 1 dX8_breathsFor_14 rfl rfl ?_
  refine E_getR (pc := 15) hx 6 fc2 h0 (hx.ci h0 (Nat.le_of_ble_eq_true rfl)) rfl ⟨rfl, rfl, rfl⟩ g145 dX8_breathsFor_15 ?_
  refine E_iload_n (pc := 18) hx 3 dX8_breathsFor_18 rfl rfl ?_
  refine I_iconst (pc := 19) hx 2 dX8_breathsFor_19 ?_
  refine I_cVI  (pc := 20) hx [.int (oI p2), .int (oI 2)] [] (ev_X7_get F (shR a0 6) (kt_2_6 h0) p2 2 w) vm_X7_get fc6 (kt_2_6 h0) (hx.ci (kt_2_6 h0) (Nat.le_of_ble_eq_true rfl)) g929 dX8_breathsFor_20 rfl rfl (Nat.le_of_ble_eq_true rfl) (Nat.le_of_ble_eq_true rfl) (Nat.le_of_ble_eq_true rfl) (fun r4 => ?_)
  refine E_iload_n (pc := 23) hx 0 dX8_breathsFor_23 rfl rfl ?_
  refine I_iadd (pc := 24) hx dX8_breathsFor_24 ?_
  refine I_iconst (pc := 25) hx 1 dX8_breathsFor_25 ?_
  refine I_isub (pc := 26) hx dX8_breathsFor_26 ?_
  refine E_iload_n (pc := 27) hx 0 dX8_breathsFor_27 rfl rfl ?_
  refine E_gd (fun hr5 => ?_)
  refine E_gd (fun hd6 => ?_)
  refine I_idiv (pc := 28) hx dX8_breathsFor_28 ⟨hr5.1, hr5.2, hd6⟩ ?_
  exact E_iret (pc := 29) hx dX8_breathsFor_29 rfl rfl (Nat.le_of_ble_eq_true rfl)
set_option maxHeartbeats 4000000 in
set_option maxRecDepth 100000 in
theorem ev_X8_whistle (F : Nat) (a0 : Nat) (h0 : shK a0 = 10 + 2) (p1 : Int) (p2 : Int) (w : aI) : Ev yX8_whistle cX8_whistle 7 none 2 0 jvV [.ref a0, .int (oI p1), .int (oI p2)] (cm w) (f_X8_whistle F a0 p1 p2 w) := by
  refine Ev.of (own := RX8) (by decide +kernel) rfl (Nat.le_of_ble_eq_true rfl) (fun x hx => ?_)
  show En x jvV 0 0 0 [(0, .ref a0), (1, .int (oI p1)), (2, .int (oI p2))] [] (cm w) _
  unfold f_X8_whistle
  refine E_aload_n (pc := 0) hx 0 dX8_whistle_0 rfl rfl ?_
  refine E_getR (pc := 1) hx 4 fc2 h0 (hx.ci h0 (Nat.le_of_ble_eq_true rfl)) rfl ⟨rfl, rfl, rfl⟩ g140 dX8_whistle_1 ?_
  refine E_iload_n (pc := 4) hx 1 dX8_whistle_4 rfl rfl ?_
  refine I_iconst (pc := 5) hx 2 dX8_whistle_5 ?_
  refine I_cVI  (pc := 6) hx [.int (oI p1), .int (oI 2)] [] (ev_X7_get F (shR a0 4) (kt_2_4 h0) p1 2 w) vm_X7_get fc6 (kt_2_4 h0) (hx.ci (kt_2_4 h0) (Nat.le_of_ble_eq_true rfl)) g929 dX8_whistle_6 rfl rfl (Nat.le_of_ble_eq_true rfl) (Nat.le_of_ble_eq_true rfl) (Nat.le_of_ble_eq_true rfl) (fun r1 => ?_)
  refine E_aload_n (pc := 9) hx 0 dX8_whistle_9 rfl rfl ?_
  refine E_iload_n (pc := 10) hx 2 dX8_whistle_10 rfl rfl ?_
  refine I_cVI  (pc := 11) hx [.int (oI p2)] [.int (oI r1)] (ev_X2_barsOfTune F a0 h0 p2 w) vm_X2_barsOfTune fc2 h0 (hx.ci h0 (Nat.le_of_ble_eq_true rfl)) g991 dX8_whistle_11 rfl rfl (Nat.le_of_ble_eq_true rfl) (Nat.le_of_ble_eq_true rfl) (Nat.le_of_ble_eq_true rfl) (fun r2 => ?_)
  refine I_imul (pc := 14) hx dX8_whistle_14 ?_
  refine I_ltv (fun v3_3 => ?_)
  refine E_istore_n (pc := 15) hx dX8_whistle_15 rfl (Nat.le_of_ble_eq_true rfl) rfl ?_
  refine E_aload_n (pc := 16) hx 1 dX8_whistle_16 rfl rfl ?_
  refine E_getR (pc := 17) hx 4 fc2 h0 (hx.ci h0 (Nat.le_of_ble_eq_true rfl)) rfl ⟨rfl, rfl, rfl⟩ g140 dX8_whistle_17 ?_
  refine E_aload_n (pc := 20) hx 1 dX8_whistle_20 rfl rfl ?_
  refine E_getR (pc := 21) hx 6 fc2 h0 (hx.ci h0 (Nat.le_of_ble_eq_true rfl)) rfl ⟨rfl, rfl, rfl⟩ g145 dX8_whistle_21 ?_
  refine E_iload_n (pc := 24) hx 3 dX8_whistle_24 rfl rfl ?_
  refine I_iconst (pc := 25) hx 0 dX8_whistle_25 ?_
  refine I_cVI  (pc := 26) hx [.int (oI p2), .int (oI 0)] [.ref (shR a0 4)] (ev_X7_get F (shR a0 6) (kt_2_6 h0) p2 0 w) vm_X7_get fc6 (kt_2_6 h0) (hx.ci (kt_2_6 h0) (Nat.le_of_ble_eq_true rfl)) g929 dX8_whistle_26 rfl rfl (Nat.le_of_ble_eq_true rfl) (Nat.le_of_ble_eq_true rfl) (Nat.le_of_ble_eq_true rfl) (fun r4 => ?_)
  refine I_iconst (pc := 29) hx 3 dX8_whistle_29 ?_
  refine E_iload_n (pc := 30) hx 0 dX8_whistle_30 rfl rfl ?_
  refine I_ineg (pc := 31) hx dX8_whistle_31 ?_
  refine I_cVV  (pc := 32) hx [.int (oI r4), .int (oI 3), .int (oI (-v3_3))] [] (ev_X7_grow F (shR a0 4) (kt_2_4 h0) r4 3 (-v3_3) w) vm_X7_grow fc6 (kt_2_4 h0) (hx.ci (kt_2_4 h0) (Nat.le_of_ble_eq_true rfl)) g950 dX8_whistle_32 rfl rfl (Nat.le_of_ble_eq_true rfl) (Nat.le_of_ble_eq_true rfl) (Nat.le_of_ble_eq_true rfl) (fun w5 => ?_)
  refine E_aload_n (pc := 35) hx 1 dX8_whistle_35 rfl rfl ?_
  refine E_getR (pc := 36) hx 4 fc2 h0 (hx.ci h0 (Nat.le_of_ble_eq_true rfl)) rfl ⟨rfl, rfl, rfl⟩ g140 dX8_whistle_36 ?_
  refine E_iload_n (pc := 39) hx 2 dX8_whistle_39 rfl rfl ?_
  refine I_iconst (pc := 40) hx 3 dX8_whistle_40 ?_
  refine E_iload_n (pc := 41) hx 0 dX8_whistle_41 rfl rfl ?_
  refine I_cVV  (pc := 42) hx [.int (oI p1), .int (oI 3), .int (oI v3_3)] [] (ev_X7_grow F (shR a0 4) (kt_2_4 h0) p1 3 v3_3 w5) vm_X7_grow fc6 (kt_2_4 h0) (hx.ci (kt_2_4 h0) (Nat.le_of_ble_eq_true rfl)) g950 dX8_whistle_42 rfl rfl (Nat.le_of_ble_eq_true rfl) (Nat.le_of_ble_eq_true rfl) (Nat.le_of_ble_eq_true rfl) (fun w6 => ?_)
  refine E_aload_n (pc := 45) hx 1 dX8_whistle_45 rfl rfl ?_
  refine I_bipush (pc := 46) hx 9 dX8_whistle_46 rfl ?_
  refine E_iload_n (pc := 48) hx 0 dX8_whistle_48 rfl rfl ?_
  refine I_cVV  (pc := 49) hx [.int (oI 9), .int (oI v3_3)] [] (ev_X2_enter F a0 h0 9 v3_3 w6) vm_X2_enter fc2 h0 (hx.ci h0 (Nat.le_of_ble_eq_true rfl)) g925 dX8_whistle_49 rfl rfl (Nat.le_of_ble_eq_true rfl) (Nat.le_of_ble_eq_true rfl) (Nat.le_of_ble_eq_true rfl) (fun w7 => ?_)
  refine E_aload_n (pc := 52) hx 1 dX8_whistle_52 rfl rfl ?_
  refine E_iload_n (pc := 53) hx 3 dX8_whistle_53 rfl rfl ?_
  refine I_cVI  (pc := 54) hx [.int (oI p2)] [] (ev_X2_nextOf F a0 h0 p2 w7) vm_X2_nextOf fc2 h0 (hx.ci h0 (Nat.le_of_ble_eq_true rfl)) g992 dX8_whistle_54 rfl rfl (Nat.le_of_ble_eq_true rfl) (Nat.le_of_ble_eq_true rfl) (Nat.le_of_ble_eq_true rfl) (fun r8 => ?_)
  refine E_istore (pc := 57) hx dX8_whistle_57 (Nat.le_of_ble_eq_true rfl) rfl ?_
  refine E_aload_n (pc := 59) hx 2 dX8_whistle_59 rfl rfl ?_
  refine E_getR (pc := 60) hx 9 fc2 h0 (hx.ci h0 (Nat.le_of_ble_eq_true rfl)) rfl ⟨rfl, rfl, rfl⟩ g154 dX8_whistle_60 ?_
  refine E_getR (pc := 63) hx 0 fc3 (kt_2_9 h0) (hx.ci (kt_2_9 h0) (Nat.le_of_ble_eq_true rfl)) rfl ⟨rfl, rfl, rfl⟩ g109 dX8_whistle_63 ?_
  refine E_iload_n (pc := 66) hx 3 dX8_whistle_66 rfl rfl ?_
  refine E_iload (pc := 67) hx 0 dX8_whistle_67 rfl ?_
  refine I_cVI  (pc := 69) hx [.int (oI p1), .int (oI r8)] [] (ev_X7_get F (shR (shR a0 9) 0) (kt_3_0 (kt_2_9 h0)) p1 r8 w7) vm_X7_get fc6 (kt_3_0 (kt_2_9 h0)) (hx.ci (kt_3_0 (kt_2_9 h0)) (Nat.le_of_ble_eq_true rfl)) g929 dX8_whistle_69 rfl rfl (Nat.le_of_ble_eq_true rfl) (Nat.le_of_ble_eq_true rfl) (Nat.le_of_ble_eq_true rfl) (fun r9 => ?_)
  refine E_istore (pc := 72) hx dX8_whistle_72 (Nat.le_of_ble_eq_true rfl) rfl ?_
  refine E_aload_n (pc := 74) hx 3 dX8_whistle_74 rfl rfl ?_
  refine I_getI (pc := 75) hx 0 0 rfl fc2 h0 (hx.ci h0 (Nat.le_of_ble_eq_true rfl)) rfl ⟨rfl, rfl, rfl⟩ g123 dX8_whistle_75 ?_
  refine E_aload_n (pc := 78) hx 3 dX8_whistle_78 rfl rfl ?_
  refine E_iload_n (pc := 79) hx 4 dX8_whistle_79 rfl rfl ?_
  refine E_iload_n (pc := 80) hx 5 dX8_whistle_80 rfl rfl ?_
  refine I_cSI  (pc := 81) hx [.ref a0, .int (oI p1), .int (oI p2)] [.int (oI (w7 a0 0))] (ev_X8_breathsFor F a0 h0 p1 p2 w7) sm_X8_breathsFor g993 dX8_whistle_81 rfl rfl (Nat.le_of_ble_eq_true rfl) (Nat.le_of_ble_eq_true rfl) (Nat.le_of_ble_eq_true rfl) (fun r10 => ?_)
  refine I_iadd (pc := 84) hx dX8_whistle_84 ?_
  refine I_ltv (fun v6_11 => ?_)
  refine E_istore (pc := 85) hx dX8_whistle_85 (Nat.le_of_ble_eq_true rfl) rfl ?_
  refine E_aload_n (pc := 87) hx 4 dX8_whistle_87 rfl rfl ?_
  refine E_getR (pc := 88) hx 4 fc2 h0 (hx.ci h0 (Nat.le_of_ble_eq_true rfl)) rfl ⟨rfl, rfl, rfl⟩ g140 dX8_whistle_88 ?_
  refine E_iload_n (pc := 91) hx 5 dX8_whistle_91 rfl rfl ?_
  refine I_iconst (pc := 92) hx 4 dX8_whistle_92 ?_
  refine E_iload (pc := 93) hx 0 dX8_whistle_93 rfl ?_
  refine I_cVV  (pc := 95) hx [.int (oI p1), .int (oI 4), .int (oI v6_11)] [] (ev_X7_put F (shR a0 4) (kt_2_4 h0) p1 4 v6_11 w7) vm_X7_put fc6 (kt_2_4 h0) (hx.ci (kt_2_4 h0) (Nat.le_of_ble_eq_true rfl)) g946 dX8_whistle_95 rfl rfl (Nat.le_of_ble_eq_true rfl) (Nat.le_of_ble_eq_true rfl) (Nat.le_of_ble_eq_true rfl) (fun w12 => ?_)
  refine E_aload_n (pc := 98) hx 4 dX8_whistle_98 rfl rfl ?_
  refine E_getR (pc := 99) hx 4 fc2 h0 (hx.ci h0 (Nat.le_of_ble_eq_true rfl)) rfl ⟨rfl, rfl, rfl⟩ g140 dX8_whistle_99 ?_
  refine E_iload_n (pc := 102) hx 5 dX8_whistle_102 rfl rfl ?_
  refine I_bipush (pc := 103) hx 7 dX8_whistle_103 rfl ?_
  refine I_iconst (pc := 105) hx 1 dX8_whistle_105 ?_
  refine I_cVV  (pc := 106) hx [.int (oI p1), .int (oI 7), .int (oI 1)] [] (ev_X7_grow F (shR a0 4) (kt_2_4 h0) p1 7 1 w12) vm_X7_grow fc6 (kt_2_4 h0) (hx.ci (kt_2_4 h0) (Nat.le_of_ble_eq_true rfl)) g950 dX8_whistle_106 rfl rfl (Nat.le_of_ble_eq_true rfl) (Nat.le_of_ble_eq_true rfl) (Nat.le_of_ble_eq_true rfl) (fun w13 => ?_)
  refine E_aload_n (pc := 109) hx 4 dX8_whistle_109 rfl rfl ?_
  refine E_getR (pc := 110) hx 6 fc2 h0 (hx.ci h0 (Nat.le_of_ble_eq_true rfl)) rfl ⟨rfl, rfl, rfl⟩ g145 dX8_whistle_110 ?_
  refine E_iload_n (pc := 113) hx 6 dX8_whistle_113 rfl rfl ?_
  refine I_iconst (pc := 114) hx 3 dX8_whistle_114 ?_
  refine I_iconst (pc := 115) hx 1 dX8_whistle_115 ?_
  refine I_cVV  (pc := 116) hx [.int (oI p2), .int (oI 3), .int (oI 1)] [] (ev_X7_put F (shR a0 6) (kt_2_6 h0) p2 3 1 w13) vm_X7_put fc6 (kt_2_6 h0) (hx.ci (kt_2_6 h0) (Nat.le_of_ble_eq_true rfl)) g946 dX8_whistle_116 rfl rfl (Nat.le_of_ble_eq_true rfl) (Nat.le_of_ble_eq_true rfl) (Nat.le_of_ble_eq_true rfl) (fun w14 => ?_)
  refine E_aload_n (pc := 119) hx 4 dX8_whistle_119 rfl rfl ?_
  refine E_getR (pc := 120) hx 6 fc2 h0 (hx.ci h0 (Nat.le_of_ble_eq_true rfl)) rfl ⟨rfl, rfl, rfl⟩ g145 dX8_whistle_120 ?_
  refine E_iload_n (pc := 123) hx 6 dX8_whistle_123 rfl rfl ?_
  refine I_iconst (pc := 124) hx 4 dX8_whistle_124 ?_
  refine E_iload (pc := 125) hx 2 dX8_whistle_125 rfl ?_
  refine I_cVV  (pc := 127) hx [.int (oI p2), .int (oI 4), .int (oI r8)] [] (ev_X7_put F (shR a0 6) (kt_2_6 h0) p2 4 r8 w14) vm_X7_put fc6 (kt_2_6 h0) (hx.ci (kt_2_6 h0) (Nat.le_of_ble_eq_true rfl)) g946 dX8_whistle_127 rfl rfl (Nat.le_of_ble_eq_true rfl) (Nat.le_of_ble_eq_true rfl) (Nat.le_of_ble_eq_true rfl) (fun w15 => ?_)
  refine E_aload_n (pc := 130) hx 4 dX8_whistle_130 rfl rfl ?_
  refine E_getR (pc := 131) hx 6 fc2 h0 (hx.ci h0 (Nat.le_of_ble_eq_true rfl)) rfl ⟨rfl, rfl, rfl⟩ g145 dX8_whistle_131 ?_
  refine E_iload_n (pc := 134) hx 6 dX8_whistle_134 rfl rfl ?_
  refine I_iconst (pc := 135) hx 5 dX8_whistle_135 ?_
  refine E_iload (pc := 136) hx 0 dX8_whistle_136 rfl ?_
  refine E_iload (pc := 138) hx 1 dX8_whistle_138 rfl ?_
  refine I_iadd (pc := 140) hx dX8_whistle_140 ?_
  refine I_cVV  (pc := 141) hx [.int (oI p2), .int (oI 5), .int (oI (v6_11 + r9))] [] (ev_X7_put F (shR a0 6) (kt_2_6 h0) p2 5 (v6_11 + r9) w15) vm_X7_put fc6 (kt_2_6 h0) (hx.ci (kt_2_6 h0) (Nat.le_of_ble_eq_true rfl)) g946 dX8_whistle_141 rfl rfl (Nat.le_of_ble_eq_true rfl) (Nat.le_of_ble_eq_true rfl) (Nat.le_of_ble_eq_true rfl) (fun w16 => ?_)
  refine E_aload_n (pc := 144) hx 4 dX8_whistle_144 rfl rfl ?_
  refine E_getR (pc := 145) hx 6 fc2 h0 (hx.ci h0 (Nat.le_of_ble_eq_true rfl)) rfl ⟨rfl, rfl, rfl⟩ g145 dX8_whistle_145 ?_
  refine E_iload_n (pc := 148) hx 6 dX8_whistle_148 rfl rfl ?_
  refine I_bipush (pc := 149) hx 12 dX8_whistle_149 rfl ?_
  refine E_iload (pc := 151) hx 1 dX8_whistle_151 rfl ?_
  refine I_cVV  (pc := 153) hx [.int (oI p2), .int (oI 12), .int (oI r9)] [] (ev_X7_put F (shR a0 6) (kt_2_6 h0) p2 12 r9 w16) vm_X7_put fc6 (kt_2_6 h0) (hx.ci (kt_2_6 h0) (Nat.le_of_ble_eq_true rfl)) g946 dX8_whistle_153 rfl rfl (Nat.le_of_ble_eq_true rfl) (Nat.le_of_ble_eq_true rfl) (Nat.le_of_ble_eq_true rfl) (fun w17 => ?_)
  refine E_aload_n (pc := 156) hx 4 dX8_whistle_156 rfl rfl ?_
  refine E_getR (pc := 157) hx 6 fc2 h0 (hx.ci h0 (Nat.le_of_ble_eq_true rfl)) rfl ⟨rfl, rfl, rfl⟩ g145 dX8_whistle_157 ?_
  refine E_iload_n (pc := 160) hx 6 dX8_whistle_160 rfl rfl ?_
  refine I_bipush (pc := 161) hx 11 dX8_whistle_161 rfl ?_
  refine I_iconst (pc := 163) hx 1 dX8_whistle_163 ?_
  refine I_cVV  (pc := 164) hx [.int (oI p2), .int (oI 11), .int (oI 1)] [] (ev_X7_grow F (shR a0 6) (kt_2_6 h0) p2 11 1 w17) vm_X7_grow fc6 (kt_2_6 h0) (hx.ci (kt_2_6 h0) (Nat.le_of_ble_eq_true rfl)) g950 dX8_whistle_164 rfl rfl (Nat.le_of_ble_eq_true rfl) (Nat.le_of_ble_eq_true rfl) (Nat.le_of_ble_eq_true rfl) (fun w18 => ?_)
  refine E_aload_n (pc := 167) hx 4 dX8_whistle_167 rfl rfl ?_
  refine I_iconst (pc := 168) hx 3 dX8_whistle_168 ?_
  refine I_iconst (pc := 169) hx 1 dX8_whistle_169 ?_
  refine I_cVV  (pc := 170) hx [.int (oI 3), .int (oI 1)] [] (ev_X2_enter F a0 h0 3 1 w18) vm_X2_enter fc2 h0 (hx.ci h0 (Nat.le_of_ble_eq_true rfl)) g925 dX8_whistle_170 rfl rfl (Nat.le_of_ble_eq_true rfl) (Nat.le_of_ble_eq_true rfl) (Nat.le_of_ble_eq_true rfl) (fun w19 => ?_)
  exact E_vret (pc := 173) hx dX8_whistle_173 rfl rfl (Nat.le_of_ble_eq_true rfl)
set_option maxHeartbeats 4000000 in
set_option maxRecDepth 100000 in
theorem l_X8_whistleAll_b7_b {x : Cx} (F : Nat) (a0 : Nat) (h0 : shK a0 = 10 + 2)  (hx : CxOK x RX8 cX8_whistleAll 4 3 0 none)  (k7 : Int → Int → aI → Option aI) (hk7 : ∀ (v1 : Int) (v2 : Int) (w : aI), En x jvV 0 0 7 [(0, .ref a0), (1, .int (oI v1)), (2, .int (oI v2))] [] (cm w) (k7 v1 v2 w)) (v1 : Int) (v2 : Int) (w : aI) : En x jvV 0 0 7 [(0, .ref a0), (1, .int (oI v1)), (2, .int (oI v2))] [] (cm w) (f_X8_whistleAll_b7_b F a0   k7 v1 v2 w) := by
  unfold f_X8_whistleAll_b7_b
  refine E_iload_n (pc := 7) hx 2 dX8_whistleAll_7 rfl rfl ?_
  refine E_aload_n (pc := 8) hx 0 dX8_whistleAll_8 rfl rfl ?_
  refine I_getI (pc := 9) hx 1 1 rfl fc2 h0 (hx.ci h0 (Nat.le_of_ble_eq_true rfl)) rfl ⟨rfl, rfl, rfl⟩ g127 dX8_whistleAll_9 ?_
  refine E_gd (fun hr2 => ?_)
  refine I_icmp_ge (pc := 12) hx 59 dX8_whistleAll_12 rfl ⟨hr2.1, hr2.2⟩ ?_ ?_
  · exact E_vret (pc := 59) hx dX8_whistleAll_59 rfl rfl (Nat.le_of_ble_eq_true rfl)
  refine E_iload_n (pc := 15) hx 1 dX8_whistleAll_15 rfl rfl ?_
  refine E_iload_n (pc := 16) hx 2 dX8_whistleAll_16 rfl rfl ?_
  refine E_gd (fun hr3 => ?_)
  refine E_gd (fun hs4 => ?_)
  refine I_ishr (pc := 17) hx dX8_whistleAll_17 ⟨hr3, hs4⟩ ?_
  refine I_iconst (pc := 18) hx 1 dX8_whistleAll_18 ?_
  refine I_iand (pc := 19) hx dX8_whistleAll_19 ?_
  refine I_iconst (pc := 20) hx 1 dX8_whistleAll_20 ?_
  refine E_gd (fun hr5 => ?_)
  refine I_icmp_ne (pc := 21) hx 53 dX8_whistleAll_21 rfl ⟨hr5, (by decide)⟩ ?_ ?_
  · refine I_iinc (pc := 53) hx 1 2 dX8_whistleAll_53 rfl (Nat.le_of_ble_eq_true rfl) rfl ?_
    refine E_goto (pc := 56) hx 7 dX8_whistleAll_56 rfl ?_
    refine En.sub [1, 2, 0] rfl ?_
    exact hk7 v1 (v2 + 1) w
  refine E_aload_n (pc := 24) hx 0 dX8_whistleAll_24 rfl rfl ?_
  refine E_iload_n (pc := 25) hx 2 dX8_whistleAll_25 rfl rfl ?_
  refine E_aload_n (pc := 26) hx 0 dX8_whistleAll_26 rfl rfl ?_
  refine I_getI (pc := 27) hx 0 0 rfl fc2 h0 (hx.ci h0 (Nat.le_of_ble_eq_true rfl)) rfl ⟨rfl, rfl, rfl⟩ g123 dX8_whistleAll_27 ?_
  refine I_cVB  (pc := 30) hx [.int (oI v2), .int (oI (w a0 0))] [] (ev_X2_isBusy F a0 h0 v2 (w a0 0) w) vm_X2_isBusy fc2 h0 (hx.ci h0 (Nat.le_of_ble_eq_true rfl)) g961 dX8_whistleAll_30 rfl rfl (Nat.le_of_ble_eq_true rfl) (Nat.le_of_ble_eq_true rfl) (Nat.le_of_ble_eq_true rfl) (fun r6 => ?_)
  refine I_ifB_ne (pc := 33) hx 53 dX8_whistleAll_33 rfl ?_ ?_
  · refine I_iinc (pc := 53) hx 1 2 dX8_whistleAll_53 rfl (Nat.le_of_ble_eq_true rfl) rfl ?_
    refine E_goto (pc := 56) hx 7 dX8_whistleAll_56 rfl ?_
    refine En.sub [1, 2, 0] rfl ?_
    exact hk7 v1 (v2 + 1) w
  refine E_aload_n (pc := 36) hx 0 dX8_whistleAll_36 rfl rfl ?_
  refine E_iload_n (pc := 37) hx 2 dX8_whistleAll_37 rfl rfl ?_
  refine I_cVI  (pc := 38) hx [.int (oI v2)] [] (ev_X2_firstToGoFrom F a0 h0 v2 w) vm_X2_firstToGoFrom fc2 h0 (hx.ci h0 (Nat.le_of_ble_eq_true rfl)) g965 dX8_whistleAll_38 rfl rfl (Nat.le_of_ble_eq_true rfl) (Nat.le_of_ble_eq_true rfl) (Nat.le_of_ble_eq_true rfl) (fun r7 => ?_)
  refine E_istore_n (pc := 41) hx dX8_whistleAll_41 rfl (Nat.le_of_ble_eq_true rfl) rfl ?_
  refine E_iload_n (pc := 42) hx 0 dX8_whistleAll_42 rfl rfl ?_
  refine I_iconst (pc := 43) hx (-1) dX8_whistleAll_43 ?_
  refine E_gd (fun hr8 => ?_)
  refine I_icmp_eq (pc := 44) hx 53 dX8_whistleAll_44 rfl ⟨hr8, (by decide)⟩ ?_ ?_
  · refine I_iinc (pc := 53) hx 1 3 dX8_whistleAll_53 rfl (Nat.le_of_ble_eq_true rfl) rfl ?_
    refine E_goto (pc := 56) hx 7 dX8_whistleAll_56 rfl ?_
    refine En.sub [2, 3, 0] rfl ?_
    exact hk7 v1 (v2 + 1) w
  refine E_aload_n (pc := 47) hx 1 dX8_whistleAll_47 rfl rfl ?_
  refine E_iload_n (pc := 48) hx 3 dX8_whistleAll_48 rfl rfl ?_
  refine E_iload_n (pc := 49) hx 0 dX8_whistleAll_49 rfl rfl ?_
  refine I_cSV  (pc := 50) hx [.ref a0, .int (oI v2), .int (oI r7)] [] (ev_X8_whistle F a0 h0 v2 r7 w) sm_X8_whistle g988 dX8_whistleAll_50 rfl rfl (Nat.le_of_ble_eq_true rfl) (Nat.le_of_ble_eq_true rfl) (Nat.le_of_ble_eq_true rfl) (fun w9 => ?_)
  refine I_iinc (pc := 53) hx 1 3 dX8_whistleAll_53 rfl (Nat.le_of_ble_eq_true rfl) rfl ?_
  refine E_goto (pc := 56) hx 7 dX8_whistleAll_56 rfl ?_
  refine En.sub [2, 3, 0] rfl ?_
  exact hk7 v1 (v2 + 1) w9
theorem l_X8_whistleAll_b7 {x : Cx} (F : Nat) (a0 : Nat) (h0 : shK a0 = 10 + 2)  (hx : CxOK x RX8 cX8_whistleAll 4 3 0 none)  : ∀ (n : Nat) (v1 : Int) (v2 : Int) (w : aI), En x jvV 0 0 7 [(0, .ref a0), (1, .int (oI v1)), (2, .int (oI v2))] [] (cm w) (f_X8_whistleAll_b7 F a0   n v1 v2 w) := by
  intro n
  induction n with
  | zero => intro v1 v2 w; exact E_none
  | succ n ih => intro v1 v2 w; exact l_X8_whistleAll_b7_b F a0 h0  hx  _ ih v1 v2 w
set_option maxHeartbeats 4000000 in
set_option maxRecDepth 100000 in
theorem ev_X8_whistleAll (F : Nat) (a0 : Nat) (h0 : shK a0 = 10 + 2) (w : aI) : Ev yX8_whistleAll cX8_whistleAll 4 none 3 0 jvV [.ref a0] (cm w) (f_X8_whistleAll F a0 w) := by
  refine Ev.of (own := RX8) (by decide +kernel) rfl (Nat.le_of_ble_eq_true rfl) (fun x hx => ?_)
  show En x jvV 0 0 0 [(0, .ref a0)] [] (cm w) _
  unfold f_X8_whistleAll
  refine E_aload_n (pc := 0) hx 0 dX8_whistleAll_0 rfl rfl ?_
  refine I_cSI  (pc := 1) hx [.ref a0] [] (ev_X8_roofsWithTunes F a0 h0 w) sm_X8_roofsWithTunes g958 dX8_whistleAll_1 rfl rfl (Nat.le_of_ble_eq_true rfl) (Nat.le_of_ble_eq_true rfl) (Nat.le_of_ble_eq_true rfl) (fun r1 => ?_)
  refine E_istore_n (pc := 4) hx dX8_whistleAll_4 rfl (Nat.le_of_ble_eq_true rfl) rfl ?_
  refine I_iconst (pc := 5) hx 0 dX8_whistleAll_5 ?_
  refine E_istore_n (pc := 6) hx dX8_whistleAll_6 rfl (Nat.le_of_ble_eq_true rfl) rfl ?_
  refine En.sub [2, 1, 0] rfl ?_
  exact l_X8_whistleAll_b7 F a0 h0 hx F r1 0 w
set_option maxHeartbeats 4000000 in
set_option maxRecDepth 100000 in
theorem l_X8_loseAll_b2_b {x : Cx} (F : Nat) (a0 : Nat) (h0 : shK a0 = 10 + 2)  (hx : CxOK x RX8 cX8_loseAll 2 2 0 none)  (k2 : Int → aI → Option aI) (hk2 : ∀ (v1 : Int) (w : aI), En x jvV 0 0 2 [(0, .ref a0), (1, .int (oI v1))] [] (cm w) (k2 v1 w)) (v1 : Int) (w : aI) : En x jvV 0 0 2 [(0, .ref a0), (1, .int (oI v1))] [] (cm w) (f_X8_loseAll_b2_b F a0   k2 v1 w) := by
  unfold f_X8_loseAll_b2_b
  refine E_iload_n (pc := 2) hx 1 dX8_loseAll_2 rfl rfl ?_
  refine E_aload_n (pc := 3) hx 0 dX8_loseAll_3 rfl rfl ?_
  refine I_getI (pc := 4) hx 3 3 rfl fc2 h0 (hx.ci h0 (Nat.le_of_ble_eq_true rfl)) rfl ⟨rfl, rfl, rfl⟩ g135 dX8_loseAll_4 ?_
  refine E_gd (fun hr1 => ?_)
  refine I_icmp_ge (pc := 7) hx 54 dX8_loseAll_7 rfl ⟨hr1.1, hr1.2⟩ ?_ ?_
  · exact E_vret (pc := 54) hx dX8_loseAll_54 rfl rfl (Nat.le_of_ble_eq_true rfl)
  refine E_aload_n (pc := 10) hx 0 dX8_loseAll_10 rfl rfl ?_
  refine E_getR (pc := 11) hx 6 fc2 h0 (hx.ci h0 (Nat.le_of_ble_eq_true rfl)) rfl ⟨rfl, rfl, rfl⟩ g145 dX8_loseAll_11 ?_
  refine E_iload_n (pc := 14) hx 1 dX8_loseAll_14 rfl rfl ?_
  refine I_iconst (pc := 15) hx 3 dX8_loseAll_15 ?_
  refine I_cVI  (pc := 16) hx [.int (oI v1), .int (oI 3)] [] (ev_X7_get F (shR a0 6) (kt_2_6 h0) v1 3 w) vm_X7_get fc6 (kt_2_6 h0) (hx.ci (kt_2_6 h0) (Nat.le_of_ble_eq_true rfl)) g929 dX8_loseAll_16 rfl rfl (Nat.le_of_ble_eq_true rfl) (Nat.le_of_ble_eq_true rfl) (Nat.le_of_ble_eq_true rfl) (fun r2 => ?_)
  refine E_gd (fun hr3 => ?_)
  refine I_if_ne (pc := 19) hx 48 dX8_loseAll_19 rfl hr3 ?_ ?_
  · refine I_iinc (pc := 48) hx 1 1 dX8_loseAll_48 rfl (Nat.le_of_ble_eq_true rfl) rfl ?_
    refine E_goto (pc := 51) hx 2 dX8_loseAll_51 rfl ?_
    refine En.sub [1, 0] rfl ?_
    exact hk2 (v1 + 1) w
  refine E_aload_n (pc := 22) hx 0 dX8_loseAll_22 rfl rfl ?_
  refine E_iload_n (pc := 23) hx 1 dX8_loseAll_23 rfl rfl ?_
  refine I_cVI  (pc := 24) hx [.int (oI v1)] [] (ev_X2_nextOf F a0 h0 v1 w) vm_X2_nextOf fc2 h0 (hx.ci h0 (Nat.le_of_ble_eq_true rfl)) g992 dX8_loseAll_24 rfl rfl (Nat.le_of_ble_eq_true rfl) (Nat.le_of_ble_eq_true rfl) (Nat.le_of_ble_eq_true rfl) (fun r4 => ?_)
  refine I_iconst (pc := 27) hx (-1) dX8_loseAll_27 ?_
  refine E_gd (fun hr5 => ?_)
  refine I_icmp_ne (pc := 28) hx 48 dX8_loseAll_28 rfl ⟨hr5, (by decide)⟩ ?_ ?_
  · refine I_iinc (pc := 48) hx 1 1 dX8_loseAll_48 rfl (Nat.le_of_ble_eq_true rfl) rfl ?_
    refine E_goto (pc := 51) hx 2 dX8_loseAll_51 rfl ?_
    refine En.sub [1, 0] rfl ?_
    exact hk2 (v1 + 1) w
  refine E_aload_n (pc := 31) hx 0 dX8_loseAll_31 rfl rfl ?_
  refine E_getR (pc := 32) hx 6 fc2 h0 (hx.ci h0 (Nat.le_of_ble_eq_true rfl)) rfl ⟨rfl, rfl, rfl⟩ g145 dX8_loseAll_32 ?_
  refine E_iload_n (pc := 35) hx 1 dX8_loseAll_35 rfl rfl ?_
  refine I_iconst (pc := 36) hx 3 dX8_loseAll_36 ?_
  refine I_iconst (pc := 37) hx 3 dX8_loseAll_37 ?_
  refine I_cVV  (pc := 38) hx [.int (oI v1), .int (oI 3), .int (oI 3)] [] (ev_X7_put F (shR a0 6) (kt_2_6 h0) v1 3 3 w) vm_X7_put fc6 (kt_2_6 h0) (hx.ci (kt_2_6 h0) (Nat.le_of_ble_eq_true rfl)) g946 dX8_loseAll_38 rfl rfl (Nat.le_of_ble_eq_true rfl) (Nat.le_of_ble_eq_true rfl) (Nat.le_of_ble_eq_true rfl) (fun w6 => ?_)
  refine E_aload_n (pc := 41) hx 0 dX8_loseAll_41 rfl rfl ?_
  refine I_bipush (pc := 42) hx 8 dX8_loseAll_42 rfl ?_
  refine I_iconst (pc := 44) hx 1 dX8_loseAll_44 ?_
  refine I_cVV  (pc := 45) hx [.int (oI 8), .int (oI 1)] [] (ev_X2_enter F a0 h0 8 1 w6) vm_X2_enter fc2 h0 (hx.ci h0 (Nat.le_of_ble_eq_true rfl)) g925 dX8_loseAll_45 rfl rfl (Nat.le_of_ble_eq_true rfl) (Nat.le_of_ble_eq_true rfl) (Nat.le_of_ble_eq_true rfl) (fun w7 => ?_)
  refine I_iinc (pc := 48) hx 1 1 dX8_loseAll_48 rfl (Nat.le_of_ble_eq_true rfl) rfl ?_
  refine E_goto (pc := 51) hx 2 dX8_loseAll_51 rfl ?_
  refine En.sub [1, 0] rfl ?_
  exact hk2 (v1 + 1) w7
theorem l_X8_loseAll_b2 {x : Cx} (F : Nat) (a0 : Nat) (h0 : shK a0 = 10 + 2)  (hx : CxOK x RX8 cX8_loseAll 2 2 0 none)  : ∀ (n : Nat) (v1 : Int) (w : aI), En x jvV 0 0 2 [(0, .ref a0), (1, .int (oI v1))] [] (cm w) (f_X8_loseAll_b2 F a0   n v1 w) := by
  intro n
  induction n with
  | zero => intro v1 w; exact E_none
  | succ n ih => intro v1 w; exact l_X8_loseAll_b2_b F a0 h0  hx  _ ih v1 w
set_option maxHeartbeats 4000000 in
set_option maxRecDepth 100000 in
theorem ev_X8_loseAll (F : Nat) (a0 : Nat) (h0 : shK a0 = 10 + 2) (w : aI) : Ev yX8_loseAll cX8_loseAll 2 none 2 0 jvV [.ref a0] (cm w) (f_X8_loseAll F a0 w) := by
  refine Ev.of (own := RX8) (by decide +kernel) rfl (Nat.le_of_ble_eq_true rfl) (fun x hx => ?_)
  show En x jvV 0 0 0 [(0, .ref a0)] [] (cm w) _
  unfold f_X8_loseAll
  refine I_iconst (pc := 0) hx 0 dX8_loseAll_0 ?_
  refine E_istore_n (pc := 1) hx dX8_loseAll_1 rfl (Nat.le_of_ble_eq_true rfl) rfl ?_
  refine En.sub [1, 0] rfl ?_
  exact l_X8_loseAll_b2 F a0 h0 hx F 0 w
set_option maxHeartbeats 4000000 in
set_option maxRecDepth 100000 in
theorem l_X8_run_b2_b {x : Cx} (F : Nat) (a0 : Nat) (h0 : shK a0 = 10 + 2) (p1 : Int)  (hx : CxOK x RX8 cX8_run 3 5 0 none)  (k2 : Int → aI → Option aI) (hk2 : ∀ (v2 : Int) (w : aI), En x jvV 0 0 2 [(0, .ref a0), (1, .int (oI p1)), (2, .int (oI v2))] [] (cm w) (k2 v2 w)) (v2 : Int) (w : aI) : En x jvV 0 0 2 [(0, .ref a0), (1, .int (oI p1)), (2, .int (oI v2))] [] (cm w) (f_X8_run_b2_b F a0 p1   k2 v2 w) := by
  unfold f_X8_run_b2_b
  refine E_iload_n (pc := 2) hx 2 dX8_run_2 rfl rfl ?_
  refine E_iload_n (pc := 3) hx 1 dX8_run_3 rfl rfl ?_
  refine E_gd (fun hr1 => ?_)
  refine I_icmp_ge (pc := 4) hx 57 dX8_run_4 rfl ⟨hr1.1, hr1.2⟩ ?_ ?_
  · exact E_vret (pc := 57) hx dX8_run_57 rfl rfl (Nat.le_of_ble_eq_true rfl)
  refine E_aload_n (pc := 7) hx 0 dX8_run_7 rfl rfl ?_
  refine E_dup (pc := 8) hx dX8_run_8 rfl ?_
  refine I_getI (pc := 9) hx 0 0 rfl fc2 h0 (hx.ci h0 (Nat.le_of_ble_eq_true rfl)) rfl ⟨rfl, rfl, rfl⟩ g123 dX8_run_9 ?_
  refine I_iconst (pc := 12) hx 1 dX8_run_12 ?_
  refine I_iadd (pc := 13) hx dX8_run_13 ?_
  refine I_put (pc := 14) hx 0 0 rfl .int tyX2 fc2 tyX2_ok h0 (hx.ci h0 (Nat.le_of_ble_eq_true rfl)) rfl ⟨rfl, rfl, rfl, rfl, pfd_I⟩ rfl rfl g123 dX8_run_14 (fun w2 => ?_)
  refine E_aload_n (pc := 17) hx 0 dX8_run_17 rfl rfl ?_
  refine I_iconst (pc := 18) hx 0 dX8_run_18 ?_
  refine I_iconst (pc := 19) hx 1 dX8_run_19 ?_
  refine I_cVV  (pc := 20) hx [.int (oI 0), .int (oI 1)] [] (ev_X2_enter F a0 h0 0 1 w2) vm_X2_enter fc2 h0 (hx.ci h0 (Nat.le_of_ble_eq_true rfl)) g925 dX8_run_20 rfl rfl (Nat.le_of_ble_eq_true rfl) (Nat.le_of_ble_eq_true rfl) (Nat.le_of_ble_eq_true rfl) (fun w3 => ?_)
  refine E_aload_n (pc := 23) hx 0 dX8_run_23 rfl rfl ?_
  refine I_cSV  (pc := 24) hx [.ref a0] [] (ev_X8_landAll F a0 h0 w3) sm_X8_landAll g926 dX8_run_24 rfl rfl (Nat.le_of_ble_eq_true rfl) (Nat.le_of_ble_eq_true rfl) (Nat.le_of_ble_eq_true rfl) (fun w4 => ?_)
  refine E_aload_n (pc := 27) hx 0 dX8_run_27 rfl rfl ?_
  refine I_getI (pc := 28) hx 0 0 rfl fc2 h0 (hx.ci h0 (Nat.le_of_ble_eq_true rfl)) rfl ⟨rfl, rfl, rfl⟩ g123 dX8_run_28 ?_
  refine I_bipush (pc := 31) hx 60 dX8_run_31 rfl ?_
  refine E_gd (fun hr5 => ?_)
  refine I_irem (pc := 33) hx dX8_run_33 ⟨hr5, (by decide), (by decide)⟩ ?_
  refine E_aload_n (pc := 34) hx 0 dX8_run_34 rfl rfl ?_
  refine I_bipush (pc := 35) hx 9 dX8_run_35 rfl ?_
  refine I_cVI  (pc := 37) hx [.int (oI 9)] [.int (oI (Int.tmod (w4 a0 0) 60))] (ev_X2_setting F a0 h0 9 w4) vm_X2_setting fc2 h0 (hx.ci h0 (Nat.le_of_ble_eq_true rfl)) g933 dX8_run_37 rfl rfl (Nat.le_of_ble_eq_true rfl) (Nat.le_of_ble_eq_true rfl) (Nat.le_of_ble_eq_true rfl) (fun r6 => ?_)
  refine E_gd (fun hr7 => ?_)
  refine I_icmp_ge (pc := 40) hx 47 dX8_run_40 rfl ⟨hr7.1, hr7.2⟩ ?_ ?_
  · refine E_aload_n (pc := 47) hx 0 dX8_run_47 rfl rfl ?_
    refine I_cSV  (pc := 48) hx [.ref a0] [] (ev_X8_loseAll F a0 h0 w4) sm_X8_loseAll g997 dX8_run_48 rfl rfl (Nat.le_of_ble_eq_true rfl) (Nat.le_of_ble_eq_true rfl) (Nat.le_of_ble_eq_true rfl) (fun w8 => ?_)
    refine I_iinc (pc := 51) hx 1 2 dX8_run_51 rfl (Nat.le_of_ble_eq_true rfl) rfl ?_
    refine E_goto (pc := 54) hx 2 dX8_run_54 rfl ?_
    refine En.sub [1, 2, 0] rfl ?_
    exact hk2 (v2 + 1) w8
  refine E_aload_n (pc := 43) hx 0 dX8_run_43 rfl rfl ?_
  refine I_cSV  (pc := 44) hx [.ref a0] [] (ev_X8_whistleAll F a0 h0 w4) sm_X8_whistleAll g955 dX8_run_44 rfl rfl (Nat.le_of_ble_eq_true rfl) (Nat.le_of_ble_eq_true rfl) (Nat.le_of_ble_eq_true rfl) (fun w9 => ?_)
  refine E_aload_n (pc := 47) hx 0 dX8_run_47 rfl rfl ?_
  refine I_cSV  (pc := 48) hx [.ref a0] [] (ev_X8_loseAll F a0 h0 w9) sm_X8_loseAll g997 dX8_run_48 rfl rfl (Nat.le_of_ble_eq_true rfl) (Nat.le_of_ble_eq_true rfl) (Nat.le_of_ble_eq_true rfl) (fun w10 => ?_)
  refine I_iinc (pc := 51) hx 1 2 dX8_run_51 rfl (Nat.le_of_ble_eq_true rfl) rfl ?_
  refine E_goto (pc := 54) hx 2 dX8_run_54 rfl ?_
  refine En.sub [1, 2, 0] rfl ?_
  exact hk2 (v2 + 1) w10
theorem l_X8_run_b2 {x : Cx} (F : Nat) (a0 : Nat) (h0 : shK a0 = 10 + 2) (p1 : Int)  (hx : CxOK x RX8 cX8_run 3 5 0 none)  : ∀ (n : Nat) (v2 : Int) (w : aI), En x jvV 0 0 2 [(0, .ref a0), (1, .int (oI p1)), (2, .int (oI v2))] [] (cm w) (f_X8_run_b2 F a0 p1   n v2 w) := by
  intro n
  induction n with
  | zero => intro v2 w; exact E_none
  | succ n ih => intro v2 w; exact l_X8_run_b2_b F a0 h0 p1  hx  _ ih v2 w
set_option maxHeartbeats 4000000 in
set_option maxRecDepth 100000 in
theorem ev_X8_run (F : Nat) (a0 : Nat) (h0 : shK a0 = 10 + 2) (p1 : Int) (w : aI) : Ev yX8_run cX8_run 3 none 5 0 jvV [.ref a0, .int (oI p1)] (cm w) (f_X8_run F a0 p1 w) := by
  refine Ev.of (own := RX8) (by decide +kernel) rfl (Nat.le_of_ble_eq_true rfl) (fun x hx => ?_)
  show En x jvV 0 0 0 [(0, .ref a0), (1, .int (oI p1))] [] (cm w) _
  unfold f_X8_run
  refine I_iconst (pc := 0) hx 0 dX8_run_0 ?_
  refine E_istore_n (pc := 1) hx dX8_run_1 rfl (Nat.le_of_ble_eq_true rfl) rfl ?_
  refine En.sub [1, 2, 0] rfl ?_
  exact l_X8_run_b2 F a0 h0 p1 hx F 0 w
set_option maxHeartbeats 4000000 in
set_option maxRecDepth 100000 in
theorem l_X10_appendFour_b3_b {x : Cx} (F : Nat) (a0 : Nat) (h0 : shK a0 = 10 + 8) (p1 : Int)  (hx : CxOK x RX10 cX10_appendFour 3 1 0 none)  (k3 : Int → aI → Option aI) (hk3 : ∀ (v2 : Int) (w : aI), En x jvV 0 0 3 [(0, .ref a0), (1, .int (oI p1)), (2, .int (oI v2))] [] (cm w) (k3 v2 w)) (v2 : Int) (w : aI) : En x jvV 0 0 3 [(0, .ref a0), (1, .int (oI p1)), (2, .int (oI v2))] [] (cm w) (f_X10_appendFour_b3_b F a0 p1   k3 v2 w) := by
  unfold f_X10_appendFour_b3_b
  refine E_iload_n (pc := 3) hx 2 dX10_appendFour_3 rfl rfl ?_
  refine E_gd (fun hr1 => ?_)
  refine I_if_lt (pc := 4) hx 27 dX10_appendFour_4 rfl hr1 ?_ ?_
  · exact E_vret (pc := 27) hx dX10_appendFour_27 rfl rfl (Nat.le_of_ble_eq_true rfl)
  refine E_aload_n (pc := 7) hx 0 dX10_appendFour_7 rfl rfl ?_
  refine E_getR (pc := 8) hx 0 fc8 h0 (hx.ci h0 (Nat.le_of_ble_eq_true rfl)) rfl ⟨rfl, rfl, rfl⟩ g496 dX10_appendFour_8 ?_
  refine E_iload_n (pc := 11) hx 1 dX10_appendFour_11 rfl rfl ?_
  refine E_iload_n (pc := 12) hx 2 dX10_appendFour_12 rfl rfl ?_
  refine I_iushr (pc := 13) hx dX10_appendFour_13 ?_
  refine I_sipush (pc := 14) hx 255 dX10_appendFour_14 rfl ?_
  refine I_iand (pc := 17) hx dX10_appendFour_17 ?_
  refine I_cVV  (pc := 18) hx [.int (oI (andI (iusI p1 v2) 255))] [] (ev_X0_add F (shR a0 0) (kt_8_0 h0) (andI (iusI p1 v2) 255) w) vm_X0_add fc0 (kt_8_0 h0) (hx.ci (kt_8_0 h0) (Nat.le_of_ble_eq_true rfl)) g668 dX10_appendFour_18 rfl rfl (Nat.le_of_ble_eq_true rfl) (Nat.le_of_ble_eq_true rfl) (Nat.le_of_ble_eq_true rfl) (fun w2 => ?_)
  refine I_iinc (pc := 21) hx (-8) 2 dX10_appendFour_21 rfl (Nat.le_of_ble_eq_true rfl) rfl ?_
  refine E_goto (pc := 24) hx 3 dX10_appendFour_24 rfl ?_
  refine En.sub [1, 2, 0] rfl ?_
  exact hk3 (v2 + (-8)) w2
theorem l_X10_appendFour_b3 {x : Cx} (F : Nat) (a0 : Nat) (h0 : shK a0 = 10 + 8) (p1 : Int)  (hx : CxOK x RX10 cX10_appendFour 3 1 0 none)  : ∀ (n : Nat) (v2 : Int) (w : aI), En x jvV 0 0 3 [(0, .ref a0), (1, .int (oI p1)), (2, .int (oI v2))] [] (cm w) (f_X10_appendFour_b3 F a0 p1   n v2 w) := by
  intro n
  induction n with
  | zero => intro v2 w; exact E_none
  | succ n ih => intro v2 w; exact l_X10_appendFour_b3_b F a0 h0 p1  hx  _ ih v2 w
set_option maxHeartbeats 4000000 in
set_option maxRecDepth 100000 in
theorem ev_X10_appendFour (F : Nat) (a0 : Nat) (h0 : shK a0 = 10 + 8) (p1 : Int) (w : aI) : Ev yX10_appendFour cX10_appendFour 3 none 1 0 jvV [.ref a0, .int (oI p1)] (cm w) (f_X10_appendFour F a0 p1 w) := by
  refine Ev.of (own := RX10) (by decide +kernel) rfl (Nat.le_of_ble_eq_true rfl) (fun x hx => ?_)
  show En x jvV 0 0 0 [(0, .ref a0), (1, .int (oI p1))] [] (cm w) _
  unfold f_X10_appendFour
  refine I_bipush (pc := 0) hx 24 dX10_appendFour_0 rfl ?_
  refine E_istore_n (pc := 2) hx dX10_appendFour_2 rfl (Nat.le_of_ble_eq_true rfl) rfl ?_
  refine En.sub [1, 2, 0] rfl ?_
  exact l_X10_appendFour_b3 F a0 h0 p1 hx F 24 w
set_option maxHeartbeats 4000000 in
set_option maxRecDepth 100000 in
theorem ev_X10_appendInput (F : Nat) (a0 : Nat) (h0 : shK a0 = 10 + 8) (p1 : Int) (p2 : Int) (p3 : Int) (p4 : Int) (p5 : Int) (w : aI) : Ev yX10_appendInput cX10_appendInput 6 (some .int) 2 0 jvIW [.ref a0, .int (oI p1), .int (oI p2), .int (oI p3), .int (oI p4), .int (oI p5)] (cm w) (f_X10_appendInput F a0 p1 p2 p3 p4 p5 w) := by
  refine Ev.of (own := RX10) (by decide +kernel) rfl (Nat.le_of_ble_eq_true rfl) (fun x hx => ?_)
  show En x jvIW 0 0 0 [(0, .ref a0), (1, .int (oI p1)), (2, .int (oI p2)), (3, .int (oI p3)), (4, .int (oI p4)), (5, .int (oI p5))] [] (cm w) _
  unfold f_X10_appendInput
  refine E_aload_n (pc := 0) hx 0 dX10_appendInput_0 rfl rfl ?_
  refine E_getR (pc := 1) hx 0 fc8 h0 (hx.ci h0 (Nat.le_of_ble_eq_true rfl)) rfl ⟨rfl, rfl, rfl⟩ g496 dX10_appendInput_1 ?_
  refine I_cVI  (pc := 4) hx [] [] (ev_X0_size F (shR a0 0) (kt_8_0 h0) w) vm_X0_size fc0 (kt_8_0 h0) (hx.ci (kt_8_0 h0) (Nat.le_of_ble_eq_true rfl)) g663 dX10_appendInput_4 rfl rfl (Nat.le_of_ble_eq_true rfl) (Nat.le_of_ble_eq_true rfl) (Nat.le_of_ble_eq_true rfl) (fun r1 => ?_)
  refine I_bipush (pc := 7) hx 20 dX10_appendInput_7 rfl ?_
  refine I_iadd (pc := 9) hx dX10_appendInput_9 ?_
  refine I_sipush (pc := 10) hx 800 dX10_appendInput_10 rfl ?_
  refine E_gd (fun hr2 => ?_)
  refine I_icmp_le (pc := 13) hx 18 dX10_appendInput_13 rfl ⟨hr2, (by decide)⟩ ?_ ?_
  · refine E_aload_n (pc := 18) hx 0 dX10_appendInput_18 rfl rfl ?_
    refine E_iload_n (pc := 19) hx 1 dX10_appendInput_19 rfl rfl ?_
    refine I_cVV  (pc := 20) hx [.int (oI p1)] [] (ev_X10_appendFour F a0 h0 p1 w) vm_X10_appendFour fc8 h0 (hx.ci h0 (Nat.le_of_ble_eq_true rfl)) g664 dX10_appendInput_20 rfl rfl (Nat.le_of_ble_eq_true rfl) (Nat.le_of_ble_eq_true rfl) (Nat.le_of_ble_eq_true rfl) (fun w3 => ?_)
    refine E_aload_n (pc := 23) hx 0 dX10_appendInput_23 rfl rfl ?_
    refine E_iload_n (pc := 24) hx 2 dX10_appendInput_24 rfl rfl ?_
    refine I_cVV  (pc := 25) hx [.int (oI p2)] [] (ev_X10_appendFour F a0 h0 p2 w3) vm_X10_appendFour fc8 h0 (hx.ci h0 (Nat.le_of_ble_eq_true rfl)) g664 dX10_appendInput_25 rfl rfl (Nat.le_of_ble_eq_true rfl) (Nat.le_of_ble_eq_true rfl) (Nat.le_of_ble_eq_true rfl) (fun w4 => ?_)
    refine E_aload_n (pc := 28) hx 0 dX10_appendInput_28 rfl rfl ?_
    refine E_iload_n (pc := 29) hx 3 dX10_appendInput_29 rfl rfl ?_
    refine I_cVV  (pc := 30) hx [.int (oI p3)] [] (ev_X10_appendFour F a0 h0 p3 w4) vm_X10_appendFour fc8 h0 (hx.ci h0 (Nat.le_of_ble_eq_true rfl)) g664 dX10_appendInput_30 rfl rfl (Nat.le_of_ble_eq_true rfl) (Nat.le_of_ble_eq_true rfl) (Nat.le_of_ble_eq_true rfl) (fun w5 => ?_)
    refine E_aload_n (pc := 33) hx 0 dX10_appendInput_33 rfl rfl ?_
    refine E_iload (pc := 34) hx 4 dX10_appendInput_34 rfl ?_
    refine I_cVV  (pc := 36) hx [.int (oI p4)] [] (ev_X10_appendFour F a0 h0 p4 w5) vm_X10_appendFour fc8 h0 (hx.ci h0 (Nat.le_of_ble_eq_true rfl)) g664 dX10_appendInput_36 rfl rfl (Nat.le_of_ble_eq_true rfl) (Nat.le_of_ble_eq_true rfl) (Nat.le_of_ble_eq_true rfl) (fun w6 => ?_)
    refine E_aload_n (pc := 39) hx 0 dX10_appendInput_39 rfl rfl ?_
    refine E_iload (pc := 40) hx 5 dX10_appendInput_40 rfl ?_
    refine I_cVV  (pc := 42) hx [.int (oI p5)] [] (ev_X10_appendFour F a0 h0 p5 w6) vm_X10_appendFour fc8 h0 (hx.ci h0 (Nat.le_of_ble_eq_true rfl)) g664 dX10_appendInput_42 rfl rfl (Nat.le_of_ble_eq_true rfl) (Nat.le_of_ble_eq_true rfl) (Nat.le_of_ble_eq_true rfl) (fun w7 => ?_)
    refine E_aload_n (pc := 45) hx 0 dX10_appendInput_45 rfl rfl ?_
    refine E_getR (pc := 46) hx 0 fc8 h0 (hx.ci h0 (Nat.le_of_ble_eq_true rfl)) rfl ⟨rfl, rfl, rfl⟩ g496 dX10_appendInput_46 ?_
    refine I_cVI  (pc := 49) hx [] [] (ev_X0_size F (shR a0 0) (kt_8_0 h0) w7) vm_X0_size fc0 (kt_8_0 h0) (hx.ci (kt_8_0 h0) (Nat.le_of_ble_eq_true rfl)) g663 dX10_appendInput_49 rfl rfl (Nat.le_of_ble_eq_true rfl) (Nat.le_of_ble_eq_true rfl) (Nat.le_of_ble_eq_true rfl) (fun r8 => ?_)
    exact E_iret (pc := 52) hx dX10_appendInput_52 rfl rfl (Nat.le_of_ble_eq_true rfl)
  refine I_iconst (pc := 16) hx (-1) dX10_appendInput_16 ?_
  exact E_iret (pc := 17) hx dX10_appendInput_17 rfl rfl (Nat.le_of_ble_eq_true rfl)
set_option maxHeartbeats 4000000 in
set_option maxRecDepth 100000 in
theorem ev_X10_truncateInput (F : Nat) (a0 : Nat) (h0 : shK a0 = 10 + 8) (p1 : Int) (w : aI) : Ev yX10_truncateInput cX10_truncateInput 2 (some .boolean) 1 0 jvBW [.ref a0, .int (oI p1)] (cm w) (f_X10_truncateInput F a0 p1 w) := by
  refine Ev.of (own := RX10) (by decide +kernel) rfl (Nat.le_of_ble_eq_true rfl) (fun x hx => ?_)
  show En x jvBW 0 0 0 [(0, .ref a0), (1, .int (oI p1))] [] (cm w) _
  unfold f_X10_truncateInput
  refine E_aload_n (pc := 0) hx 0 dX10_truncateInput_0 rfl rfl ?_
  refine E_getR (pc := 1) hx 0 fc8 h0 (hx.ci h0 (Nat.le_of_ble_eq_true rfl)) rfl ⟨rfl, rfl, rfl⟩ g496 dX10_truncateInput_1 ?_
  refine E_iload_n (pc := 4) hx 1 dX10_truncateInput_4 rfl rfl ?_
  refine I_cVBW  (pc := 5) hx [.int (oI p1)] [] (ev_X0_cutTo F (shR a0 0) (kt_8_0 h0) p1 w) vm_X0_cutTo fc0 (kt_8_0 h0) (hx.ci (kt_8_0 h0) (Nat.le_of_ble_eq_true rfl)) g673 dX10_truncateInput_5 rfl rfl (Nat.le_of_ble_eq_true rfl) (Nat.le_of_ble_eq_true rfl) (Nat.le_of_ble_eq_true rfl) (fun r1 w2 => ?_)
  exact E_zret (pc := 8) hx dX10_truncateInput_8 rfl (bI_nar _) rfl (Nat.le_of_ble_eq_true rfl)
set_option maxHeartbeats 4000000 in
set_option maxRecDepth 100000 in
theorem ev_X10_loadPost (F : Nat) (a0 : Nat) (h0 : shK a0 = 10 + 8) (w : aI) : Ev yX10_loadPost cX10_loadPost 2 (some .int) 10 0 jvIW [.ref a0] (cm w) (f_X10_loadPost F a0 w) := by
  refine Ev.of (own := RX10) (by decide +kernel) rfl (Nat.le_of_ble_eq_true rfl) (fun x hx => ?_)
  show En x jvIW 0 0 0 [(0, .ref a0)] [] (cm w) _
  unfold f_X10_loadPost
  refine E_aload_n (pc := 0) hx 0 dX10_loadPost_0 rfl rfl ?_
  refine E_getR (pc := 1) hx 3 fc8 h0 (hx.ci h0 (Nat.le_of_ble_eq_true rfl)) rfl ⟨rfl, rfl, rfl⟩ g499 dX10_loadPost_1 ?_
  refine I_cVBW  (pc := 4) hx [] [] (ev_X5_isRead F (shR a0 3) (kt_8_3 h0) w) vm_X5_isRead fc5 (kt_8_3 h0) (hx.ci (kt_8_3 h0) (Nat.le_of_ble_eq_true rfl)) g316 dX10_loadPost_4 rfl rfl (Nat.le_of_ble_eq_true rfl) (Nat.le_of_ble_eq_true rfl) (Nat.le_of_ble_eq_true rfl) (fun r1 w2 => ?_)
  refine E_istore_n (pc := 7) hx dX10_loadPost_7 rfl (Nat.le_of_ble_eq_true rfl) rfl ?_
  refine E_aload_n (pc := 8) hx 1 dX10_loadPost_8 rfl rfl ?_
  refine E_getR (pc := 9) hx 0 fc8 h0 (hx.ci h0 (Nat.le_of_ble_eq_true rfl)) rfl ⟨rfl, rfl, rfl⟩ g496 dX10_loadPost_9 ?_
  refine I_cVV  (pc := 12) hx [] [] (ev_X0_clear F (shR a0 0) (kt_8_0 h0) w2) vm_X0_clear fc0 (kt_8_0 h0) (hx.ci (kt_8_0 h0) (Nat.le_of_ble_eq_true rfl)) g492 dX10_loadPost_12 rfl rfl (Nat.le_of_ble_eq_true rfl) (Nat.le_of_ble_eq_true rfl) (Nat.le_of_ble_eq_true rfl) (fun w3 => ?_)
  refine E_iload_n (pc := 15) hx 0 dX10_loadPost_15 rfl rfl ?_
  refine I_ifB_ne (pc := 16) hx 21 dX10_loadPost_16 rfl ?_ ?_
  · refine E_aload_n (pc := 21) hx 1 dX10_loadPost_21 rfl rfl ?_
    refine E_getR (pc := 22) hx 5 fc8 h0 (hx.ci h0 (Nat.le_of_ble_eq_true rfl)) rfl ⟨rfl, rfl, rfl⟩ g501 dX10_loadPost_22 ?_
    refine E_aload_n (pc := 25) hx 1 dX10_loadPost_25 rfl rfl ?_
    refine E_getR (pc := 26) hx 7 fc8 h0 (hx.ci h0 (Nat.le_of_ble_eq_true rfl)) rfl ⟨rfl, rfl, rfl⟩ g503 dX10_loadPost_26 ?_
    refine I_cVV  (pc := 29) hx [.ref (shR a0 7)] [] (ev_X2_copyFrom F (shR a0 5) (kt_8_5 h0) (shR a0 7) (kt_8_7 h0) w3) vm_X2_copyFrom fc2 (kt_8_5 h0) (hx.ci (kt_8_5 h0) (Nat.le_of_ble_eq_true rfl)) g473 dX10_loadPost_29 rfl rfl (Nat.le_of_ble_eq_true rfl) (Nat.le_of_ble_eq_true rfl) (Nat.le_of_ble_eq_true rfl) (fun w4 => ?_)
    refine E_aload_n (pc := 32) hx 1 dX10_loadPost_32 rfl rfl ?_
    refine E_getR (pc := 33) hx 8 fc8 h0 (hx.ci h0 (Nat.le_of_ble_eq_true rfl)) rfl ⟨rfl, rfl, rfl⟩ g504 dX10_loadPost_33 ?_
    refine I_cVV  (pc := 36) hx [] [] (ev_X1_forget F (shR a0 8) (kt_8_8 h0) w4) vm_X1_forget fc1 (kt_8_8 h0) (hx.ci (kt_8_8 h0) (Nat.le_of_ble_eq_true rfl)) g532 dX10_loadPost_36 rfl rfl (Nat.le_of_ble_eq_true rfl) (Nat.le_of_ble_eq_true rfl) (Nat.le_of_ble_eq_true rfl) (fun w5 => ?_)
    refine E_aload_n (pc := 39) hx 1 dX10_loadPost_39 rfl rfl ?_
    refine I_iconst (pc := 40) hx 0 dX10_loadPost_40 ?_
    refine I_put (pc := 41) hx 9 9 rfl .boolean tyX10 fc8 tyX10_ok h0 (hx.ci h0 (Nat.le_of_ble_eq_true rfl)) rfl ⟨rfl, rfl, rfl, rfl, pfd_Z⟩ rfl rfl g505 dX10_loadPost_41 (fun w6 => ?_)
    refine E_aload_n (pc := 44) hx 1 dX10_loadPost_44 rfl rfl ?_
    refine E_getR (pc := 45) hx 5 fc8 h0 (hx.ci h0 (Nat.le_of_ble_eq_true rfl)) rfl ⟨rfl, rfl, rfl⟩ g501 dX10_loadPost_45 ?_
    refine I_getI (pc := 48) hx 2 2 rfl fc2 (kt_8_5 h0) (hx.ci (kt_8_5 h0) (Nat.le_of_ble_eq_true rfl)) rfl ⟨rfl, rfl, rfl⟩ g133 dX10_loadPost_48 ?_
    exact E_iret (pc := 51) hx dX10_loadPost_51 rfl rfl (Nat.le_of_ble_eq_true rfl)
  refine I_iconst (pc := 19) hx (-1) dX10_loadPost_19 ?_
  exact E_iret (pc := 20) hx dX10_loadPost_20 rfl rfl (Nat.le_of_ble_eq_true rfl)
set_option maxHeartbeats 4000000 in
set_option maxRecDepth 100000 in
theorem ev_X10_needNumber (F : Nat) (a0 : Nat) (h0 : shK a0 = 10 + 8) (p1 : Int) (p2 : Int) (p3 : Int) (w : aI) : Ev yX10_needNumber cX10_needNumber 4 none 6 1 (jvN w) [.ref a0, .int (oI p1), .int (oI p2), .int (oI p3)] (cm w) (f_X10_needNumber F a0 p1 p2 p3 w) := by
  refine Ev.of (own := RX10) (by decide +kernel) rfl (Nat.le_of_ble_eq_true rfl) (fun x hx => ?_)
  show En x (jvN w) 1 0 0 [(0, .ref a0), (1, .int (oI p1)), (2, .int (oI p2)), (3, .int (oI p3))] [] (cm w) _
  unfold f_X10_needNumber
  refine E_iload_n (pc := 0) hx 1 dX10_needNumber_0 rfl rfl ?_
  refine E_iload_n (pc := 1) hx 2 dX10_needNumber_1 rfl rfl ?_
  refine E_gd (fun hr1 => ?_)
  refine I_icmp_lt (pc := 2) hx 10 dX10_needNumber_2 rfl ⟨hr1.1, hr1.2⟩ ?_ ?_
  · exact E_thrw (pc := 10) hx (i := 11) (text := xTx.getD 11 "") xtA (by decide +kernel) dX10_needNumber_10 dX10_needNumber_13 dX10_needNumber_14 dX10_needNumber_17 dX10_needNumber_20 (Nat.le_of_ble_eq_true rfl) (Nat.le_of_ble_eq_true rfl) (Nat.le_of_ble_eq_true rfl) rfl
  refine E_iload_n (pc := 5) hx 1 dX10_needNumber_5 rfl rfl ?_
  refine E_iload_n (pc := 6) hx 3 dX10_needNumber_6 rfl rfl ?_
  refine E_gd (fun hr2 => ?_)
  refine I_icmp_le (pc := 7) hx 21 dX10_needNumber_7 rfl ⟨hr1.1, hr2⟩ ?_ ?_
  · exact E_vret (pc := 21) hx dX10_needNumber_21 rfl rfl (Nat.le_of_ble_eq_true rfl)
  exact E_thrw (pc := 10) hx (i := 11) (text := xTx.getD 11 "") xtA (by decide +kernel) dX10_needNumber_10 dX10_needNumber_13 dX10_needNumber_14 dX10_needNumber_17 dX10_needNumber_20 (Nat.le_of_ble_eq_true rfl) (Nat.le_of_ble_eq_true rfl) (Nat.le_of_ble_eq_true rfl) rfl
set_option maxHeartbeats 4000000 in
set_option maxRecDepth 100000 in
theorem ev_X10_count (F : Nat) (a0 : Nat) (h0 : shK a0 = 10 + 8) (p1 : Int) (w : aI) : Ev yX10_count cX10_count 2 (some .int) 7 1 jvT [.ref a0, .int (oI p1)] (cm w) (f_X10_count F a0 p1 w) := by
  refine Ev.of (own := RX10) (by decide +kernel) rfl (Nat.le_of_ble_eq_true rfl) (fun x hx => ?_)
  show En x jvT 1 0 0 [(0, .ref a0), (1, .int (oI p1))] [] (cm w) _
  unfold f_X10_count
  refine E_aload_n (pc := 0) hx 0 dX10_count_0 rfl rfl ?_
  refine E_iload_n (pc := 1) hx 1 dX10_count_1 rfl rfl ?_
  refine I_iconst (pc := 2) hx 0 dX10_count_2 ?_
  refine I_bipush (pc := 3) hx 13 dX10_count_3 rfl ?_
  refine I_cVN (hcv := rfl) (pc := 5) hx [.int (oI p1), .int (oI 0), .int (oI 13)] [] (ev_X10_needNumber F a0 h0 p1 0 13 w) vm_X10_needNumber fc8 h0 (hx.ci h0 (Nat.le_of_ble_eq_true rfl)) g824 dX10_count_5 rfl rfl (Nat.le_of_ble_eq_true rfl) (Nat.le_of_ble_eq_true rfl) (Nat.le_of_ble_eq_true rfl) ?_
  refine E_iload_n (pc := 8) hx 1 dX10_count_8 rfl rfl ?_
  refine I_bipush (pc := 9) hx 13 dX10_count_9 rfl ?_
  refine E_gd (fun hr1 => ?_)
  refine I_icmp_ne (pc := 11) hx 24 dX10_count_11 rfl ⟨hr1, (by decide)⟩ ?_ ?_
  · refine E_aload_n (pc := 24) hx 0 dX10_count_24 rfl rfl ?_
    refine E_getR (pc := 25) hx 5 fc8 h0 (hx.ci h0 (Nat.le_of_ble_eq_true rfl)) rfl ⟨rfl, rfl, rfl⟩ g501 dX10_count_25 ?_
    refine E_iload_n (pc := 28) hx 1 dX10_count_28 rfl rfl ?_
    refine I_cVI  (pc := 29) hx [.int (oI p1)] [] (ev_X2_numberOfAll F (shR a0 5) (kt_8_5 h0) p1 w) vm_X2_numberOfAll fc2 (kt_8_5 h0) (hx.ci (kt_8_5 h0) (Nat.le_of_ble_eq_true rfl)) g1012 dX10_count_29 rfl rfl (Nat.le_of_ble_eq_true rfl) (Nat.le_of_ble_eq_true rfl) (Nat.le_of_ble_eq_true rfl) (fun r2 => ?_)
    exact E_iret (pc := 32) hx dX10_count_32 rfl rfl (Nat.le_of_ble_eq_true rfl)
  refine E_aload_n (pc := 14) hx 0 dX10_count_14 rfl rfl ?_
  refine E_getR (pc := 15) hx 8 fc8 h0 (hx.ci h0 (Nat.le_of_ble_eq_true rfl)) rfl ⟨rfl, rfl, rfl⟩ g504 dX10_count_15 ?_
  refine I_cVI  (pc := 18) hx [] [] (ev_X1_size F (shR a0 8) (kt_8_8 h0) w) vm_X1_size fc1 (kt_8_8 h0) (hx.ci (kt_8_8 h0) (Nat.le_of_ble_eq_true rfl)) g1008 dX10_count_18 rfl rfl (Nat.le_of_ble_eq_true rfl) (Nat.le_of_ble_eq_true rfl) (Nat.le_of_ble_eq_true rfl) (fun r3 => ?_)
  refine E_goto (pc := 21) hx 32 dX10_count_21 rfl ?_
  exact E_iret (pc := 32) hx dX10_count_32 rfl rfl (Nat.le_of_ble_eq_true rfl)
set_option maxHeartbeats 4000000 in
set_option maxRecDepth 100000 in
theorem ev_X10_account (F : Nat) (a0 : Nat) (h0 : shK a0 = 10 + 8) (p1 : Int) (w : aI) : Ev yX10_account cX10_account 2 (some .int) 7 1 jvT [.ref a0, .int (oI p1)] (cm w) (f_X10_account F a0 p1 w) := by
  refine Ev.of (own := RX10) (by decide +kernel) rfl (Nat.le_of_ble_eq_true rfl) (fun x hx => ?_)
  show En x jvT 1 0 0 [(0, .ref a0), (1, .int (oI p1))] [] (cm w) _
  unfold f_X10_account
  refine E_aload_n (pc := 0) hx 0 dX10_account_0 rfl rfl ?_
  refine E_iload_n (pc := 1) hx 1 dX10_account_1 rfl rfl ?_
  refine I_iconst (pc := 2) hx 0 dX10_account_2 ?_
  refine I_bipush (pc := 3) hx 10 dX10_account_3 rfl ?_
  refine I_cVN (hcv := rfl) (pc := 5) hx [.int (oI p1), .int (oI 0), .int (oI 10)] [] (ev_X10_needNumber F a0 h0 p1 0 10 w) vm_X10_needNumber fc8 h0 (hx.ci h0 (Nat.le_of_ble_eq_true rfl)) g824 dX10_account_5 rfl rfl (Nat.le_of_ble_eq_true rfl) (Nat.le_of_ble_eq_true rfl) (Nat.le_of_ble_eq_true rfl) ?_
  refine E_aload_n (pc := 8) hx 0 dX10_account_8 rfl rfl ?_
  refine E_getR (pc := 9) hx 5 fc8 h0 (hx.ci h0 (Nat.le_of_ble_eq_true rfl)) rfl ⟨rfl, rfl, rfl⟩ g501 dX10_account_9 ?_
  refine E_getR (pc := 12) hx 8 fc2 (kt_8_5 h0) (hx.ci (kt_8_5 h0) (Nat.le_of_ble_eq_true rfl)) rfl ⟨rfl, rfl, rfl⟩ g151 dX10_account_12 ?_
  refine I_iconst (pc := 15) hx 0 dX10_account_15 ?_
  refine E_iload_n (pc := 16) hx 1 dX10_account_16 rfl rfl ?_
  refine I_cVI  (pc := 17) hx [.int (oI 0), .int (oI p1)] [] (ev_X7_get F (shR (shR a0 5) 8) (kt_2_8 (kt_8_5 h0)) 0 p1 w) vm_X7_get fc6 (kt_2_8 (kt_8_5 h0)) (hx.ci (kt_2_8 (kt_8_5 h0)) (Nat.le_of_ble_eq_true rfl)) g885 dX10_account_17 rfl rfl (Nat.le_of_ble_eq_true rfl) (Nat.le_of_ble_eq_true rfl) (Nat.le_of_ble_eq_true rfl) (fun r1 => ?_)
  exact E_iret (pc := 20) hx dX10_account_20 rfl rfl (Nat.le_of_ble_eq_true rfl)
set_option maxHeartbeats 4000000 in
set_option maxRecDepth 100000 in
theorem ev_X10_needRoof (F : Nat) (a0 : Nat) (h0 : shK a0 = 10 + 8) (p1 : Int) (w : aI) : Ev yX10_needRoof cX10_needRoof 2 none 6 1 (jvN w) [.ref a0, .int (oI p1)] (cm w) (f_X10_needRoof F a0 p1 w) := by
  refine Ev.of (own := RX10) (by decide +kernel) rfl (Nat.le_of_ble_eq_true rfl) (fun x hx => ?_)
  show En x (jvN w) 1 0 0 [(0, .ref a0), (1, .int (oI p1))] [] (cm w) _
  unfold f_X10_needRoof
  refine E_iload_n (pc := 0) hx 1 dX10_needRoof_0 rfl rfl ?_
  refine E_gd (fun hr1 => ?_)
  refine I_if_lt (pc := 1) hx 15 dX10_needRoof_1 rfl hr1 ?_ ?_
  · exact E_thrw (pc := 15) hx (i := 9) (text := xTx.getD 9 "") xtI (by decide +kernel) dX10_needRoof_15 dX10_needRoof_18 dX10_needRoof_19 dX10_needRoof_22 dX10_needRoof_25 (Nat.le_of_ble_eq_true rfl) (Nat.le_of_ble_eq_true rfl) (Nat.le_of_ble_eq_true rfl) rfl
  refine E_iload_n (pc := 4) hx 1 dX10_needRoof_4 rfl rfl ?_
  refine E_aload_n (pc := 5) hx 0 dX10_needRoof_5 rfl rfl ?_
  refine E_getR (pc := 6) hx 5 fc8 h0 (hx.ci h0 (Nat.le_of_ble_eq_true rfl)) rfl ⟨rfl, rfl, rfl⟩ g501 dX10_needRoof_6 ?_
  refine I_getI (pc := 9) hx 1 1 rfl fc2 (kt_8_5 h0) (hx.ci (kt_8_5 h0) (Nat.le_of_ble_eq_true rfl)) rfl ⟨rfl, rfl, rfl⟩ g129 dX10_needRoof_9 ?_
  refine E_gd (fun hr2 => ?_)
  refine I_icmp_lt (pc := 12) hx 26 dX10_needRoof_12 rfl ⟨hr1, hr2⟩ ?_ ?_
  · exact E_vret (pc := 26) hx dX10_needRoof_26 rfl rfl (Nat.le_of_ble_eq_true rfl)
  exact E_thrw (pc := 15) hx (i := 9) (text := xTx.getD 9 "") xtI (by decide +kernel) dX10_needRoof_15 dX10_needRoof_18 dX10_needRoof_19 dX10_needRoof_22 dX10_needRoof_25 (Nat.le_of_ble_eq_true rfl) (Nat.le_of_ble_eq_true rfl) (Nat.le_of_ble_eq_true rfl) rfl
set_option maxHeartbeats 4000000 in
set_option maxRecDepth 100000 in
theorem ev_X10_roof (F : Nat) (a0 : Nat) (h0 : shK a0 = 10 + 8) (p1 : Int) (p2 : Int) (w : aI) : Ev yX10_roof cX10_roof 3 (some .int) 7 2 jvT [.ref a0, .int (oI p1), .int (oI p2)] (cm w) (f_X10_roof F a0 p1 p2 w) := by
  refine Ev.of (own := RX10) (by decide +kernel) rfl (Nat.le_of_ble_eq_true rfl) (fun x hx => ?_)
  show En x jvT 2 0 0 [(0, .ref a0), (1, .int (oI p1)), (2, .int (oI p2))] [] (cm w) _
  unfold f_X10_roof
  refine E_aload_n (pc := 0) hx 0 dX10_roof_0 rfl rfl ?_
  refine E_iload_n (pc := 1) hx 1 dX10_roof_1 rfl rfl ?_
  refine I_cVN (hcv := rfl) (pc := 2) hx [.int (oI p1)] [] (ev_X10_needRoof F a0 h0 p1 w) vm_X10_needRoof fc8 h0 (hx.ci h0 (Nat.le_of_ble_eq_true rfl)) g694 dX10_roof_2 rfl rfl (Nat.le_of_ble_eq_true rfl) (Nat.le_of_ble_eq_true rfl) (Nat.le_of_ble_eq_true rfl) ?_
  refine E_aload_n (pc := 5) hx 0 dX10_roof_5 rfl rfl ?_
  refine E_iload_n (pc := 6) hx 2 dX10_roof_6 rfl rfl ?_
  refine I_iconst (pc := 7) hx 0 dX10_roof_7 ?_
  refine I_bipush (pc := 8) hx 7 dX10_roof_8 rfl ?_
  refine I_cVN (hcv := rfl) (pc := 10) hx [.int (oI p2), .int (oI 0), .int (oI 7)] [] (ev_X10_needNumber F a0 h0 p2 0 7 w) vm_X10_needNumber fc8 h0 (hx.ci h0 (Nat.le_of_ble_eq_true rfl)) g824 dX10_roof_10 rfl rfl (Nat.le_of_ble_eq_true rfl) (Nat.le_of_ble_eq_true rfl) (Nat.le_of_ble_eq_true rfl) ?_
  refine E_aload_n (pc := 13) hx 0 dX10_roof_13 rfl rfl ?_
  refine E_getR (pc := 14) hx 5 fc8 h0 (hx.ci h0 (Nat.le_of_ble_eq_true rfl)) rfl ⟨rfl, rfl, rfl⟩ g501 dX10_roof_14 ?_
  refine E_iload_n (pc := 17) hx 1 dX10_roof_17 rfl rfl ?_
  refine E_iload_n (pc := 18) hx 2 dX10_roof_18 rfl rfl ?_
  refine I_cVI  (pc := 19) hx [.int (oI p1), .int (oI p2)] [] (ev_X2_numberOfRoof F (shR a0 5) (kt_8_5 h0) p1 p2 w) vm_X2_numberOfRoof fc2 (kt_8_5 h0) (hx.ci (kt_8_5 h0) (Nat.le_of_ble_eq_true rfl)) g1038 dX10_roof_19 rfl rfl (Nat.le_of_ble_eq_true rfl) (Nat.le_of_ble_eq_true rfl) (Nat.le_of_ble_eq_true rfl) (fun r1 => ?_)
  exact E_iret (pc := 22) hx dX10_roof_22 rfl rfl (Nat.le_of_ble_eq_true rfl)
set_option maxHeartbeats 4000000 in
set_option maxRecDepth 100000 in
theorem ev_X10_route (F : Nat) (a0 : Nat) (h0 : shK a0 = 10 + 8) (p1 : Int) (p2 : Int) (w : aI) : Ev yX10_route cX10_route 4 (some .int) 7 2 jvT [.ref a0, .int (oI p1), .int (oI p2)] (cm w) (f_X10_route F a0 p1 p2 w) := by
  refine Ev.of (own := RX10) (by decide +kernel) rfl (Nat.le_of_ble_eq_true rfl) (fun x hx => ?_)
  show En x jvT 2 0 0 [(0, .ref a0), (1, .int (oI p1)), (2, .int (oI p2))] [] (cm w) _
  unfold f_X10_route
  refine E_aload_n (pc := 0) hx 0 dX10_route_0 rfl rfl ?_
  refine E_iload_n (pc := 1) hx 1 dX10_route_1 rfl rfl ?_
  refine I_cVN (hcv := rfl) (pc := 2) hx [.int (oI p1)] [] (ev_X10_needRoof F a0 h0 p1 w) vm_X10_needRoof fc8 h0 (hx.ci h0 (Nat.le_of_ble_eq_true rfl)) g694 dX10_route_2 rfl rfl (Nat.le_of_ble_eq_true rfl) (Nat.le_of_ble_eq_true rfl) (Nat.le_of_ble_eq_true rfl) ?_
  refine E_aload_n (pc := 5) hx 0 dX10_route_5 rfl rfl ?_
  refine E_iload_n (pc := 6) hx 2 dX10_route_6 rfl rfl ?_
  refine I_cVN (hcv := rfl) (pc := 7) hx [.int (oI p2)] [] (ev_X10_needRoof F a0 h0 p2 w) vm_X10_needRoof fc8 h0 (hx.ci h0 (Nat.le_of_ble_eq_true rfl)) g694 dX10_route_7 rfl rfl (Nat.le_of_ble_eq_true rfl) (Nat.le_of_ble_eq_true rfl) (Nat.le_of_ble_eq_true rfl) ?_
  refine E_aload_n (pc := 10) hx 0 dX10_route_10 rfl rfl ?_
  refine E_getR (pc := 11) hx 5 fc8 h0 (hx.ci h0 (Nat.le_of_ble_eq_true rfl)) rfl ⟨rfl, rfl, rfl⟩ g501 dX10_route_11 ?_
  refine E_getR (pc := 14) hx 9 fc2 (kt_8_5 h0) (hx.ci (kt_8_5 h0) (Nat.le_of_ble_eq_true rfl)) rfl ⟨rfl, rfl, rfl⟩ g155 dX10_route_14 ?_
  refine E_getR (pc := 17) hx 1 fc3 (kt_2_9 (kt_8_5 h0)) (hx.ci (kt_2_9 (kt_8_5 h0)) (Nat.le_of_ble_eq_true rfl)) rfl ⟨rfl, rfl, rfl⟩ g111 dX10_route_17 ?_
  refine E_iload_n (pc := 20) hx 1 dX10_route_20 rfl rfl ?_
  refine E_iload_n (pc := 21) hx 2 dX10_route_21 rfl rfl ?_
  refine I_cVI  (pc := 22) hx [.int (oI p1), .int (oI p2)] [] (ev_X7_get F (shR (shR (shR a0 5) 9) 1) (kt_3_1 (kt_2_9 (kt_8_5 h0))) p1 p2 w) vm_X7_get fc6 (kt_3_1 (kt_2_9 (kt_8_5 h0))) (hx.ci (kt_3_1 (kt_2_9 (kt_8_5 h0))) (Nat.le_of_ble_eq_true rfl)) g885 dX10_route_22 rfl rfl (Nat.le_of_ble_eq_true rfl) (Nat.le_of_ble_eq_true rfl) (Nat.le_of_ble_eq_true rfl) (fun r1 => ?_)
  refine E_istore_n (pc := 25) hx dX10_route_25 rfl (Nat.le_of_ble_eq_true rfl) rfl ?_
  refine E_iload_n (pc := 26) hx 0 dX10_route_26 rfl rfl ?_
  refine I_sipush (pc := 27) hx 9999 dX10_route_27 rfl ?_
  refine E_gd (fun hr2 => ?_)
  refine I_icmp_ge (pc := 30) hx 37 dX10_route_30 rfl ⟨hr2, (by decide)⟩ ?_ ?_
  · refine I_iconst (pc := 37) hx (-1) dX10_route_37 ?_
    exact E_iret (pc := 38) hx dX10_route_38 rfl rfl (Nat.le_of_ble_eq_true rfl)
  refine E_iload_n (pc := 33) hx 0 dX10_route_33 rfl rfl ?_
  refine E_goto (pc := 34) hx 38 dX10_route_34 rfl ?_
  exact E_iret (pc := 38) hx dX10_route_38 rfl rfl (Nat.le_of_ble_eq_true rfl)
set_option maxHeartbeats 4000000 in
set_option maxRecDepth 100000 in
theorem ev_X10_next (F : Nat) (a0 : Nat) (h0 : shK a0 = 10 + 8) (p1 : Int) (p2 : Int) (w : aI) : Ev yX10_next cX10_next 3 (some .int) 7 2 jvT [.ref a0, .int (oI p1), .int (oI p2)] (cm w) (f_X10_next F a0 p1 p2 w) := by
  refine Ev.of (own := RX10) (by decide +kernel) rfl (Nat.le_of_ble_eq_true rfl) (fun x hx => ?_)
  show En x jvT 2 0 0 [(0, .ref a0), (1, .int (oI p1)), (2, .int (oI p2))] [] (cm w) _
  unfold f_X10_next
  refine E_aload_n (pc := 0) hx 0 dX10_next_0 rfl rfl ?_
  refine E_iload_n (pc := 1) hx 1 dX10_next_1 rfl rfl ?_
  refine I_cVN (hcv := rfl) (pc := 2) hx [.int (oI p1)] [] (ev_X10_needRoof F a0 h0 p1 w) vm_X10_needRoof fc8 h0 (hx.ci h0 (Nat.le_of_ble_eq_true rfl)) g694 dX10_next_2 rfl rfl (Nat.le_of_ble_eq_true rfl) (Nat.le_of_ble_eq_true rfl) (Nat.le_of_ble_eq_true rfl) ?_
  refine E_aload_n (pc := 5) hx 0 dX10_next_5 rfl rfl ?_
  refine E_iload_n (pc := 6) hx 2 dX10_next_6 rfl rfl ?_
  refine I_cVN (hcv := rfl) (pc := 7) hx [.int (oI p2)] [] (ev_X10_needRoof F a0 h0 p2 w) vm_X10_needRoof fc8 h0 (hx.ci h0 (Nat.le_of_ble_eq_true rfl)) g694 dX10_next_7 rfl rfl (Nat.le_of_ble_eq_true rfl) (Nat.le_of_ble_eq_true rfl) (Nat.le_of_ble_eq_true rfl) ?_
  refine E_aload_n (pc := 10) hx 0 dX10_next_10 rfl rfl ?_
  refine E_getR (pc := 11) hx 5 fc8 h0 (hx.ci h0 (Nat.le_of_ble_eq_true rfl)) rfl ⟨rfl, rfl, rfl⟩ g501 dX10_next_11 ?_
  refine E_getR (pc := 14) hx 9 fc2 (kt_8_5 h0) (hx.ci (kt_8_5 h0) (Nat.le_of_ble_eq_true rfl)) rfl ⟨rfl, rfl, rfl⟩ g155 dX10_next_14 ?_
  refine E_getR (pc := 17) hx 2 fc3 (kt_2_9 (kt_8_5 h0)) (hx.ci (kt_2_9 (kt_8_5 h0)) (Nat.le_of_ble_eq_true rfl)) rfl ⟨rfl, rfl, rfl⟩ g113 dX10_next_17 ?_
  refine E_iload_n (pc := 20) hx 1 dX10_next_20 rfl rfl ?_
  refine E_iload_n (pc := 21) hx 2 dX10_next_21 rfl rfl ?_
  refine I_cVI  (pc := 22) hx [.int (oI p1), .int (oI p2)] [] (ev_X7_get F (shR (shR (shR a0 5) 9) 2) (kt_3_2 (kt_2_9 (kt_8_5 h0))) p1 p2 w) vm_X7_get fc6 (kt_3_2 (kt_2_9 (kt_8_5 h0))) (hx.ci (kt_3_2 (kt_2_9 (kt_8_5 h0))) (Nat.le_of_ble_eq_true rfl)) g885 dX10_next_22 rfl rfl (Nat.le_of_ble_eq_true rfl) (Nat.le_of_ble_eq_true rfl) (Nat.le_of_ble_eq_true rfl) (fun r1 => ?_)
  exact E_iret (pc := 25) hx dX10_next_25 rfl rfl (Nat.le_of_ble_eq_true rfl)
set_option maxHeartbeats 4000000 in
set_option maxRecDepth 100000 in
theorem ev_X10_needTune (F : Nat) (a0 : Nat) (h0 : shK a0 = 10 + 8) (p1 : Int) (w : aI) : Ev yX10_needTune cX10_needTune 2 none 6 1 (jvN w) [.ref a0, .int (oI p1)] (cm w) (f_X10_needTune F a0 p1 w) := by
  refine Ev.of (own := RX10) (by decide +kernel) rfl (Nat.le_of_ble_eq_true rfl) (fun x hx => ?_)
  show En x (jvN w) 1 0 0 [(0, .ref a0), (1, .int (oI p1))] [] (cm w) _
  unfold f_X10_needTune
  refine E_iload_n (pc := 0) hx 1 dX10_needTune_0 rfl rfl ?_
  refine E_gd (fun hr1 => ?_)
  refine I_if_lt (pc := 1) hx 15 dX10_needTune_1 rfl hr1 ?_ ?_
  · exact E_thrw (pc := 15) hx (i := 10) (text := xTx.getD 10 "") xtI (by decide +kernel) dX10_needTune_15 dX10_needTune_18 dX10_needTune_19 dX10_needTune_22 dX10_needTune_25 (Nat.le_of_ble_eq_true rfl) (Nat.le_of_ble_eq_true rfl) (Nat.le_of_ble_eq_true rfl) rfl
  refine E_iload_n (pc := 4) hx 1 dX10_needTune_4 rfl rfl ?_
  refine E_aload_n (pc := 5) hx 0 dX10_needTune_5 rfl rfl ?_
  refine E_getR (pc := 6) hx 5 fc8 h0 (hx.ci h0 (Nat.le_of_ble_eq_true rfl)) rfl ⟨rfl, rfl, rfl⟩ g501 dX10_needTune_6 ?_
  refine I_getI (pc := 9) hx 3 3 rfl fc2 (kt_8_5 h0) (hx.ci (kt_8_5 h0) (Nat.le_of_ble_eq_true rfl)) rfl ⟨rfl, rfl, rfl⟩ g137 dX10_needTune_9 ?_
  refine E_gd (fun hr2 => ?_)
  refine I_icmp_lt (pc := 12) hx 26 dX10_needTune_12 rfl ⟨hr1, hr2⟩ ?_ ?_
  · exact E_vret (pc := 26) hx dX10_needTune_26 rfl rfl (Nat.le_of_ble_eq_true rfl)
  exact E_thrw (pc := 15) hx (i := 10) (text := xTx.getD 10 "") xtI (by decide +kernel) dX10_needTune_15 dX10_needTune_18 dX10_needTune_19 dX10_needTune_22 dX10_needTune_25 (Nat.le_of_ble_eq_true rfl) (Nat.le_of_ble_eq_true rfl) (Nat.le_of_ble_eq_true rfl) rfl
set_option maxHeartbeats 4000000 in
set_option maxRecDepth 100000 in
theorem ev_X10_tune (F : Nat) (a0 : Nat) (h0 : shK a0 = 10 + 8) (p1 : Int) (p2 : Int) (w : aI) : Ev yX10_tune cX10_tune 3 (some .int) 7 2 jvT [.ref a0, .int (oI p1), .int (oI p2)] (cm w) (f_X10_tune F a0 p1 p2 w) := by
  refine Ev.of (own := RX10) (by decide +kernel) rfl (Nat.le_of_ble_eq_true rfl) (fun x hx => ?_)
  show En x jvT 2 0 0 [(0, .ref a0), (1, .int (oI p1)), (2, .int (oI p2))] [] (cm w) _
  unfold f_X10_tune
  refine E_aload_n (pc := 0) hx 0 dX10_tune_0 rfl rfl ?_
  refine E_iload_n (pc := 1) hx 1 dX10_tune_1 rfl rfl ?_
  refine I_cVN (hcv := rfl) (pc := 2) hx [.int (oI p1)] [] (ev_X10_needTune F a0 h0 p1 w) vm_X10_needTune fc8 h0 (hx.ci h0 (Nat.le_of_ble_eq_true rfl)) g1062 dX10_tune_2 rfl rfl (Nat.le_of_ble_eq_true rfl) (Nat.le_of_ble_eq_true rfl) (Nat.le_of_ble_eq_true rfl) ?_
  refine E_aload_n (pc := 5) hx 0 dX10_tune_5 rfl rfl ?_
  refine E_iload_n (pc := 6) hx 2 dX10_tune_6 rfl rfl ?_
  refine I_iconst (pc := 7) hx 0 dX10_tune_7 ?_
  refine I_bipush (pc := 8) hx 11 dX10_tune_8 rfl ?_
  refine I_cVN (hcv := rfl) (pc := 10) hx [.int (oI p2), .int (oI 0), .int (oI 11)] [] (ev_X10_needNumber F a0 h0 p2 0 11 w) vm_X10_needNumber fc8 h0 (hx.ci h0 (Nat.le_of_ble_eq_true rfl)) g824 dX10_tune_10 rfl rfl (Nat.le_of_ble_eq_true rfl) (Nat.le_of_ble_eq_true rfl) (Nat.le_of_ble_eq_true rfl) ?_
  refine E_aload_n (pc := 13) hx 0 dX10_tune_13 rfl rfl ?_
  refine E_getR (pc := 14) hx 5 fc8 h0 (hx.ci h0 (Nat.le_of_ble_eq_true rfl)) rfl ⟨rfl, rfl, rfl⟩ g501 dX10_tune_14 ?_
  refine E_iload_n (pc := 17) hx 1 dX10_tune_17 rfl rfl ?_
  refine E_iload_n (pc := 18) hx 2 dX10_tune_18 rfl rfl ?_
  refine I_cVI  (pc := 19) hx [.int (oI p1), .int (oI p2)] [] (ev_X2_numberOfTune F (shR a0 5) (kt_8_5 h0) p1 p2 w) vm_X2_numberOfTune fc2 (kt_8_5 h0) (hx.ci (kt_8_5 h0) (Nat.le_of_ble_eq_true rfl)) g1067 dX10_tune_19 rfl rfl (Nat.le_of_ble_eq_true rfl) (Nat.le_of_ble_eq_true rfl) (Nat.le_of_ble_eq_true rfl) (fun r1 => ?_)
  exact E_iret (pc := 22) hx dX10_tune_22 rfl rfl (Nat.le_of_ble_eq_true rfl)
set_option maxHeartbeats 4000000 in
set_option maxRecDepth 100000 in
theorem ev_X10_note (F : Nat) (a0 : Nat) (h0 : shK a0 = 10 + 8) (p1 : Int) (p2 : Int) (p3 : Int) (w : aI) : Ev yX10_note cX10_note 4 (some .int) 7 1 jvT [.ref a0, .int (oI p1), .int (oI p2), .int (oI p3)] (cm w) (f_X10_note F a0 p1 p2 p3 w) := by
  refine Ev.of (own := RX10) (by decide +kernel) rfl (Nat.le_of_ble_eq_true rfl) (fun x hx => ?_)
  show En x jvT 1 0 0 [(0, .ref a0), (1, .int (oI p1)), (2, .int (oI p2)), (3, .int (oI p3))] [] (cm w) _
  unfold f_X10_note
  refine E_aload_n (pc := 0) hx 0 dX10_note_0 rfl rfl ?_
  refine E_iload_n (pc := 1) hx 1 dX10_note_1 rfl rfl ?_
  refine I_cVN (hcv := rfl) (pc := 2) hx [.int (oI p1)] [] (ev_X10_needTune F a0 h0 p1 w) vm_X10_needTune fc8 h0 (hx.ci h0 (Nat.le_of_ble_eq_true rfl)) g1062 dX10_note_2 rfl rfl (Nat.le_of_ble_eq_true rfl) (Nat.le_of_ble_eq_true rfl) (Nat.le_of_ble_eq_true rfl) ?_
  refine E_iload_n (pc := 5) hx 2 dX10_note_5 rfl rfl ?_
  refine E_gd (fun hr1 => ?_)
  refine I_if_lt (pc := 6) hx 25 dX10_note_6 rfl hr1 ?_ ?_
  · refine I_iconst (pc := 25) hx (-1) dX10_note_25 ?_
    exact E_iret (pc := 26) hx dX10_note_26 rfl rfl (Nat.le_of_ble_eq_true rfl)
  refine E_iload_n (pc := 9) hx 2 dX10_note_9 rfl rfl ?_
  refine E_aload_n (pc := 10) hx 0 dX10_note_10 rfl rfl ?_
  refine E_getR (pc := 11) hx 5 fc8 h0 (hx.ci h0 (Nat.le_of_ble_eq_true rfl)) rfl ⟨rfl, rfl, rfl⟩ g501 dX10_note_11 ?_
  refine E_getR (pc := 14) hx 6 fc2 (kt_8_5 h0) (hx.ci (kt_8_5 h0) (Nat.le_of_ble_eq_true rfl)) rfl ⟨rfl, rfl, rfl⟩ g147 dX10_note_14 ?_
  refine E_iload_n (pc := 17) hx 1 dX10_note_17 rfl rfl ?_
  refine I_iconst (pc := 18) hx 2 dX10_note_18 ?_
  refine I_cVI  (pc := 19) hx [.int (oI p1), .int (oI 2)] [.int (oI p2)] (ev_X7_get F (shR (shR a0 5) 6) (kt_2_6 (kt_8_5 h0)) p1 2 w) vm_X7_get fc6 (kt_2_6 (kt_8_5 h0)) (hx.ci (kt_2_6 (kt_8_5 h0)) (Nat.le_of_ble_eq_true rfl)) g885 dX10_note_19 rfl rfl (Nat.le_of_ble_eq_true rfl) (Nat.le_of_ble_eq_true rfl) (Nat.le_of_ble_eq_true rfl) (fun r2 => ?_)
  refine E_gd (fun hr3 => ?_)
  refine I_icmp_lt (pc := 22) hx 27 dX10_note_22 rfl ⟨hr1, hr3⟩ ?_ ?_
  · refine E_aload_n (pc := 27) hx 0 dX10_note_27 rfl rfl ?_
    refine E_getR (pc := 28) hx 5 fc8 h0 (hx.ci h0 (Nat.le_of_ble_eq_true rfl)) rfl ⟨rfl, rfl, rfl⟩ g501 dX10_note_28 ?_
    refine E_getR (pc := 31) hx 6 fc2 (kt_8_5 h0) (hx.ci (kt_8_5 h0) (Nat.le_of_ble_eq_true rfl)) rfl ⟨rfl, rfl, rfl⟩ g147 dX10_note_31 ?_
    refine E_iload_n (pc := 34) hx 1 dX10_note_34 rfl rfl ?_
    refine E_iload_n (pc := 35) hx 3 dX10_note_35 rfl rfl ?_
    refine E_gd (fun hr4 => ?_)
    refine I_if_eq (pc := 36) hx 44 dX10_note_36 rfl hr4 ?_ ?_
    · refine I_bipush (pc := 44) hx 9 dX10_note_44 rfl ?_
      refine I_cVI  (pc := 46) hx [.int (oI p1), .int (oI 9)] [] (ev_X7_get F (shR (shR a0 5) 6) (kt_2_6 (kt_8_5 h0)) p1 9 w) vm_X7_get fc6 (kt_2_6 (kt_8_5 h0)) (hx.ci (kt_2_6 (kt_8_5 h0)) (Nat.le_of_ble_eq_true rfl)) g885 dX10_note_46 rfl rfl (Nat.le_of_ble_eq_true rfl) (Nat.le_of_ble_eq_true rfl) (Nat.le_of_ble_eq_true rfl) (fun r5 => ?_)
      refine E_iload_n (pc := 49) hx 2 dX10_note_49 rfl rfl ?_
      refine I_cSI  (pc := 50) hx [.int (oI r5), .int (oI p2)] [] (ev_X10_noteOf F r5 p2 w) sm_X10_noteOf g1080 dX10_note_50 rfl rfl (Nat.le_of_ble_eq_true rfl) (Nat.le_of_ble_eq_true rfl) (Nat.le_of_ble_eq_true rfl) (fun r6 => ?_)
      exact E_iret (pc := 53) hx dX10_note_53 rfl rfl (Nat.le_of_ble_eq_true rfl)
    refine I_bipush (pc := 39) hx 10 dX10_note_39 rfl ?_
    refine E_goto (pc := 41) hx 46 dX10_note_41 rfl ?_
    refine I_cVI  (pc := 46) hx [.int (oI p1), .int (oI 10)] [] (ev_X7_get F (shR (shR a0 5) 6) (kt_2_6 (kt_8_5 h0)) p1 10 w) vm_X7_get fc6 (kt_2_6 (kt_8_5 h0)) (hx.ci (kt_2_6 (kt_8_5 h0)) (Nat.le_of_ble_eq_true rfl)) g885 dX10_note_46 rfl rfl (Nat.le_of_ble_eq_true rfl) (Nat.le_of_ble_eq_true rfl) (Nat.le_of_ble_eq_true rfl) (fun r7 => ?_)
    refine E_iload_n (pc := 49) hx 2 dX10_note_49 rfl rfl ?_
    refine I_cSI  (pc := 50) hx [.int (oI r7), .int (oI p2)] [] (ev_X10_noteOf F r7 p2 w) sm_X10_noteOf g1080 dX10_note_50 rfl rfl (Nat.le_of_ble_eq_true rfl) (Nat.le_of_ble_eq_true rfl) (Nat.le_of_ble_eq_true rfl) (fun r8 => ?_)
    exact E_iret (pc := 53) hx dX10_note_53 rfl rfl (Nat.le_of_ble_eq_true rfl)
  refine I_iconst (pc := 25) hx (-1) dX10_note_25 ?_
  exact E_iret (pc := 26) hx dX10_note_26 rfl rfl (Nat.le_of_ble_eq_true rfl)
set_option maxHeartbeats 4000000 in
set_option maxRecDepth 100000 in
theorem ev_X10_agree (F : Nat) (a0 : Nat) (h0 : shK a0 = 10 + 8) (w : aI) : Ev yX10_agree cX10_agree 1 (some .boolean) 3 0 jvBW [.ref a0] (cm w) (f_X10_agree F a0 w) := by
  refine Ev.of (own := RX10) (by decide +kernel) rfl (Nat.le_of_ble_eq_true rfl) (fun x hx => ?_)
  show En x jvBW 0 0 0 [(0, .ref a0)] [] (cm w) _
  unfold f_X10_agree
  refine E_aload_n (pc := 0) hx 0 dX10_agree_0 rfl rfl ?_
  refine E_getR (pc := 1) hx 7 fc8 h0 (hx.ci h0 (Nat.le_of_ble_eq_true rfl)) rfl ⟨rfl, rfl, rfl⟩ g503 dX10_agree_1 ?_
  refine E_getR (pc := 4) hx 9 fc2 (kt_8_7 h0) (hx.ci (kt_8_7 h0) (Nat.le_of_ble_eq_true rfl)) rfl ⟨rfl, rfl, rfl⟩ g155 dX10_agree_4 ?_
  refine E_aload_n (pc := 7) hx 0 dX10_agree_7 rfl rfl ?_
  refine E_getR (pc := 8) hx 5 fc8 h0 (hx.ci h0 (Nat.le_of_ble_eq_true rfl)) rfl ⟨rfl, rfl, rfl⟩ g501 dX10_agree_8 ?_
  refine I_cVV  (pc := 11) hx [.ref (shR a0 5)] [] (ev_X3_sumByWays F (shR (shR a0 7) 9) (kt_2_9 (kt_8_7 h0)) (shR a0 5) (kt_8_5 h0) w) vm_X3_sumByWays fc3 (kt_2_9 (kt_8_7 h0)) (hx.ci (kt_2_9 (kt_8_7 h0)) (Nat.le_of_ble_eq_true rfl)) g1085 dX10_agree_11 rfl rfl (Nat.le_of_ble_eq_true rfl) (Nat.le_of_ble_eq_true rfl) (Nat.le_of_ble_eq_true rfl) (fun w1 => ?_)
  refine E_aload_n (pc := 14) hx 0 dX10_agree_14 rfl rfl ?_
  refine E_getR (pc := 15) hx 5 fc8 h0 (hx.ci h0 (Nat.le_of_ble_eq_true rfl)) rfl ⟨rfl, rfl, rfl⟩ g501 dX10_agree_15 ?_
  refine E_getR (pc := 18) hx 9 fc2 (kt_8_5 h0) (hx.ci (kt_8_5 h0) (Nat.le_of_ble_eq_true rfl)) rfl ⟨rfl, rfl, rfl⟩ g155 dX10_agree_18 ?_
  refine E_aload_n (pc := 21) hx 0 dX10_agree_21 rfl rfl ?_
  refine E_getR (pc := 22) hx 7 fc8 h0 (hx.ci h0 (Nat.le_of_ble_eq_true rfl)) rfl ⟨rfl, rfl, rfl⟩ g503 dX10_agree_22 ?_
  refine E_getR (pc := 25) hx 9 fc2 (kt_8_7 h0) (hx.ci (kt_8_7 h0) (Nat.le_of_ble_eq_true rfl)) rfl ⟨rfl, rfl, rfl⟩ g155 dX10_agree_25 ?_
  refine E_aload_n (pc := 28) hx 0 dX10_agree_28 rfl rfl ?_
  refine E_getR (pc := 29) hx 5 fc8 h0 (hx.ci h0 (Nat.le_of_ble_eq_true rfl)) rfl ⟨rfl, rfl, rfl⟩ g501 dX10_agree_29 ?_
  refine I_getI (pc := 32) hx 1 1 rfl fc2 (kt_8_5 h0) (hx.ci (kt_8_5 h0) (Nat.le_of_ble_eq_true rfl)) rfl ⟨rfl, rfl, rfl⟩ g129 dX10_agree_32 ?_
  refine I_cVB  (pc := 35) hx [.ref (shR (shR a0 7) 9), .int (oI (w1 (shR a0 5) 1))] [] (ev_X3_hasSameSums F (shR (shR a0 5) 9) (kt_2_9 (kt_8_5 h0)) (shR (shR a0 7) 9) (kt_2_9 (kt_8_7 h0)) (w1 (shR a0 5) 1) w1) vm_X3_hasSameSums fc3 (kt_2_9 (kt_8_5 h0)) (hx.ci (kt_2_9 (kt_8_5 h0)) (Nat.le_of_ble_eq_true rfl)) g1089 dX10_agree_35 rfl rfl (Nat.le_of_ble_eq_true rfl) (Nat.le_of_ble_eq_true rfl) (Nat.le_of_ble_eq_true rfl) (fun r2 => ?_)
  refine I_ifB_eq (pc := 38) hx 65 dX10_agree_38 rfl ?_ ?_
  · refine I_iconst (pc := 65) hx 0 dX10_agree_65 ?_
    exact E_zret (pc := 66) hx dX10_agree_66 rfl rfl rfl (Nat.le_of_ble_eq_true rfl)
  refine E_aload_n (pc := 41) hx 0 dX10_agree_41 rfl rfl ?_
  refine E_getR (pc := 42) hx 5 fc8 h0 (hx.ci h0 (Nat.le_of_ble_eq_true rfl)) rfl ⟨rfl, rfl, rfl⟩ g501 dX10_agree_42 ?_
  refine I_cSB  (pc := 45) hx [.ref (shR a0 5)] [] (ev_X6_areTunesRight F (shR a0 5) (kt_8_5 h0) w1) sm_X6_areTunesRight g1093 dX10_agree_45 rfl rfl (Nat.le_of_ble_eq_true rfl) (Nat.le_of_ble_eq_true rfl) (Nat.le_of_ble_eq_true rfl) (fun r3 => ?_)
  refine I_ifB_eq (pc := 48) hx 65 dX10_agree_48 rfl ?_ ?_
  · refine I_iconst (pc := 65) hx 0 dX10_agree_65 ?_
    exact E_zret (pc := 66) hx dX10_agree_66 rfl rfl rfl (Nat.le_of_ble_eq_true rfl)
  refine E_aload_n (pc := 51) hx 0 dX10_agree_51 rfl rfl ?_
  refine E_getR (pc := 52) hx 5 fc8 h0 (hx.ci h0 (Nat.le_of_ble_eq_true rfl)) rfl ⟨rfl, rfl, rfl⟩ g501 dX10_agree_52 ?_
  refine I_cSB  (pc := 55) hx [.ref (shR a0 5)] [] (ev_X6_areAccountsRight F (shR a0 5) (kt_8_5 h0) w1) sm_X6_areAccountsRight g1097 dX10_agree_55 rfl rfl (Nat.le_of_ble_eq_true rfl) (Nat.le_of_ble_eq_true rfl) (Nat.le_of_ble_eq_true rfl) (fun r4 => ?_)
  refine I_ifB_eq (pc := 58) hx 65 dX10_agree_58 rfl ?_ ?_
  · refine I_iconst (pc := 65) hx 0 dX10_agree_65 ?_
    exact E_zret (pc := 66) hx dX10_agree_66 rfl rfl rfl (Nat.le_of_ble_eq_true rfl)
  refine I_iconst (pc := 61) hx 1 dX10_agree_61 ?_
  refine E_goto (pc := 62) hx 66 dX10_agree_62 rfl ?_
  exact E_zret (pc := 66) hx dX10_agree_66 rfl rfl rfl (Nat.le_of_ble_eq_true rfl)
set_option maxHeartbeats 4000000 in
set_option maxRecDepth 100000 in
theorem l_X10_areDigitsNotes_b2_b {x : Cx} (F : Nat) (p0 : Int) (w : aI) (hx : CxOK x RX10 cX10_areDigitsNotes 2 0 0 (some .boolean))  (k2 : Int → Option Bool) (hk2 : ∀ (v1 : Int), En x (jvB w) 0 0 2 [(1, .int (oI v1))] [] (cm w) (k2 v1)) (v1 : Int)  : En x (jvB w) 0 0 2 [(1, .int (oI v1))] [] (cm w) (f_X10_areDigitsNotes_b2_b F p0 w  k2 v1) := by
  unfold f_X10_areDigitsNotes_b2_b
  refine E_iload_n (pc := 2) hx 0 dX10_areDigitsNotes_2 rfl rfl ?_
  refine E_gd (fun hr1 => ?_)
  refine I_if_le (pc := 3) hx 25 dX10_areDigitsNotes_3 rfl hr1 ?_ ?_
  · refine I_iconst (pc := 25) hx 1 dX10_areDigitsNotes_25 ?_
    exact E_zret (pc := 26) hx dX10_areDigitsNotes_26 rfl rfl rfl (Nat.le_of_ble_eq_true rfl)
  refine E_iload_n (pc := 6) hx 0 dX10_areDigitsNotes_6 rfl rfl ?_
  refine I_bipush (pc := 7) hx 10 dX10_areDigitsNotes_7 rfl ?_
  refine I_irem (pc := 9) hx dX10_areDigitsNotes_9 ⟨hr1, (by decide), (by decide)⟩ ?_
  refine I_bipush (pc := 10) hx 7 dX10_areDigitsNotes_10 rfl ?_
  refine E_gd (fun hr2 => ?_)
  refine I_icmp_le (pc := 12) hx 17 dX10_areDigitsNotes_12 rfl ⟨hr2, (by decide)⟩ ?_ ?_
  · refine E_iload_n (pc := 17) hx 0 dX10_areDigitsNotes_17 rfl rfl ?_
    refine I_bipush (pc := 18) hx 10 dX10_areDigitsNotes_18 rfl ?_
    refine I_idiv (pc := 20) hx dX10_areDigitsNotes_20 ⟨hr1, (by decide), (by decide)⟩ ?_
    refine I_ltv (fun v1_3 => ?_)
    refine E_istore_n (pc := 21) hx dX10_areDigitsNotes_21 rfl (Nat.le_of_ble_eq_true rfl) rfl ?_
    refine E_goto (pc := 22) hx 2 dX10_areDigitsNotes_22 rfl ?_
    exact hk2 v1_3
  refine I_iconst (pc := 15) hx 0 dX10_areDigitsNotes_15 ?_
  exact E_zret (pc := 16) hx dX10_areDigitsNotes_16 rfl rfl rfl (Nat.le_of_ble_eq_true rfl)
theorem l_X10_areDigitsNotes_b2 {x : Cx} (F : Nat) (p0 : Int) (w : aI) (hx : CxOK x RX10 cX10_areDigitsNotes 2 0 0 (some .boolean))  : ∀ (n : Nat) (v1 : Int), En x (jvB w) 0 0 2 [(1, .int (oI v1))] [] (cm w) (f_X10_areDigitsNotes_b2 F p0 w  n v1) := by
  intro n
  induction n with
  | zero => intro v1; exact E_none
  | succ n ih => intro v1; exact l_X10_areDigitsNotes_b2_b F p0 w hx  _ ih v1
set_option maxHeartbeats 4000000 in
set_option maxRecDepth 100000 in
theorem ev_X10_areDigitsNotes (F : Nat) (p0 : Int) (w : aI) : Ev yX10_areDigitsNotes cX10_areDigitsNotes 2 (some .boolean) 0 0 (jvB w) [.int (oI p0)] (cm w) (f_X10_areDigitsNotes F p0 w) := by
  refine Ev.of (own := RX10) (by decide +kernel) rfl (Nat.le_of_ble_eq_true rfl) (fun x hx => ?_)
  show En x (jvB w) 0 0 0 [(0, .int (oI p0))] [] (cm w) _
  unfold f_X10_areDigitsNotes
  refine E_iload_n (pc := 0) hx 0 dX10_areDigitsNotes_0 rfl rfl ?_
  refine E_istore_n (pc := 1) hx dX10_areDigitsNotes_1 rfl (Nat.le_of_ble_eq_true rfl) rfl ?_
  refine En.sub [0] rfl ?_
  exact l_X10_areDigitsNotes_b2 F p0 w hx F p0
set_option maxHeartbeats 4000000 in
set_option maxRecDepth 100000 in
theorem l_X10_digitsOf_b7_b {x : Cx} (F : Nat) (p0 : Int) (w : aI) (hx : CxOK x RX10 cX10_digitsOf 3 0 0 (some .int))  (k7 : Int → Int → Option Int) (hk7 : ∀ (v1 : Int) (v2 : Int), En x (jvI w) 0 0 7 [(1, .int (oI v1)), (2, .int (oI v2))] [] (cm w) (k7 v1 v2)) (v1 : Int) (v2 : Int)  : En x (jvI w) 0 0 7 [(1, .int (oI v1)), (2, .int (oI v2))] [] (cm w) (f_X10_digitsOf_b7_b F p0 w  k7 v1 v2) := by
  unfold f_X10_digitsOf_b7_b
  refine E_iload_n (pc := 7) hx 1 dX10_digitsOf_7 rfl rfl ?_
  refine E_gd (fun hr3 => ?_)
  refine I_if_le (pc := 8) hx 22 dX10_digitsOf_8 rfl hr3 ?_ ?_
  · refine E_iload_n (pc := 22) hx 0 dX10_digitsOf_22 rfl rfl ?_
    exact E_iret (pc := 23) hx dX10_digitsOf_23 rfl rfl (Nat.le_of_ble_eq_true rfl)
  refine I_iinc (pc := 11) hx 1 0 dX10_digitsOf_11 rfl (Nat.le_of_ble_eq_true rfl) rfl ?_
  refine E_iload_n (pc := 14) hx 1 dX10_digitsOf_14 rfl rfl ?_
  refine I_bipush (pc := 15) hx 10 dX10_digitsOf_15 rfl ?_
  refine I_idiv (pc := 17) hx dX10_digitsOf_17 ⟨hr3, (by decide), (by decide)⟩ ?_
  refine I_ltv (fun v2_4 => ?_)
  refine E_istore_n (pc := 18) hx dX10_digitsOf_18 rfl (Nat.le_of_ble_eq_true rfl) rfl ?_
  refine E_goto (pc := 19) hx 7 dX10_digitsOf_19 rfl ?_
  refine En.sub [1, 0] rfl ?_
  exact hk7 (v1 + 1) v2_4
theorem l_X10_digitsOf_b7 {x : Cx} (F : Nat) (p0 : Int) (w : aI) (hx : CxOK x RX10 cX10_digitsOf 3 0 0 (some .int))  : ∀ (n : Nat) (v1 : Int) (v2 : Int), En x (jvI w) 0 0 7 [(1, .int (oI v1)), (2, .int (oI v2))] [] (cm w) (f_X10_digitsOf_b7 F p0 w  n v1 v2) := by
  intro n
  induction n with
  | zero => intro v1 v2; exact E_none
  | succ n ih => intro v1 v2; exact l_X10_digitsOf_b7_b F p0 w hx  _ ih v1 v2
set_option maxHeartbeats 4000000 in
set_option maxRecDepth 100000 in
theorem ev_X10_digitsOf (F : Nat) (p0 : Int) (w : aI) : Ev yX10_digitsOf cX10_digitsOf 3 (some .int) 0 0 (jvI w) [.int (oI p0)] (cm w) (f_X10_digitsOf F p0 w) := by
  refine Ev.of (own := RX10) (by decide +kernel) rfl (Nat.le_of_ble_eq_true rfl) (fun x hx => ?_)
  show En x (jvI w) 0 0 0 [(0, .int (oI p0))] [] (cm w) _
  unfold f_X10_digitsOf
  refine I_iconst (pc := 0) hx 1 dX10_digitsOf_0 ?_
  refine E_istore_n (pc := 1) hx dX10_digitsOf_1 rfl (Nat.le_of_ble_eq_true rfl) rfl ?_
  refine E_iload_n (pc := 2) hx 1 dX10_digitsOf_2 rfl rfl ?_
  refine I_bipush (pc := 3) hx 10 dX10_digitsOf_3 rfl ?_
  refine E_gd (fun hr1 => ?_)
  refine I_idiv (pc := 5) hx dX10_digitsOf_5 ⟨hr1, (by decide), (by decide)⟩ ?_
  refine I_ltv (fun v2_2 => ?_)
  refine E_istore_n (pc := 6) hx dX10_digitsOf_6 rfl (Nat.le_of_ble_eq_true rfl) rfl ?_
  refine En.sub [1, 0] rfl ?_
  exact l_X10_digitsOf_b7 F p0 w hx F 1 v2_2
