set_option maxHeartbeats 4000000 in
set_option maxRecDepth 100000 in
theorem ev_X11_roof (F : Nat) (a0 : Nat) (h0 : shK a0 = 10 + 9) (p1 : Int) (p2 : Int) (w : aI) : Ev yX11_roof cX11_roof 3 (some .int) 3 0 jvIW [.ref a0, .int (oI p1), .int (oI p2)] (cm w) (f_X11_roof F a0 p1 p2 w) := by
  refine Ev.of (own := RX11) (by decide +kernel) rfl (Nat.le_of_ble_eq_true rfl) (fun x hx => ?_)
  show En x jvIW 0 0 0 [(0, .ref a0), (1, .int (oI p1)), (2, .int (oI p2))] [] (cm w) _
  unfold f_X11_roof
  refine E_aload_n (pc := 0) hx 0 dX11_roof_0 rfl rfl ?_
  refine E_aload_n (pc := 1) hx 0 dX11_roof_1 rfl rfl ?_
  refine E_iload_n (pc := 2) hx 1 dX11_roof_2 rfl rfl ?_
  refine I_cVB  (pc := 3) hx [.int (oI p1)] [.ref a0] (ev_X11_isRoof F a0 h0 p1 w) vm_X11_isRoof fc9 h0 g1739 dX11_roof_3 rfl rfl (Nat.le_of_ble_eq_true rfl) (Nat.le_of_ble_eq_true rfl) (Nat.le_of_ble_eq_true rfl) (fun r1 => ?_)
  refine E_iload_n (pc := 6) hx 2 dX11_roof_6 rfl rfl ?_
  refine E_gd (fun hr2 => ?_)
  refine I_i2l (pc := 7) hx dX11_roof_7 hr2 ?_
  refine I_lconst (pc := 8) hx 0 dX11_roof_8 rfl ?_
  refine I_ldc2 (pc := 9) hx 7 g1747 rfl dX11_roof_9 ?_
  refine I_cSB  (pc := 12) hx [.long (oL p2), .long (oL 0), .long (oL 7)] [.int (oI (bI r1)), .ref a0] (ev_X11_in F p2 0 7 w) sm_X11_in g1434 dX11_roof_12 rfl rfl (Nat.le_of_ble_eq_true rfl) (Nat.le_of_ble_eq_true rfl) (Nat.le_of_ble_eq_true rfl) (fun r3 => ?_)
  refine I_iconst (pc := 15) hx 1 dX11_roof_15 ?_
  refine I_cVBW  (pc := 16) hx [.int (oI (bI r1)), .int (oI (bI r3)), .int (oI 1)] [] (ev_X11_may F a0 h0 (bI r1) (bI r3) 1 w) vm_X11_may fc9 h0 g1714 dX11_roof_16 rfl rfl (Nat.le_of_ble_eq_true rfl) (Nat.le_of_ble_eq_true rfl) (Nat.le_of_ble_eq_true rfl) (fun r4 w5 => ?_)
  refine I_ifB_ne (pc := 19) hx 24 dX11_roof_19 rfl ?_ ?_
  · refine E_iload_n (pc := 24) hx 2 dX11_roof_24 rfl rfl ?_
    refine E_case (fun hc6 => ?_) (fun hc6 => ?_)
    · refine E_tIn (pc := 25) hx 56 dX11_roof_25 (by rw [oI_toInt hr2]; omega) (by rw [oI_toInt hr2]; omega) (by rw [hc6]; rfl) rfl ?_
      refine I_iconst (pc := 56) hx 0 dX11_roof_56 ?_
      refine E_aload_n (pc := 57) hx 0 dX11_roof_57 rfl rfl ?_
      refine E_getR (pc := 58) hx 0 fc9 h0 rfl ⟨rfl, rfl, rfl⟩ g1332 dX11_roof_58 ?_
      refine E_iload_n (pc := 61) hx 1 dX11_roof_61 rfl rfl ?_
      refine I_cSI  (pc := 62) hx [.int (oI p1)] [.ref (shR a0 0), .int (oI 0)] (ev_X11_r F p1 w5) sm_X11_r g1322 dX11_roof_62 rfl rfl (Nat.le_of_ble_eq_true rfl) (Nat.le_of_ble_eq_true rfl) (Nat.le_of_ble_eq_true rfl) (fun r7 => ?_)
      refine I_bipush (pc := 65) hx 11 dX11_roof_65 rfl ?_
      refine I_iadd (pc := 67) hx dX11_roof_67 ?_
      refine I_iald (pc := 68) hx (kt_9_0 h0) dX11_roof_68 ?_
      refine E_aload_n (pc := 69) hx 0 dX11_roof_69 rfl rfl ?_
      refine E_getR (pc := 70) hx 0 fc9 h0 rfl ⟨rfl, rfl, rfl⟩ g1332 dX11_roof_70 ?_
      refine I_iconst (pc := 73) hx 3 dX11_roof_73 ?_
      refine I_iald (pc := 74) hx (kt_9_0 h0) dX11_roof_74 ?_
      refine I_isub (pc := 75) hx dX11_roof_75 ?_
      refine E_gd (fun hr8 => ?_)
      refine I_mmax (pc := 76) hx ⟨(by decide), hr8⟩ g1519 g746 g121 g747 (Nat.le_of_ble_eq_true rfl) (Nat.le_of_ble_eq_true rfl) (Nat.le_of_ble_eq_true rfl) dX11_roof_76 ?_
      exact E_iret (pc := 79) hx dX11_roof_79 rfl rfl (Nat.le_of_ble_eq_true rfl)
    refine E_case (fun hc9 => ?_) (fun hc9 => ?_)
    · refine E_tIn (pc := 25) hx 80 dX11_roof_25 (by rw [oI_toInt hr2]; omega) (by rw [oI_toInt hr2]; omega) (by rw [hc9]; rfl) rfl ?_
      refine E_aload_n (pc := 80) hx 0 dX11_roof_80 rfl rfl ?_
      refine E_iload_n (pc := 81) hx 1 dX11_roof_81 rfl rfl ?_
      refine I_cVI  (pc := 82) hx [.int (oI p1)] [] (ev_X11_waitingMany F a0 h0 p1 w5) vm_X11_waitingMany fc9 h0 g1748 dX11_roof_82 rfl rfl (Nat.le_of_ble_eq_true rfl) (Nat.le_of_ble_eq_true rfl) (Nat.le_of_ble_eq_true rfl) (fun r10 => ?_)
      exact E_iret (pc := 85) hx dX11_roof_85 rfl rfl (Nat.le_of_ble_eq_true rfl)
    refine E_case (fun hc11 => ?_) (fun hc11 => ?_)
    · refine E_tIn (pc := 25) hx 86 dX11_roof_25 (by rw [oI_toInt hr2]; omega) (by rw [oI_toInt hr2]; omega) (by rw [hc11]; rfl) rfl ?_
      refine E_aload_n (pc := 86) hx 0 dX11_roof_86 rfl rfl ?_
      refine E_iload_n (pc := 87) hx 1 dX11_roof_87 rfl rfl ?_
      refine I_cVI  (pc := 88) hx [.int (oI p1)] [] (ev_X11_waysAt F a0 h0 p1 w5) vm_X11_waysAt fc9 h0 g1752 dX11_roof_88 rfl rfl (Nat.le_of_ble_eq_true rfl) (Nat.le_of_ble_eq_true rfl) (Nat.le_of_ble_eq_true rfl) (fun r12 => ?_)
      exact E_iret (pc := 91) hx dX11_roof_91 rfl rfl (Nat.le_of_ble_eq_true rfl)
    refine E_case (fun hc13 => ?_) (fun hc13 => ?_)
    · refine E_tIn (pc := 25) hx 92 dX11_roof_25 (by rw [oI_toInt hr2]; omega) (by rw [oI_toInt hr2]; omega) (by rw [hc13]; rfl) rfl ?_
      refine E_aload_n (pc := 92) hx 0 dX11_roof_92 rfl rfl ?_
      refine E_getR (pc := 93) hx 0 fc9 h0 rfl ⟨rfl, rfl, rfl⟩ g1332 dX11_roof_93 ?_
      refine E_iload_n (pc := 96) hx 1 dX11_roof_96 rfl rfl ?_
      refine I_cSI  (pc := 97) hx [.int (oI p1)] [.ref (shR a0 0)] (ev_X11_r F p1 w5) sm_X11_r g1322 dX11_roof_97 rfl rfl (Nat.le_of_ble_eq_true rfl) (Nat.le_of_ble_eq_true rfl) (Nat.le_of_ble_eq_true rfl) (fun r14 => ?_)
      refine I_bipush (pc := 100) hx 12 dX11_roof_100 rfl ?_
      refine I_iadd (pc := 102) hx dX11_roof_102 ?_
      refine I_iald (pc := 103) hx (kt_9_0 h0) dX11_roof_103 ?_
      exact E_iret (pc := 104) hx dX11_roof_104 rfl rfl (Nat.le_of_ble_eq_true rfl)
    refine E_tOut (pc := 25) hx 105 dX11_roof_25 (swI_out hr2 (by omega)) rfl ?_
    refine E_aload_n (pc := 105) hx 0 dX11_roof_105 rfl rfl ?_
    refine E_getR (pc := 106) hx 0 fc9 h0 rfl ⟨rfl, rfl, rfl⟩ g1332 dX11_roof_106 ?_
    refine E_iload_n (pc := 109) hx 1 dX11_roof_109 rfl rfl ?_
    refine I_cSI  (pc := 110) hx [.int (oI p1)] [.ref (shR a0 0)] (ev_X11_r F p1 w5) sm_X11_r g1322 dX11_roof_110 rfl rfl (Nat.le_of_ble_eq_true rfl) (Nat.le_of_ble_eq_true rfl) (Nat.le_of_ble_eq_true rfl) (fun r15 => ?_)
    refine I_bipush (pc := 113) hx 7 dX11_roof_113 rfl ?_
    refine I_iadd (pc := 115) hx dX11_roof_115 ?_
    refine E_iload_n (pc := 116) hx 2 dX11_roof_116 rfl rfl ?_
    refine I_iadd (pc := 117) hx dX11_roof_117 ?_
    refine I_iald (pc := 118) hx (kt_9_0 h0) dX11_roof_118 ?_
    exact E_iret (pc := 119) hx dX11_roof_119 rfl rfl (Nat.le_of_ble_eq_true rfl)
  refine I_iconst (pc := 22) hx 0 dX11_roof_22 ?_
  exact E_iret (pc := 23) hx dX11_roof_23 rfl rfl (Nat.le_of_ble_eq_true rfl)
set_option maxHeartbeats 4000000 in
set_option maxRecDepth 100000 in
theorem ev_X11_way (F : Nat) (a0 : Nat) (h0 : shK a0 = 10 + 9) (p1 : Int) (p2 : Int) (w : aI) : Ev yX11_way cX11_way 3 (some .int) 1 0 jvIW [.ref a0, .int (oI p1), .int (oI p2)] (cm w) (f_X11_way F a0 p1 p2 w) := by
  refine Ev.of (own := RX11) (by decide +kernel) rfl (Nat.le_of_ble_eq_true rfl) (fun x hx => ?_)
  show En x jvIW 0 0 0 [(0, .ref a0), (1, .int (oI p1)), (2, .int (oI p2))] [] (cm w) _
  unfold f_X11_way
  refine E_aload_n (pc := 0) hx 0 dX11_way_0 rfl rfl ?_
  refine E_iload_n (pc := 1) hx 1 dX11_way_1 rfl rfl ?_
  refine E_gd (fun hr1 => ?_)
  refine I_i2l (pc := 2) hx dX11_way_2 hr1 ?_
  refine I_lconst (pc := 3) hx 0 dX11_way_3 rfl ?_
  refine E_aload_n (pc := 4) hx 0 dX11_way_4 rfl rfl ?_
  refine E_getR (pc := 5) hx 0 fc9 h0 rfl ⟨rfl, rfl, rfl⟩ g1332 dX11_way_5 ?_
  refine I_iconst (pc := 8) hx 1 dX11_way_8 ?_
  refine I_iald (pc := 9) hx (kt_9_0 h0) dX11_way_9 ?_
  refine I_iconst (pc := 10) hx 1 dX11_way_10 ?_
  refine I_isub (pc := 11) hx dX11_way_11 ?_
  refine E_gd (fun hr2 => ?_)
  refine I_i2l (pc := 12) hx dX11_way_12 hr2 ?_
  refine I_cSB  (pc := 13) hx [.long (oL p1), .long (oL 0), .long (oL ((w (shR a0 0) 1) - 1))] [.ref a0] (ev_X11_in F p1 0 ((w (shR a0 0) 1) - 1) w) sm_X11_in g1434 dX11_way_13 rfl rfl (Nat.le_of_ble_eq_true rfl) (Nat.le_of_ble_eq_true rfl) (Nat.le_of_ble_eq_true rfl) (fun r3 => ?_)
  refine E_iload_n (pc := 16) hx 2 dX11_way_16 rfl rfl ?_
  refine E_gd (fun hr4 => ?_)
  refine I_i2l (pc := 17) hx dX11_way_17 hr4 ?_
  refine I_lconst (pc := 18) hx 0 dX11_way_18 rfl ?_
  refine I_ldc2 (pc := 19) hx 2 g1760 rfl dX11_way_19 ?_
  refine I_cSB  (pc := 22) hx [.long (oL p2), .long (oL 0), .long (oL 2)] [.int (oI (bI r3)), .ref a0] (ev_X11_in F p2 0 2 w) sm_X11_in g1434 dX11_way_22 rfl rfl (Nat.le_of_ble_eq_true rfl) (Nat.le_of_ble_eq_true rfl) (Nat.le_of_ble_eq_true rfl) (fun r5 => ?_)
  refine I_iconst (pc := 25) hx 1 dX11_way_25 ?_
  refine I_cVBW  (pc := 26) hx [.int (oI (bI r3)), .int (oI (bI r5)), .int (oI 1)] [] (ev_X11_may F a0 h0 (bI r3) (bI r5) 1 w) vm_X11_may fc9 h0 g1714 dX11_way_26 rfl rfl (Nat.le_of_ble_eq_true rfl) (Nat.le_of_ble_eq_true rfl) (Nat.le_of_ble_eq_true rfl) (fun r6 w7 => ?_)
  refine I_ifB_eq (pc := 29) hx 46 dX11_way_29 rfl ?_ ?_
  · refine I_iconst (pc := 46) hx 0 dX11_way_46 ?_
    exact E_iret (pc := 47) hx dX11_way_47 rfl rfl (Nat.le_of_ble_eq_true rfl)
  refine E_aload_n (pc := 32) hx 0 dX11_way_32 rfl rfl ?_
  refine E_getR (pc := 33) hx 0 fc9 h0 rfl ⟨rfl, rfl, rfl⟩ g1332 dX11_way_33 ?_
  refine E_iload_n (pc := 36) hx 1 dX11_way_36 rfl rfl ?_
  refine I_cSI  (pc := 37) hx [.int (oI p1)] [.ref (shR a0 0)] (ev_X11_w F p1 w7) sm_X11_w g1329 dX11_way_37 rfl rfl (Nat.le_of_ble_eq_true rfl) (Nat.le_of_ble_eq_true rfl) (Nat.le_of_ble_eq_true rfl) (fun r8 => ?_)
  refine E_iload_n (pc := 40) hx 2 dX11_way_40 rfl rfl ?_
  refine I_iadd (pc := 41) hx dX11_way_41 ?_
  refine I_iald (pc := 42) hx (kt_9_0 h0) dX11_way_42 ?_
  refine E_goto (pc := 43) hx 47 dX11_way_43 rfl ?_
  exact E_iret (pc := 47) hx dX11_way_47 rfl rfl (Nat.le_of_ble_eq_true rfl)
set_option maxHeartbeats 4000000 in
set_option maxRecDepth 100000 in
theorem ev_X11_route (F : Nat) (a0 : Nat) (h0 : shK a0 = 10 + 9) (p1 : Int) (p2 : Int) (w : aI) : Ev yX11_route cX11_route 3 (some .int) 5 0 jvIW [.ref a0, .int (oI p1), .int (oI p2)] (cm w) (f_X11_route F a0 p1 p2 w) := by
  refine Ev.of (own := RX11) (by decide +kernel) rfl (Nat.le_of_ble_eq_true rfl) (fun x hx => ?_)
  show En x jvIW 0 0 0 [(0, .ref a0), (1, .int (oI p1)), (2, .int (oI p2))] [] (cm w) _
  unfold f_X11_route
  refine E_aload_n (pc := 0) hx 0 dX11_route_0 rfl rfl ?_
  refine E_aload_n (pc := 1) hx 0 dX11_route_1 rfl rfl ?_
  refine E_iload_n (pc := 2) hx 1 dX11_route_2 rfl rfl ?_
  refine E_iload_n (pc := 3) hx 2 dX11_route_3 rfl rfl ?_
  refine I_cVB  (pc := 4) hx [.int (oI p1), .int (oI p2)] [.ref a0] (ev_X11_areRoofs F a0 h0 p1 p2 w) vm_X11_areRoofs fc9 h0 g1765 dX11_route_4 rfl rfl (Nat.le_of_ble_eq_true rfl) (Nat.le_of_ble_eq_true rfl) (Nat.le_of_ble_eq_true rfl) (fun r1 => ?_)
  refine I_iconst (pc := 7) hx 1 dX11_route_7 ?_
  refine I_iconst (pc := 8) hx 1 dX11_route_8 ?_
  refine I_cVBW  (pc := 9) hx [.int (oI (bI r1)), .int (oI 1), .int (oI 1)] [] (ev_X11_may F a0 h0 (bI r1) 1 1 w) vm_X11_may fc9 h0 g1714 dX11_route_9 rfl rfl (Nat.le_of_ble_eq_true rfl) (Nat.le_of_ble_eq_true rfl) (Nat.le_of_ble_eq_true rfl) (fun r2 w3 => ?_)
  refine I_ifB_eq (pc := 12) hx 24 dX11_route_12 rfl ?_ ?_
  · refine I_iconst (pc := 24) hx 0 dX11_route_24 ?_
    exact E_iret (pc := 25) hx dX11_route_25 rfl rfl (Nat.le_of_ble_eq_true rfl)
  refine E_aload_n (pc := 15) hx 0 dX11_route_15 rfl rfl ?_
  refine E_iload_n (pc := 16) hx 1 dX11_route_16 rfl rfl ?_
  refine E_iload_n (pc := 17) hx 2 dX11_route_17 rfl rfl ?_
  refine I_cVIW  (pc := 18) hx [.int (oI p1), .int (oI p2)] [] (ev_X11_sumTo F a0 h0 p1 p2 w3) vm_X11_sumTo fc9 h0 g1673 dX11_route_18 rfl rfl (Nat.le_of_ble_eq_true rfl) (Nat.le_of_ble_eq_true rfl) (Nat.le_of_ble_eq_true rfl) (fun r4 w5 => ?_)
  refine E_goto (pc := 21) hx 25 dX11_route_21 rfl ?_
  exact E_iret (pc := 25) hx dX11_route_25 rfl rfl (Nat.le_of_ble_eq_true rfl)
set_option maxHeartbeats 4000000 in
set_option maxRecDepth 100000 in
theorem ev_X11_next (F : Nat) (a0 : Nat) (h0 : shK a0 = 10 + 9) (p1 : Int) (p2 : Int) (w : aI) : Ev yX11_next cX11_next 3 (some .int) 6 0 jvIW [.ref a0, .int (oI p1), .int (oI p2)] (cm w) (f_X11_next F a0 p1 p2 w) := by
  refine Ev.of (own := RX11) (by decide +kernel) rfl (Nat.le_of_ble_eq_true rfl) (fun x hx => ?_)
  show En x jvIW 0 0 0 [(0, .ref a0), (1, .int (oI p1)), (2, .int (oI p2))] [] (cm w) _
  unfold f_X11_next
  refine E_aload_n (pc := 0) hx 0 dX11_next_0 rfl rfl ?_
  refine E_aload_n (pc := 1) hx 0 dX11_next_1 rfl rfl ?_
  refine E_iload_n (pc := 2) hx 1 dX11_next_2 rfl rfl ?_
  refine E_iload_n (pc := 3) hx 2 dX11_next_3 rfl rfl ?_
  refine I_cVB  (pc := 4) hx [.int (oI p1), .int (oI p2)] [.ref a0] (ev_X11_areRoofs F a0 h0 p1 p2 w) vm_X11_areRoofs fc9 h0 g1765 dX11_next_4 rfl rfl (Nat.le_of_ble_eq_true rfl) (Nat.le_of_ble_eq_true rfl) (Nat.le_of_ble_eq_true rfl) (fun r1 => ?_)
  refine I_iconst (pc := 7) hx 1 dX11_next_7 ?_
  refine I_iconst (pc := 8) hx 1 dX11_next_8 ?_
  refine I_cVBW  (pc := 9) hx [.int (oI (bI r1)), .int (oI 1), .int (oI 1)] [] (ev_X11_may F a0 h0 (bI r1) 1 1 w) vm_X11_may fc9 h0 g1714 dX11_next_9 rfl rfl (Nat.le_of_ble_eq_true rfl) (Nat.le_of_ble_eq_true rfl) (Nat.le_of_ble_eq_true rfl) (fun r2 w3 => ?_)
  refine I_ifB_eq (pc := 12) hx 24 dX11_next_12 rfl ?_ ?_
  · refine I_iconst (pc := 24) hx 0 dX11_next_24 ?_
    exact E_iret (pc := 25) hx dX11_next_25 rfl rfl (Nat.le_of_ble_eq_true rfl)
  refine E_aload_n (pc := 15) hx 0 dX11_next_15 rfl rfl ?_
  refine E_iload_n (pc := 16) hx 1 dX11_next_16 rfl rfl ?_
  refine E_iload_n (pc := 17) hx 2 dX11_next_17 rfl rfl ?_
  refine I_cVIW  (pc := 18) hx [.int (oI p1), .int (oI p2)] [] (ev_X11_nextTo F a0 h0 p1 p2 w3) vm_X11_nextTo fc9 h0 g1669 dX11_next_18 rfl rfl (Nat.le_of_ble_eq_true rfl) (Nat.le_of_ble_eq_true rfl) (Nat.le_of_ble_eq_true rfl) (fun r4 w5 => ?_)
  refine E_goto (pc := 21) hx 25 dX11_next_21 rfl ?_
  exact E_iret (pc := 25) hx dX11_next_25 rfl rfl (Nat.le_of_ble_eq_true rfl)
set_option maxHeartbeats 4000000 in
set_option maxRecDepth 100000 in
theorem ev_X11_tune (F : Nat) (a0 : Nat) (h0 : shK a0 = 10 + 9) (p1 : Int) (p2 : Int) (w : aI) : Ev yX11_tune cX11_tune 3 (some .int) 2 0 jvIW [.ref a0, .int (oI p1), .int (oI p2)] (cm w) (f_X11_tune F a0 p1 p2 w) := by
  refine Ev.of (own := RX11) (by decide +kernel) rfl (Nat.le_of_ble_eq_true rfl) (fun x hx => ?_)
  show En x jvIW 0 0 0 [(0, .ref a0), (1, .int (oI p1)), (2, .int (oI p2))] [] (cm w) _
  unfold f_X11_tune
  refine E_aload_n (pc := 0) hx 0 dX11_tune_0 rfl rfl ?_
  refine E_aload_n (pc := 1) hx 0 dX11_tune_1 rfl rfl ?_
  refine E_iload_n (pc := 2) hx 1 dX11_tune_2 rfl rfl ?_
  refine I_cVB  (pc := 3) hx [.int (oI p1)] [.ref a0] (ev_X11_isTune F a0 h0 p1 w) vm_X11_isTune fc9 h0 g1777 dX11_tune_3 rfl rfl (Nat.le_of_ble_eq_true rfl) (Nat.le_of_ble_eq_true rfl) (Nat.le_of_ble_eq_true rfl) (fun r1 => ?_)
  refine E_iload_n (pc := 6) hx 2 dX11_tune_6 rfl rfl ?_
  refine E_gd (fun hr2 => ?_)
  refine I_i2l (pc := 7) hx dX11_tune_7 hr2 ?_
  refine I_lconst (pc := 8) hx 0 dX11_tune_8 rfl ?_
  refine I_ldc2 (pc := 9) hx 11 g1781 rfl dX11_tune_9 ?_
  refine I_cSB  (pc := 12) hx [.long (oL p2), .long (oL 0), .long (oL 11)] [.int (oI (bI r1)), .ref a0] (ev_X11_in F p2 0 11 w) sm_X11_in g1434 dX11_tune_12 rfl rfl (Nat.le_of_ble_eq_true rfl) (Nat.le_of_ble_eq_true rfl) (Nat.le_of_ble_eq_true rfl) (fun r3 => ?_)
  refine I_iconst (pc := 15) hx 1 dX11_tune_15 ?_
  refine I_cVBW  (pc := 16) hx [.int (oI (bI r1)), .int (oI (bI r3)), .int (oI 1)] [] (ev_X11_may F a0 h0 (bI r1) (bI r3) 1 w) vm_X11_may fc9 h0 g1714 dX11_tune_16 rfl rfl (Nat.le_of_ble_eq_true rfl) (Nat.le_of_ble_eq_true rfl) (Nat.le_of_ble_eq_true rfl) (fun r4 w5 => ?_)
  refine I_ifB_ne (pc := 19) hx 24 dX11_tune_19 rfl ?_ ?_
  · refine E_iload_n (pc := 24) hx 2 dX11_tune_24 rfl rfl ?_
    refine E_case (fun hc6 => ?_) (fun hc6 => ?_)
    · refine E_tIn (pc := 25) hx 52 dX11_tune_25 (by rw [oI_toInt hr2]; omega) (by rw [oI_toInt hr2]; omega) (by rw [hc6]; rfl) rfl ?_
      refine E_aload_n (pc := 52) hx 0 dX11_tune_52 rfl rfl ?_
      refine E_iload_n (pc := 53) hx 1 dX11_tune_53 rfl rfl ?_
      refine I_cVI  (pc := 54) hx [.int (oI p1)] [] (ev_X11_bars F a0 h0 p1 w5) vm_X11_bars fc9 h0 g1653 dX11_tune_54 rfl rfl (Nat.le_of_ble_eq_true rfl) (Nat.le_of_ble_eq_true rfl) (Nat.le_of_ble_eq_true rfl) (fun r7 => ?_)
      exact E_iret (pc := 57) hx dX11_tune_57 rfl rfl (Nat.le_of_ble_eq_true rfl)
    refine E_case (fun hc8 => ?_) (fun hc8 => ?_)
    · refine E_tIn (pc := 25) hx 58 dX11_tune_25 (by rw [oI_toInt hr2]; omega) (by rw [oI_toInt hr2]; omega) (by rw [hc8]; rfl) rfl ?_
      refine E_aload_n (pc := 58) hx 0 dX11_tune_58 rfl rfl ?_
      refine E_iload_n (pc := 59) hx 1 dX11_tune_59 rfl rfl ?_
      refine I_cVI  (pc := 60) hx [.int (oI p1)] [] (ev_X11_unlike F a0 h0 p1 w5) vm_X11_unlike fc9 h0 g1633 dX11_tune_60 rfl rfl (Nat.le_of_ble_eq_true rfl) (Nat.le_of_ble_eq_true rfl) (Nat.le_of_ble_eq_true rfl) (fun r9 => ?_)
      exact E_iret (pc := 63) hx dX11_tune_63 rfl rfl (Nat.le_of_ble_eq_true rfl)
    refine E_case (fun hc10 => ?_) (fun hc10 => ?_)
    · refine E_tIn (pc := 25) hx 64 dX11_tune_25 (by rw [oI_toInt hr2]; omega) (by rw [oI_toInt hr2]; omega) (by rw [hc10]; rfl) rfl ?_
      refine E_aload_n (pc := 64) hx 0 dX11_tune_64 rfl rfl ?_
      refine E_getR (pc := 65) hx 0 fc9 h0 rfl ⟨rfl, rfl, rfl⟩ g1332 dX11_tune_65 ?_
      refine E_iload_n (pc := 68) hx 1 dX11_tune_68 rfl rfl ?_
      refine I_cSI  (pc := 69) hx [.int (oI p1)] [.ref (shR a0 0)] (ev_X11_t F p1 w5) sm_X11_t g1594 dX11_tune_69 rfl rfl (Nat.le_of_ble_eq_true rfl) (Nat.le_of_ble_eq_true rfl) (Nat.le_of_ble_eq_true rfl) (fun r11 => ?_)
      refine I_bipush (pc := 72) hx 9 dX11_tune_72 rfl ?_
      refine I_iadd (pc := 74) hx dX11_tune_74 ?_
      refine I_iald (pc := 75) hx (kt_9_0 h0) dX11_tune_75 ?_
      exact E_iret (pc := 76) hx dX11_tune_76 rfl rfl (Nat.le_of_ble_eq_true rfl)
    refine E_tOut (pc := 25) hx 77 dX11_tune_25 (swI_out hr2 (by omega)) rfl ?_
    refine E_aload_n (pc := 77) hx 0 dX11_tune_77 rfl rfl ?_
    refine E_getR (pc := 78) hx 0 fc9 h0 rfl ⟨rfl, rfl, rfl⟩ g1332 dX11_tune_78 ?_
    refine E_iload_n (pc := 81) hx 1 dX11_tune_81 rfl rfl ?_
    refine I_cSI  (pc := 82) hx [.int (oI p1)] [.ref (shR a0 0)] (ev_X11_t F p1 w5) sm_X11_t g1594 dX11_tune_82 rfl rfl (Nat.le_of_ble_eq_true rfl) (Nat.le_of_ble_eq_true rfl) (Nat.le_of_ble_eq_true rfl) (fun r12 => ?_)
    refine E_iload_n (pc := 85) hx 2 dX11_tune_85 rfl rfl ?_
    refine I_iadd (pc := 86) hx dX11_tune_86 ?_
    refine I_iald (pc := 87) hx (kt_9_0 h0) dX11_tune_87 ?_
    exact E_iret (pc := 88) hx dX11_tune_88 rfl rfl (Nat.le_of_ble_eq_true rfl)
  refine I_iconst (pc := 22) hx 0 dX11_tune_22 ?_
  exact E_iret (pc := 23) hx dX11_tune_23 rfl rfl (Nat.le_of_ble_eq_true rfl)
set_option maxHeartbeats 4000000 in
set_option maxRecDepth 100000 in
theorem ev_X11_note (F : Nat) (a0 : Nat) (h0 : shK a0 = 10 + 9) (p1 : Int) (p2 : Int) (p3 : Int) (w : aI) : Ev yX11_note cX11_note 5 (some .int) 2 0 jvIW [.ref a0, .int (oI p1), .int (oI p2), .int (oI p3)] (cm w) (f_X11_note F a0 p1 p2 p3 w) := by
  refine Ev.of (own := RX11) (by decide +kernel) rfl (Nat.le_of_ble_eq_true rfl) (fun x hx => ?_)
  show En x jvIW 0 0 0 [(0, .ref a0), (1, .int (oI p1)), (2, .int (oI p2)), (3, .int (oI p3))] [] (cm w) _
  unfold f_X11_note
  refine E_aload_n (pc := 0) hx 0 dX11_note_0 rfl rfl ?_
  refine E_aload_n (pc := 1) hx 0 dX11_note_1 rfl rfl ?_
  refine E_iload_n (pc := 2) hx 1 dX11_note_2 rfl rfl ?_
  refine I_cVB  (pc := 3) hx [.int (oI p1)] [.ref a0] (ev_X11_isTune F a0 h0 p1 w) vm_X11_isTune fc9 h0 g1777 dX11_note_3 rfl rfl (Nat.le_of_ble_eq_true rfl) (Nat.le_of_ble_eq_true rfl) (Nat.le_of_ble_eq_true rfl) (fun r1 => ?_)
  refine I_iconst (pc := 6) hx 1 dX11_note_6 ?_
  refine I_iconst (pc := 7) hx 1 dX11_note_7 ?_
  refine I_cVBW  (pc := 8) hx [.int (oI (bI r1)), .int (oI 1), .int (oI 1)] [] (ev_X11_may F a0 h0 (bI r1) 1 1 w) vm_X11_may fc9 h0 g1714 dX11_note_8 rfl rfl (Nat.le_of_ble_eq_true rfl) (Nat.le_of_ble_eq_true rfl) (Nat.le_of_ble_eq_true rfl) (fun r2 w3 => ?_)
  refine I_ifB_ne (pc := 11) hx 16 dX11_note_11 rfl ?_ ?_
  · refine E_iload_n (pc := 16) hx 2 dX11_note_16 rfl rfl ?_
    refine E_gd (fun hr4 => ?_)
    refine I_i2l (pc := 17) hx dX11_note_17 hr4 ?_
    refine I_lconst (pc := 18) hx 0 dX11_note_18 rfl ?_
    refine E_aload_n (pc := 19) hx 0 dX11_note_19 rfl rfl ?_
    refine E_getR (pc := 20) hx 0 fc9 h0 rfl ⟨rfl, rfl, rfl⟩ g1332 dX11_note_20 ?_
    refine E_iload_n (pc := 23) hx 1 dX11_note_23 rfl rfl ?_
    refine I_cSI  (pc := 24) hx [.int (oI p1)] [.ref (shR a0 0), .long (oL 0), .long (oL p2)] (ev_X11_t F p1 w3) sm_X11_t g1594 dX11_note_24 rfl rfl (Nat.le_of_ble_eq_true rfl) (Nat.le_of_ble_eq_true rfl) (Nat.le_of_ble_eq_true rfl) (fun r5 => ?_)
    refine I_iconst (pc := 27) hx 2 dX11_note_27 ?_
    refine I_iadd (pc := 28) hx dX11_note_28 ?_
    refine I_iald (pc := 29) hx (kt_9_0 h0) dX11_note_29 ?_
    refine I_iconst (pc := 30) hx 1 dX11_note_30 ?_
    refine I_isub (pc := 31) hx dX11_note_31 ?_
    refine E_gd (fun hr6 => ?_)
    refine I_i2l (pc := 32) hx dX11_note_32 hr6 ?_
    refine I_cSB  (pc := 33) hx [.long (oL p2), .long (oL 0), .long (oL ((w3 (shR a0 0) (r5 + 2)) - 1))] [] (ev_X11_in F p2 0 ((w3 (shR a0 0) (r5 + 2)) - 1) w3) sm_X11_in g1434 dX11_note_33 rfl rfl (Nat.le_of_ble_eq_true rfl) (Nat.le_of_ble_eq_true rfl) (Nat.le_of_ble_eq_true rfl) (fun r7 => ?_)
    refine E_istore (pc := 36) hx dX11_note_36 (Nat.le_of_ble_eq_true rfl) rfl ?_
    refine E_iload (pc := 38) hx 0 dX11_note_38 rfl ?_
    refine I_ifB_eq (pc := 40) hx 69 dX11_note_40 rfl ?_ ?_
    · refine I_iconst (pc := 69) hx (-1) dX11_note_69 ?_
      exact E_iret (pc := 70) hx dX11_note_70 rfl rfl (Nat.le_of_ble_eq_true rfl)
    refine E_aload_n (pc := 43) hx 1 dX11_note_43 rfl rfl ?_
    refine E_getR (pc := 44) hx 0 fc9 h0 rfl ⟨rfl, rfl, rfl⟩ g1332 dX11_note_44 ?_
    refine E_iload_n (pc := 47) hx 2 dX11_note_47 rfl rfl ?_
    refine I_cSI  (pc := 48) hx [.int (oI p1)] [.ref (shR a0 0)] (ev_X11_t F p1 w3) sm_X11_t g1594 dX11_note_48 rfl rfl (Nat.le_of_ble_eq_true rfl) (Nat.le_of_ble_eq_true rfl) (Nat.le_of_ble_eq_true rfl) (fun r8 => ?_)
    refine E_iload_n (pc := 51) hx 4 dX11_note_51 rfl rfl ?_
    refine E_gd (fun hr9 => ?_)
    refine I_if_eq (pc := 52) hx 60 dX11_note_52 rfl hr9 ?_ ?_
    · refine I_bipush (pc := 60) hx 11 dX11_note_60 rfl ?_
      refine I_iadd (pc := 62) hx dX11_note_62 ?_
      refine E_iload_n (pc := 63) hx 3 dX11_note_63 rfl rfl ?_
      refine I_iadd (pc := 64) hx dX11_note_64 ?_
      refine I_iald (pc := 65) hx (kt_9_0 h0) dX11_note_65 ?_
      refine E_goto (pc := 66) hx 70 dX11_note_66 rfl ?_
      exact E_iret (pc := 70) hx dX11_note_70 rfl rfl (Nat.le_of_ble_eq_true rfl)
    refine I_bipush (pc := 55) hx 19 dX11_note_55 rfl ?_
    refine E_goto (pc := 57) hx 62 dX11_note_57 rfl ?_
    refine I_iadd (pc := 62) hx dX11_note_62 ?_
    refine E_iload_n (pc := 63) hx 3 dX11_note_63 rfl rfl ?_
    refine I_iadd (pc := 64) hx dX11_note_64 ?_
    refine I_iald (pc := 65) hx (kt_9_0 h0) dX11_note_65 ?_
    refine E_goto (pc := 66) hx 70 dX11_note_66 rfl ?_
    exact E_iret (pc := 70) hx dX11_note_70 rfl rfl (Nat.le_of_ble_eq_true rfl)
  refine I_iconst (pc := 14) hx 0 dX11_note_14 ?_
  exact E_iret (pc := 15) hx dX11_note_15 rfl rfl (Nat.le_of_ble_eq_true rfl)
set_option maxHeartbeats 4000000 in
set_option maxRecDepth 100000 in
theorem l_X11_placeOf_b57 {x : Cx} (F : Nat) (a0 : Nat) (h0 : shK a0 = 10 + 9) (p1 : Int) (p2 : Int) (w : aI) (hx : CxOK x RX11 cX11_placeOf 6 2 0 (some .int)) (k5 : Int → Int → Option Int) (hk5 : ∀ (v3 : Int) (v4 : Int), En x (jvI w) 0 0 5 [(0, .ref a0), (1, .int (oI p1)), (2, .int (oI p2)), (3, .int (oI v3)), (4, .int (oI v4))] [] (cm w) (k5 v3 v4))  (v4 : Int) (z0 : Int)  : En x (jvI w) 0 0 57 [(0, .ref a0), (1, .int (oI p1)), (2, .int (oI p2)), (4, .int (oI v4))] [.int (oI z0)] (cm w) (f_X11_placeOf_b57 F a0 p1 p2 w k5  v4 z0) := by
  unfold f_X11_placeOf_b57
  refine I_iconst (pc := 57) hx 1 dX11_placeOf_57 ?_
  refine E_goto (pc := 58) hx 62 dX11_placeOf_58 rfl ?_
  refine I_cSI  (pc := 62) hx [.int (oI 1)] [.int (oI z0)] (ev_X11_one F 1 w) sm_X11_one g1597 dX11_placeOf_62 rfl rfl (Nat.le_of_ble_eq_true rfl) (Nat.le_of_ble_eq_true rfl) (Nat.le_of_ble_eq_true rfl) (fun r9 => ?_)
  refine I_iadd (pc := 65) hx dX11_placeOf_65 ?_
  refine I_ltv (fun v3_10 => ?_)
  refine E_istore_n (pc := 66) hx dX11_placeOf_66 rfl (Nat.le_of_ble_eq_true rfl) rfl ?_
  refine I_iinc (pc := 67) hx 1 4 dX11_placeOf_67 rfl (Nat.le_of_ble_eq_true rfl) rfl ?_
  refine E_goto (pc := 70) hx 5 dX11_placeOf_70 rfl ?_
  refine En.sub [2, 3, 4, 1, 0] rfl ?_
  exact hk5 v3_10 (v4 + 1)
set_option maxHeartbeats 4000000 in
set_option maxRecDepth 100000 in
theorem l_X11_placeOf_b5_b {x : Cx} (F : Nat) (a0 : Nat) (h0 : shK a0 = 10 + 9) (p1 : Int) (p2 : Int) (w : aI) (hx : CxOK x RX11 cX11_placeOf 6 2 0 (some .int))  (k5 : Int → Int → Option Int) (hk5 : ∀ (v3 : Int) (v4 : Int), En x (jvI w) 0 0 5 [(0, .ref a0), (1, .int (oI p1)), (2, .int (oI p2)), (3, .int (oI v3)), (4, .int (oI v4))] [] (cm w) (k5 v3 v4)) (v3 : Int) (v4 : Int)  : En x (jvI w) 0 0 5 [(0, .ref a0), (1, .int (oI p1)), (2, .int (oI p2)), (3, .int (oI v3)), (4, .int (oI v4))] [] (cm w) (f_X11_placeOf_b5_b F a0 p1 p2 w  k5 v3 v4) := by
  unfold f_X11_placeOf_b5_b
  refine E_iload (pc := 5) hx 4 dX11_placeOf_5 rfl ?_
  refine E_aload_n (pc := 7) hx 0 dX11_placeOf_7 rfl rfl ?_
  refine E_getR (pc := 8) hx 0 fc9 h0 rfl ⟨rfl, rfl, rfl⟩ g1332 dX11_placeOf_8 ?_
  refine I_iconst (pc := 11) hx 2 dX11_placeOf_11 ?_
  refine I_iald (pc := 12) hx (kt_9_0 h0) dX11_placeOf_12 ?_
  refine E_gd (fun hr1 => ?_)
  refine I_icmp_ge (pc := 13) hx 73 dX11_placeOf_13 rfl ⟨hr1.1, hr1.2⟩ ?_ ?_
  · refine E_iload_n (pc := 73) hx 3 dX11_placeOf_73 rfl rfl ?_
    exact E_iret (pc := 74) hx dX11_placeOf_74 rfl rfl (Nat.le_of_ble_eq_true rfl)
  refine E_aload_n (pc := 16) hx 0 dX11_placeOf_16 rfl rfl ?_
  refine E_iload (pc := 17) hx 4 dX11_placeOf_17 rfl ?_
  refine I_cVI  (pc := 19) hx [.int (oI v4)] [] (ev_X11_bars F a0 h0 v4 w) vm_X11_bars fc9 h0 g1653 dX11_placeOf_19 rfl rfl (Nat.le_of_ble_eq_true rfl) (Nat.le_of_ble_eq_true rfl) (Nat.le_of_ble_eq_true rfl) (fun r2 => ?_)
  refine E_aload_n (pc := 22) hx 0 dX11_placeOf_22 rfl rfl ?_
  refine E_iload_n (pc := 23) hx 1 dX11_placeOf_23 rfl rfl ?_
  refine I_cVI  (pc := 24) hx [.int (oI p1)] [.int (oI r2)] (ev_X11_bars F a0 h0 p1 w) vm_X11_bars fc9 h0 g1653 dX11_placeOf_24 rfl rfl (Nat.le_of_ble_eq_true rfl) (Nat.le_of_ble_eq_true rfl) (Nat.le_of_ble_eq_true rfl) (fun r3 => ?_)
  refine I_isub (pc := 27) hx dX11_placeOf_27 ?_
  refine I_ltv (fun v5_4 => ?_)
  refine E_istore (pc := 28) hx dX11_placeOf_28 (Nat.le_of_ble_eq_true rfl) rfl ?_
  refine E_iload_n (pc := 30) hx 4 dX11_placeOf_30 rfl rfl ?_
  refine E_aload_n (pc := 31) hx 1 dX11_placeOf_31 rfl rfl ?_
  refine E_iload (pc := 32) hx 5 dX11_placeOf_32 rfl ?_
  refine E_iload_n (pc := 34) hx 3 dX11_placeOf_34 rfl rfl ?_
  refine I_cVB  (pc := 35) hx [.int (oI v4), .int (oI p2)] [.int (oI v3)] (ev_X11_waitsAt F a0 h0 v4 p2 w) vm_X11_waitsAt fc9 h0 g1649 dX11_placeOf_35 rfl rfl (Nat.le_of_ble_eq_true rfl) (Nat.le_of_ble_eq_true rfl) (Nat.le_of_ble_eq_true rfl) (fun r5 => ?_)
  refine I_ifB_eq (pc := 38) hx 61 dX11_placeOf_38 rfl ?_ ?_
  · refine I_iconst (pc := 61) hx 0 dX11_placeOf_61 ?_
    refine I_cSI  (pc := 62) hx [.int (oI 0)] [.int (oI v3)] (ev_X11_one F 0 w) sm_X11_one g1597 dX11_placeOf_62 rfl rfl (Nat.le_of_ble_eq_true rfl) (Nat.le_of_ble_eq_true rfl) (Nat.le_of_ble_eq_true rfl) (fun r6 => ?_)
    refine I_iadd (pc := 65) hx dX11_placeOf_65 ?_
    refine I_ltv (fun v3_7 => ?_)
    refine E_istore_n (pc := 66) hx dX11_placeOf_66 rfl (Nat.le_of_ble_eq_true rfl) rfl ?_
    refine I_iinc (pc := 67) hx 1 5 dX11_placeOf_67 rfl (Nat.le_of_ble_eq_true rfl) rfl ?_
    refine E_goto (pc := 70) hx 5 dX11_placeOf_70 rfl ?_
    refine En.sub [3, 4, 5, 1, 0] rfl ?_
    exact hk5 v3_7 (v4 + 1)
  refine E_iload (pc := 41) hx 0 dX11_placeOf_41 rfl ?_
  refine E_gd (fun hr8 => ?_)
  refine I_if_gt (pc := 43) hx 57 dX11_placeOf_43 rfl hr8 ?_ ?_
  · refine En.sub [1, 2, 3, 5] rfl ?_
    exact l_X11_placeOf_b57 F a0 h0 p1 p2 w hx k5 hk5 v4 v3
  refine E_iload (pc := 46) hx 0 dX11_placeOf_46 rfl ?_
  refine I_if_ne (pc := 48) hx 61 dX11_placeOf_48 rfl hr8 ?_ ?_
  · refine I_iconst (pc := 61) hx 0 dX11_placeOf_61 ?_
    refine I_cSI  (pc := 62) hx [.int (oI 0)] [.int (oI v3)] (ev_X11_one F 0 w) sm_X11_one g1597 dX11_placeOf_62 rfl rfl (Nat.le_of_ble_eq_true rfl) (Nat.le_of_ble_eq_true rfl) (Nat.le_of_ble_eq_true rfl) (fun r11 => ?_)
    refine I_iadd (pc := 65) hx dX11_placeOf_65 ?_
    refine I_ltv (fun v3_12 => ?_)
    refine E_istore_n (pc := 66) hx dX11_placeOf_66 rfl (Nat.le_of_ble_eq_true rfl) rfl ?_
    refine I_iinc (pc := 67) hx 1 5 dX11_placeOf_67 rfl (Nat.le_of_ble_eq_true rfl) rfl ?_
    refine E_goto (pc := 70) hx 5 dX11_placeOf_70 rfl ?_
    refine En.sub [3, 4, 5, 1, 0] rfl ?_
    exact hk5 v3_12 (v4 + 1)
  refine E_iload (pc := 51) hx 5 dX11_placeOf_51 rfl ?_
  refine E_iload_n (pc := 53) hx 2 dX11_placeOf_53 rfl rfl ?_
  refine E_gd (fun hr13 => ?_)
  refine I_icmp_ge (pc := 54) hx 61 dX11_placeOf_54 rfl ⟨hr1.1, hr13⟩ ?_ ?_
  · refine I_iconst (pc := 61) hx 0 dX11_placeOf_61 ?_
    refine I_cSI  (pc := 62) hx [.int (oI 0)] [.int (oI v3)] (ev_X11_one F 0 w) sm_X11_one g1597 dX11_placeOf_62 rfl rfl (Nat.le_of_ble_eq_true rfl) (Nat.le_of_ble_eq_true rfl) (Nat.le_of_ble_eq_true rfl) (fun r14 => ?_)
    refine I_iadd (pc := 65) hx dX11_placeOf_65 ?_
    refine I_ltv (fun v3_15 => ?_)
    refine E_istore_n (pc := 66) hx dX11_placeOf_66 rfl (Nat.le_of_ble_eq_true rfl) rfl ?_
    refine I_iinc (pc := 67) hx 1 5 dX11_placeOf_67 rfl (Nat.le_of_ble_eq_true rfl) rfl ?_
    refine E_goto (pc := 70) hx 5 dX11_placeOf_70 rfl ?_
    refine En.sub [3, 4, 5, 1, 0] rfl ?_
    exact hk5 v3_15 (v4 + 1)
  refine En.sub [1, 2, 3, 5] rfl ?_
  exact l_X11_placeOf_b57 F a0 h0 p1 p2 w hx k5 hk5 v4 v3
theorem l_X11_placeOf_b5 {x : Cx} (F : Nat) (a0 : Nat) (h0 : shK a0 = 10 + 9) (p1 : Int) (p2 : Int) (w : aI) (hx : CxOK x RX11 cX11_placeOf 6 2 0 (some .int))  : ∀ (n : Nat) (v3 : Int) (v4 : Int), En x (jvI w) 0 0 5 [(0, .ref a0), (1, .int (oI p1)), (2, .int (oI p2)), (3, .int (oI v3)), (4, .int (oI v4))] [] (cm w) (f_X11_placeOf_b5 F a0 p1 p2 w  n v3 v4) := by
  intro n
  induction n with
  | zero => intro v3 v4; exact E_none
  | succ n ih => intro v3 v4; exact l_X11_placeOf_b5_b F a0 h0 p1 p2 w hx  _ ih v3 v4
set_option maxHeartbeats 4000000 in
set_option maxRecDepth 100000 in
theorem ev_X11_placeOf (F : Nat) (a0 : Nat) (h0 : shK a0 = 10 + 9) (p1 : Int) (p2 : Int) (w : aI) : Ev yX11_placeOf cX11_placeOf 6 (some .int) 2 0 (jvI w) [.ref a0, .int (oI p1), .int (oI p2)] (cm w) (f_X11_placeOf F a0 p1 p2 w) := by
  refine Ev.of (own := RX11) (by decide +kernel) rfl (Nat.le_of_ble_eq_true rfl) (fun x hx => ?_)
  show En x (jvI w) 0 0 0 [(0, .ref a0), (1, .int (oI p1)), (2, .int (oI p2))] [] (cm w) _
  unfold f_X11_placeOf
  refine I_iconst (pc := 0) hx 0 dX11_placeOf_0 ?_
  refine E_istore_n (pc := 1) hx dX11_placeOf_1 rfl (Nat.le_of_ble_eq_true rfl) rfl ?_
  refine I_iconst (pc := 2) hx 0 dX11_placeOf_2 ?_
  refine E_istore (pc := 3) hx dX11_placeOf_3 (Nat.le_of_ble_eq_true rfl) rfl ?_
  refine En.sub [2, 3, 4, 1, 0] rfl ?_
  exact l_X11_placeOf_b5 F a0 h0 p1 p2 w hx F 0 0
set_option maxHeartbeats 4000000 in
set_option maxRecDepth 100000 in
theorem l_X11_waiting_b18_b {x : Cx} (F : Nat) (a0 : Nat) (h0 : shK a0 = 10 + 9) (p1 : Int) (p2 : Int)  (hx : CxOK x RX11 cX11_waiting 4 3 0 (some .int))  (k18 : Int → aI → Option (Int × aI)) (hk18 : ∀ (v3 : Int) (w : aI), En x jvIW 0 0 18 [(0, .ref a0), (1, .int (oI p1)), (2, .int (oI p2)), (3, .int (oI v3))] [] (cm w) (k18 v3 w)) (v3 : Int) (w : aI) : En x jvIW 0 0 18 [(0, .ref a0), (1, .int (oI p1)), (2, .int (oI p2)), (3, .int (oI v3))] [] (cm w) (f_X11_waiting_b18_b F a0 p1 p2   k18 v3 w) := by
  unfold f_X11_waiting_b18_b
  refine E_iload_n (pc := 18) hx 3 dX11_waiting_18 rfl rfl ?_
  refine E_aload_n (pc := 19) hx 0 dX11_waiting_19 rfl rfl ?_
  refine E_getR (pc := 20) hx 0 fc9 h0 rfl ⟨rfl, rfl, rfl⟩ g1332 dX11_waiting_20 ?_
  refine I_iconst (pc := 23) hx 2 dX11_waiting_23 ?_
  refine I_iald (pc := 24) hx (kt_9_0 h0) dX11_waiting_24 ?_
  refine E_gd (fun hr4 => ?_)
  refine I_icmp_ge (pc := 25) hx 55 dX11_waiting_25 rfl ⟨hr4.1, hr4.2⟩ ?_ ?_
  · refine I_iconst (pc := 55) hx (-1) dX11_waiting_55 ?_
    exact E_iret (pc := 56) hx dX11_waiting_56 rfl rfl (Nat.le_of_ble_eq_true rfl)
  refine E_aload_n (pc := 28) hx 0 dX11_waiting_28 rfl rfl ?_
  refine E_iload_n (pc := 29) hx 3 dX11_waiting_29 rfl rfl ?_
  refine E_iload_n (pc := 30) hx 1 dX11_waiting_30 rfl rfl ?_
  refine I_cVB  (pc := 31) hx [.int (oI v3), .int (oI p1)] [] (ev_X11_waitsAt F a0 h0 v3 p1 w) vm_X11_waitsAt fc9 h0 g1649 dX11_waiting_31 rfl rfl (Nat.le_of_ble_eq_true rfl) (Nat.le_of_ble_eq_true rfl) (Nat.le_of_ble_eq_true rfl) (fun r5 => ?_)
  refine I_ifB_eq (pc := 34) hx 49 dX11_waiting_34 rfl ?_ ?_
  · refine I_iinc (pc := 49) hx 1 3 dX11_waiting_49 rfl (Nat.le_of_ble_eq_true rfl) rfl ?_
    refine E_goto (pc := 52) hx 18 dX11_waiting_52 rfl ?_
    refine En.sub [1, 2, 3, 0] rfl ?_
    exact hk18 (v3 + 1) w
  refine E_aload_n (pc := 37) hx 0 dX11_waiting_37 rfl rfl ?_
  refine E_iload_n (pc := 38) hx 3 dX11_waiting_38 rfl rfl ?_
  refine E_iload_n (pc := 39) hx 1 dX11_waiting_39 rfl rfl ?_
  refine I_cVI  (pc := 40) hx [.int (oI v3), .int (oI p1)] [] (ev_X11_placeOf F a0 h0 v3 p1 w) vm_X11_placeOf fc9 h0 g1790 dX11_waiting_40 rfl rfl (Nat.le_of_ble_eq_true rfl) (Nat.le_of_ble_eq_true rfl) (Nat.le_of_ble_eq_true rfl) (fun r6 => ?_)
  refine E_iload_n (pc := 43) hx 2 dX11_waiting_43 rfl rfl ?_
  refine E_gd (fun hr7 => ?_)
  refine I_icmp_ne (pc := 44) hx 49 dX11_waiting_44 rfl ⟨hr7.1, hr7.2⟩ ?_ ?_
  · refine I_iinc (pc := 49) hx 1 3 dX11_waiting_49 rfl (Nat.le_of_ble_eq_true rfl) rfl ?_
    refine E_goto (pc := 52) hx 18 dX11_waiting_52 rfl ?_
    refine En.sub [1, 2, 3, 0] rfl ?_
    exact hk18 (v3 + 1) w
  refine E_iload_n (pc := 47) hx 3 dX11_waiting_47 rfl rfl ?_
  exact E_iret (pc := 48) hx dX11_waiting_48 rfl rfl (Nat.le_of_ble_eq_true rfl)
theorem l_X11_waiting_b18 {x : Cx} (F : Nat) (a0 : Nat) (h0 : shK a0 = 10 + 9) (p1 : Int) (p2 : Int)  (hx : CxOK x RX11 cX11_waiting 4 3 0 (some .int))  : ∀ (n : Nat) (v3 : Int) (w : aI), En x jvIW 0 0 18 [(0, .ref a0), (1, .int (oI p1)), (2, .int (oI p2)), (3, .int (oI v3))] [] (cm w) (f_X11_waiting_b18 F a0 p1 p2   n v3 w) := by
  intro n
  induction n with
  | zero => intro v3 w; exact E_none
  | succ n ih => intro v3 w; exact l_X11_waiting_b18_b F a0 h0 p1 p2  hx  _ ih v3 w
set_option maxHeartbeats 4000000 in
set_option maxRecDepth 100000 in
theorem ev_X11_waiting (F : Nat) (a0 : Nat) (h0 : shK a0 = 10 + 9) (p1 : Int) (p2 : Int) (w : aI) : Ev yX11_waiting cX11_waiting 4 (some .int) 3 0 jvIW [.ref a0, .int (oI p1), .int (oI p2)] (cm w) (f_X11_waiting F a0 p1 p2 w) := by
  refine Ev.of (own := RX11) (by decide +kernel) rfl (Nat.le_of_ble_eq_true rfl) (fun x hx => ?_)
  show En x jvIW 0 0 0 [(0, .ref a0), (1, .int (oI p1)), (2, .int (oI p2))] [] (cm w) _
  unfold f_X11_waiting
  refine E_aload_n (pc := 0) hx 0 dX11_waiting_0 rfl rfl ?_
  refine E_aload_n (pc := 1) hx 0 dX11_waiting_1 rfl rfl ?_
  refine E_iload_n (pc := 2) hx 1 dX11_waiting_2 rfl rfl ?_
  refine I_cVB  (pc := 3) hx [.int (oI p1)] [.ref a0] (ev_X11_isRoof F a0 h0 p1 w) vm_X11_isRoof fc9 h0 g1739 dX11_waiting_3 rfl rfl (Nat.le_of_ble_eq_true rfl) (Nat.le_of_ble_eq_true rfl) (Nat.le_of_ble_eq_true rfl) (fun r1 => ?_)
  refine I_iconst (pc := 6) hx 1 dX11_waiting_6 ?_
  refine I_iconst (pc := 7) hx 1 dX11_waiting_7 ?_
  refine I_cVBW  (pc := 8) hx [.int (oI (bI r1)), .int (oI 1), .int (oI 1)] [] (ev_X11_may F a0 h0 (bI r1) 1 1 w) vm_X11_may fc9 h0 g1714 dX11_waiting_8 rfl rfl (Nat.le_of_ble_eq_true rfl) (Nat.le_of_ble_eq_true rfl) (Nat.le_of_ble_eq_true rfl) (fun r2 w3 => ?_)
  refine I_ifB_ne (pc := 11) hx 16 dX11_waiting_11 rfl ?_ ?_
  · refine I_iconst (pc := 16) hx 0 dX11_waiting_16 ?_
    refine E_istore_n (pc := 17) hx dX11_waiting_17 rfl (Nat.le_of_ble_eq_true rfl) rfl ?_
    refine En.sub [1, 2, 3, 0] rfl ?_
    exact l_X11_waiting_b18 F a0 h0 p1 p2 hx F 0 w3
  refine I_iconst (pc := 14) hx 0 dX11_waiting_14 ?_
  exact E_iret (pc := 15) hx dX11_waiting_15 rfl rfl (Nat.le_of_ble_eq_true rfl)
set_option maxHeartbeats 4000000 in
set_option maxRecDepth 100000 in
theorem ev_X11_reason (F : Nat) (a0 : Nat) (h0 : shK a0 = 10 + 9) (p1 : Int) (w : aI) : Ev yX11_reason cX11_reason 4 (some .int) 7 0 jvIW [.ref a0, .int (oI p1)] (cm w) (f_X11_reason F a0 p1 w) := by
  refine Ev.of (own := RX11) (by decide +kernel) rfl (Nat.le_of_ble_eq_true rfl) (fun x hx => ?_)
  show En x jvIW 0 0 0 [(0, .ref a0), (1, .int (oI p1))] [] (cm w) _
  unfold f_X11_reason
  refine E_iload_n (pc := 0) hx 1 dX11_reason_0 rfl rfl ?_
  refine I_cSI  (pc := 1) hx [.int (oI p1)] [] (ev_X11_t F p1 w) sm_X11_t g1594 dX11_reason_1 rfl rfl (Nat.le_of_ble_eq_true rfl) (Nat.le_of_ble_eq_true rfl) (Nat.le_of_ble_eq_true rfl) (fun r1 => ?_)
  refine E_istore_n (pc := 4) hx dX11_reason_4 rfl (Nat.le_of_ble_eq_true rfl) rfl ?_
  refine E_aload_n (pc := 5) hx 1 dX11_reason_5 rfl rfl ?_
  refine E_getR (pc := 6) hx 0 fc9 h0 rfl ⟨rfl, rfl, rfl⟩ g1332 dX11_reason_6 ?_
  refine E_iload_n (pc := 9) hx 0 dX11_reason_9 rfl rfl ?_
  refine I_iconst (pc := 10) hx 4 dX11_reason_10 ?_
  refine I_iadd (pc := 11) hx dX11_reason_11 ?_
  refine I_iald (pc := 12) hx (kt_9_0 h0) dX11_reason_12 ?_
  refine I_ltv (fun v3_2 => ?_)
  refine E_istore_n (pc := 13) hx dX11_reason_13 rfl (Nat.le_of_ble_eq_true rfl) rfl ?_
  refine E_aload_n (pc := 14) hx 2 dX11_reason_14 rfl rfl ?_
  refine E_getR (pc := 15) hx 0 fc9 h0 rfl ⟨rfl, rfl, rfl⟩ g1332 dX11_reason_15 ?_
  refine E_iload_n (pc := 18) hx 1 dX11_reason_18 rfl rfl ?_
  refine I_iconst (pc := 19) hx 3 dX11_reason_19 ?_
  refine I_iadd (pc := 20) hx dX11_reason_20 ?_
  refine I_iald (pc := 21) hx (kt_9_0 h0) dX11_reason_21 ?_
  refine E_gd (fun hr3 => ?_)
  refine I_if_eq (pc := 22) hx 27 dX11_reason_22 rfl hr3 ?_ ?_
  · refine E_aload_n (pc := 27) hx 2 dX11_reason_27 rfl rfl ?_
    refine E_iload_n (pc := 28) hx 0 dX11_reason_28 rfl rfl ?_
    refine E_aload_n (pc := 29) hx 2 dX11_reason_29 rfl rfl ?_
    refine E_getR (pc := 30) hx 0 fc9 h0 rfl ⟨rfl, rfl, rfl⟩ g1332 dX11_reason_30 ?_
    refine E_iload_n (pc := 33) hx 1 dX11_reason_33 rfl rfl ?_
    refine I_iconst (pc := 34) hx 1 dX11_reason_34 ?_
    refine I_iadd (pc := 35) hx dX11_reason_35 ?_
    refine I_iald (pc := 36) hx (kt_9_0 h0) dX11_reason_36 ?_
    refine I_cVIW  (pc := 37) hx [.int (oI v3_2), .int (oI (w (shR a0 0) (r1 + 1)))] [] (ev_X11_sumTo F a0 h0 v3_2 (w (shR a0 0) (r1 + 1)) w) vm_X11_sumTo fc9 h0 g1673 dX11_reason_37 rfl rfl (Nat.le_of_ble_eq_true rfl) (Nat.le_of_ble_eq_true rfl) (Nat.le_of_ble_eq_true rfl) (fun r4 w5 => ?_)
    refine I_iconst (pc := 40) hx (-1) dX11_reason_40 ?_
    refine E_gd (fun hr6 => ?_)
    refine I_icmp_ne (pc := 41) hx 46 dX11_reason_41 rfl ⟨hr6, (by decide)⟩ ?_ ?_
    · refine E_aload_n (pc := 46) hx 2 dX11_reason_46 rfl rfl ?_
      refine E_getR (pc := 47) hx 0 fc9 h0 rfl ⟨rfl, rfl, rfl⟩ g1332 dX11_reason_47 ?_
      refine I_iconst (pc := 50) hx 3 dX11_reason_50 ?_
      refine I_iald (pc := 51) hx (kt_9_0 h0) dX11_reason_51 ?_
      refine I_iconst (pc := 52) hx 1 dX11_reason_52 ?_
      refine I_iadd (pc := 53) hx dX11_reason_53 ?_
      refine I_bipush (pc := 54) hx 60 dX11_reason_54 rfl ?_
      refine E_gd (fun hr7 => ?_)
      refine I_irem (pc := 56) hx dX11_reason_56 ⟨hr7, (by decide), (by decide)⟩ ?_
      refine E_aload_n (pc := 57) hx 2 dX11_reason_57 rfl rfl ?_
      refine E_getR (pc := 58) hx 0 fc9 h0 rfl ⟨rfl, rfl, rfl⟩ g1332 dX11_reason_58 ?_
      refine I_iconst (pc := 61) hx 5 dX11_reason_61 ?_
      refine I_iald (pc := 62) hx (kt_9_0 h0) dX11_reason_62 ?_
      refine E_gd (fun hr8 => ?_)
      refine I_icmp_lt (pc := 63) hx 68 dX11_reason_63 rfl ⟨hr8.1, hr8.2⟩ ?_ ?_
      · refine E_aload_n (pc := 68) hx 2 dX11_reason_68 rfl rfl ?_
        refine E_iload_n (pc := 69) hx 0 dX11_reason_69 rfl rfl ?_
        refine E_aload_n (pc := 70) hx 2 dX11_reason_70 rfl rfl ?_
        refine E_getR (pc := 71) hx 0 fc9 h0 rfl ⟨rfl, rfl, rfl⟩ g1332 dX11_reason_71 ?_
        refine I_iconst (pc := 74) hx 3 dX11_reason_74 ?_
        refine I_iald (pc := 75) hx (kt_9_0 h0) dX11_reason_75 ?_
        refine I_iconst (pc := 76) hx 1 dX11_reason_76 ?_
        refine I_iadd (pc := 77) hx dX11_reason_77 ?_
        refine I_cVB  (pc := 78) hx [.int (oI v3_2), .int (oI ((w5 (shR a0 0) 3) + 1))] [] (ev_X11_isBusy F a0 h0 v3_2 ((w5 (shR a0 0) 3) + 1) w5) vm_X11_isBusy fc9 h0 g1641 dX11_reason_78 rfl rfl (Nat.le_of_ble_eq_true rfl) (Nat.le_of_ble_eq_true rfl) (Nat.le_of_ble_eq_true rfl) (fun r9 => ?_)
        refine I_ifB_eq (pc := 81) hx 86 dX11_reason_81 rfl ?_ ?_
        · refine E_aload_n (pc := 86) hx 2 dX11_reason_86 rfl rfl ?_
          refine E_iload_n (pc := 87) hx 3 dX11_reason_87 rfl rfl ?_
          refine I_cVI  (pc := 88) hx [.int (oI p1)] [] (ev_X11_purseFor F a0 h0 p1 w5) vm_X11_purseFor fc9 h0 g1661 dX11_reason_88 rfl rfl (Nat.le_of_ble_eq_true rfl) (Nat.le_of_ble_eq_true rfl) (Nat.le_of_ble_eq_true rfl) (fun r10 => ?_)
          refine E_aload_n (pc := 91) hx 2 dX11_reason_91 rfl rfl ?_
          refine E_iload_n (pc := 92) hx 3 dX11_reason_92 rfl rfl ?_
          refine E_iload_n (pc := 93) hx 0 dX11_reason_93 rfl rfl ?_
          refine I_cVI  (pc := 94) hx [.int (oI p1), .int (oI v3_2)] [.int (oI r10)] (ev_X11_feeAt F a0 h0 p1 v3_2 w5) vm_X11_feeAt fc9 h0 g1665 dX11_reason_94 rfl rfl (Nat.le_of_ble_eq_true rfl) (Nat.le_of_ble_eq_true rfl) (Nat.le_of_ble_eq_true rfl) (fun r11 => ?_)
          refine E_gd (fun hr12 => ?_)
          refine I_icmp_ge (pc := 97) hx 102 dX11_reason_97 rfl ⟨hr12.1, hr12.2⟩ ?_ ?_
          · refine E_aload_n (pc := 102) hx 2 dX11_reason_102 rfl rfl ?_
            refine E_iload_n (pc := 103) hx 0 dX11_reason_103 rfl rfl ?_
            refine I_cVIW  (pc := 104) hx [.int (oI v3_2)] [] (ev_X11_firstAt F a0 h0 v3_2 w5) vm_X11_firstAt fc9 h0 g1645 dX11_reason_104 rfl rfl (Nat.le_of_ble_eq_true rfl) (Nat.le_of_ble_eq_true rfl) (Nat.le_of_ble_eq_true rfl) (fun r13 w14 => ?_)
            refine E_iload_n (pc := 107) hx 3 dX11_reason_107 rfl rfl ?_
            refine E_gd (fun hr15 => ?_)
            refine I_icmp_ne (pc := 108) hx 115 dX11_reason_108 rfl ⟨hr15.1, hr15.2⟩ ?_ ?_
            · refine I_bipush (pc := 115) hx 6 dX11_reason_115 rfl ?_
              exact E_iret (pc := 117) hx dX11_reason_117 rfl rfl (Nat.le_of_ble_eq_true rfl)
            refine I_iconst (pc := 111) hx 0 dX11_reason_111 ?_
            refine E_goto (pc := 112) hx 117 dX11_reason_112 rfl ?_
            exact E_iret (pc := 117) hx dX11_reason_117 rfl rfl (Nat.le_of_ble_eq_true rfl)
          refine I_iconst (pc := 100) hx 5 dX11_reason_100 ?_
          exact E_iret (pc := 101) hx dX11_reason_101 rfl rfl (Nat.le_of_ble_eq_true rfl)
        refine I_iconst (pc := 84) hx 4 dX11_reason_84 ?_
        exact E_iret (pc := 85) hx dX11_reason_85 rfl rfl (Nat.le_of_ble_eq_true rfl)
      refine I_iconst (pc := 66) hx 3 dX11_reason_66 ?_
      exact E_iret (pc := 67) hx dX11_reason_67 rfl rfl (Nat.le_of_ble_eq_true rfl)
    refine I_iconst (pc := 44) hx 2 dX11_reason_44 ?_
    exact E_iret (pc := 45) hx dX11_reason_45 rfl rfl (Nat.le_of_ble_eq_true rfl)
  refine I_iconst (pc := 25) hx 1 dX11_reason_25 ?_
  exact E_iret (pc := 26) hx dX11_reason_26 rfl rfl (Nat.le_of_ble_eq_true rfl)
set_option maxHeartbeats 4000000 in
set_option maxRecDepth 100000 in
theorem ev_X11_cause (F : Nat) (a0 : Nat) (h0 : shK a0 = 10 + 9) (p1 : Int) (p2 : Int) (w : aI) : Ev yX11_cause cX11_cause 5 (some .int) 7 0 jvIW [.ref a0, .int (oI p1), .int (oI p2)] (cm w) (f_X11_cause F a0 p1 p2 w) := by
  refine Ev.of (own := RX11) (by decide +kernel) rfl (Nat.le_of_ble_eq_true rfl) (fun x hx => ?_)
  show En x jvIW 0 0 0 [(0, .ref a0), (1, .int (oI p1)), (2, .int (oI p2))] [] (cm w) _
  unfold f_X11_cause
  refine E_iload_n (pc := 0) hx 1 dX11_cause_0 rfl rfl ?_
  refine I_cSI  (pc := 1) hx [.int (oI p1)] [] (ev_X11_t F p1 w) sm_X11_t g1594 dX11_cause_1 rfl rfl (Nat.le_of_ble_eq_true rfl) (Nat.le_of_ble_eq_true rfl) (Nat.le_of_ble_eq_true rfl) (fun r1 => ?_)
  refine E_istore_n (pc := 4) hx dX11_cause_4 rfl (Nat.le_of_ble_eq_true rfl) rfl ?_
  refine E_aload_n (pc := 5) hx 1 dX11_cause_5 rfl rfl ?_
  refine E_getR (pc := 6) hx 0 fc9 h0 rfl ⟨rfl, rfl, rfl⟩ g1332 dX11_cause_6 ?_
  refine E_iload_n (pc := 9) hx 0 dX11_cause_9 rfl rfl ?_
  refine I_iconst (pc := 10) hx 4 dX11_cause_10 ?_
  refine I_iadd (pc := 11) hx dX11_cause_11 ?_
  refine I_iald (pc := 12) hx (kt_9_0 h0) dX11_cause_12 ?_
  refine I_ltv (fun v4_2 => ?_)
  refine E_istore (pc := 13) hx dX11_cause_13 (Nat.le_of_ble_eq_true rfl) rfl ?_
  refine E_iload_n (pc := 15) hx 4 dX11_cause_15 rfl rfl ?_
  refine E_gd (fun hr3 => ?_)
  refine E_case (fun hc4 => ?_) (fun hc4 => ?_)
  · refine E_tIn (pc := 16) hx 56 dX11_cause_16 (by rw [oI_toInt hr3]; omega) (by rw [oI_toInt hr3]; omega) (by rw [hc4]; rfl) rfl ?_
    refine I_bipush (pc := 56) hx 100 dX11_cause_56 rfl ?_
    refine E_aload_n (pc := 58) hx 2 dX11_cause_58 rfl rfl ?_
    refine E_getR (pc := 59) hx 0 fc9 h0 rfl ⟨rfl, rfl, rfl⟩ g1332 dX11_cause_59 ?_
    refine E_iload_n (pc := 62) hx 1 dX11_cause_62 rfl rfl ?_
    refine I_iconst (pc := 63) hx 3 dX11_cause_63 ?_
    refine I_iadd (pc := 64) hx dX11_cause_64 ?_
    refine I_iald (pc := 65) hx (kt_9_0 h0) dX11_cause_65 ?_
    refine I_iadd (pc := 66) hx dX11_cause_66 ?_
    exact E_iret (pc := 67) hx dX11_cause_67 rfl rfl (Nat.le_of_ble_eq_true rfl)
  refine E_case (fun hc5 => ?_) (fun hc5 => ?_)
  · refine E_tIn (pc := 16) hx 68 dX11_cause_16 (by rw [oI_toInt hr3]; omega) (by rw [oI_toInt hr3]; omega) (by rw [hc5]; rfl) rfl ?_
    refine I_sipush (pc := 68) hx 200 dX11_cause_68 rfl ?_
    refine E_aload_n (pc := 71) hx 2 dX11_cause_71 rfl rfl ?_
    refine E_getR (pc := 72) hx 0 fc9 h0 rfl ⟨rfl, rfl, rfl⟩ g1332 dX11_cause_72 ?_
    refine E_iload_n (pc := 75) hx 1 dX11_cause_75 rfl rfl ?_
    refine I_iconst (pc := 76) hx 1 dX11_cause_76 ?_
    refine I_iadd (pc := 77) hx dX11_cause_77 ?_
    refine I_iald (pc := 78) hx (kt_9_0 h0) dX11_cause_78 ?_
    refine I_iadd (pc := 79) hx dX11_cause_79 ?_
    exact E_iret (pc := 80) hx dX11_cause_80 rfl rfl (Nat.le_of_ble_eq_true rfl)
  refine E_case (fun hc6 => ?_) (fun hc6 => ?_)
  · refine E_tIn (pc := 16) hx 81 dX11_cause_16 (by rw [oI_toInt hr3]; omega) (by rw [oI_toInt hr3]; omega) (by rw [hc6]; rfl) rfl ?_
    refine I_sipush (pc := 81) hx 300 dX11_cause_81 rfl ?_
    refine E_aload_n (pc := 84) hx 2 dX11_cause_84 rfl rfl ?_
    refine E_getR (pc := 85) hx 0 fc9 h0 rfl ⟨rfl, rfl, rfl⟩ g1332 dX11_cause_85 ?_
    refine I_iconst (pc := 88) hx 3 dX11_cause_88 ?_
    refine I_iald (pc := 89) hx (kt_9_0 h0) dX11_cause_89 ?_
    refine I_iconst (pc := 90) hx 1 dX11_cause_90 ?_
    refine I_iadd (pc := 91) hx dX11_cause_91 ?_
    refine I_bipush (pc := 92) hx 60 dX11_cause_92 rfl ?_
    refine E_gd (fun hr7 => ?_)
    refine I_irem (pc := 94) hx dX11_cause_94 ⟨hr7, (by decide), (by decide)⟩ ?_
    refine I_iadd (pc := 95) hx dX11_cause_95 ?_
    exact E_iret (pc := 96) hx dX11_cause_96 rfl rfl (Nat.le_of_ble_eq_true rfl)
  refine E_case (fun hc8 => ?_) (fun hc8 => ?_)
  · refine E_tIn (pc := 16) hx 97 dX11_cause_16 (by rw [oI_toInt hr3]; omega) (by rw [oI_toInt hr3]; omega) (by rw [hc8]; rfl) rfl ?_
    refine I_sipush (pc := 97) hx 400 dX11_cause_97 rfl ?_
    refine E_aload_n (pc := 100) hx 2 dX11_cause_100 rfl rfl ?_
    refine E_getR (pc := 101) hx 0 fc9 h0 rfl ⟨rfl, rfl, rfl⟩ g1332 dX11_cause_101 ?_
    refine E_iload (pc := 104) hx 0 dX11_cause_104 rfl ?_
    refine I_cSI  (pc := 106) hx [.int (oI v4_2)] [.ref (shR a0 0), .int (oI 400)] (ev_X11_r F v4_2 w) sm_X11_r g1322 dX11_cause_106 rfl rfl (Nat.le_of_ble_eq_true rfl) (Nat.le_of_ble_eq_true rfl) (Nat.le_of_ble_eq_true rfl) (fun r9 => ?_)
    refine I_bipush (pc := 109) hx 11 dX11_cause_109 rfl ?_
    refine I_iadd (pc := 111) hx dX11_cause_111 ?_
    refine I_iald (pc := 112) hx (kt_9_0 h0) dX11_cause_112 ?_
    refine I_iadd (pc := 113) hx dX11_cause_113 ?_
    refine E_aload_n (pc := 114) hx 2 dX11_cause_114 rfl rfl ?_
    refine E_getR (pc := 115) hx 0 fc9 h0 rfl ⟨rfl, rfl, rfl⟩ g1332 dX11_cause_115 ?_
    refine I_iconst (pc := 118) hx 3 dX11_cause_118 ?_
    refine I_iald (pc := 119) hx (kt_9_0 h0) dX11_cause_119 ?_
    refine I_isub (pc := 120) hx dX11_cause_120 ?_
    refine I_iconst (pc := 121) hx 1 dX11_cause_121 ?_
    refine I_isub (pc := 122) hx dX11_cause_122 ?_
    exact E_iret (pc := 123) hx dX11_cause_123 rfl rfl (Nat.le_of_ble_eq_true rfl)
  refine E_case (fun hc10 => ?_) (fun hc10 => ?_)
  · refine E_tIn (pc := 16) hx 124 dX11_cause_16 (by rw [oI_toInt hr3]; omega) (by rw [oI_toInt hr3]; omega) (by rw [hc10]; rfl) rfl ?_
    refine I_sipush (pc := 124) hx 500 dX11_cause_124 rfl ?_
    refine E_aload_n (pc := 127) hx 2 dX11_cause_127 rfl rfl ?_
    refine E_iload_n (pc := 128) hx 3 dX11_cause_128 rfl rfl ?_
    refine E_iload (pc := 129) hx 0 dX11_cause_129 rfl ?_
    refine I_cVI  (pc := 131) hx [.int (oI p1), .int (oI v4_2)] [.int (oI 500)] (ev_X11_feeAt F a0 h0 p1 v4_2 w) vm_X11_feeAt fc9 h0 g1665 dX11_cause_131 rfl rfl (Nat.le_of_ble_eq_true rfl) (Nat.le_of_ble_eq_true rfl) (Nat.le_of_ble_eq_true rfl) (fun r11 => ?_)
    refine I_iadd (pc := 134) hx dX11_cause_134 ?_
    refine E_aload_n (pc := 135) hx 2 dX11_cause_135 rfl rfl ?_
    refine E_iload_n (pc := 136) hx 3 dX11_cause_136 rfl rfl ?_
    refine I_cVI  (pc := 137) hx [.int (oI p1)] [.int (oI (500 + r11))] (ev_X11_purseFor F a0 h0 p1 w) vm_X11_purseFor fc9 h0 g1661 dX11_cause_137 rfl rfl (Nat.le_of_ble_eq_true rfl) (Nat.le_of_ble_eq_true rfl) (Nat.le_of_ble_eq_true rfl) (fun r12 => ?_)
    refine I_isub (pc := 140) hx dX11_cause_140 ?_
    exact E_iret (pc := 141) hx dX11_cause_141 rfl rfl (Nat.le_of_ble_eq_true rfl)
  refine E_case (fun hc13 => ?_) (fun hc13 => ?_)
  · refine E_tIn (pc := 16) hx 142 dX11_cause_16 (by rw [oI_toInt hr3]; omega) (by rw [oI_toInt hr3]; omega) (by rw [hc13]; rfl) rfl ?_
    refine I_sipush (pc := 142) hx 600 dX11_cause_142 rfl ?_
    refine E_aload_n (pc := 145) hx 2 dX11_cause_145 rfl rfl ?_
    refine E_iload (pc := 146) hx 0 dX11_cause_146 rfl ?_
    refine I_cVIW  (pc := 148) hx [.int (oI v4_2)] [.int (oI 600)] (ev_X11_firstAt F a0 h0 v4_2 w) vm_X11_firstAt fc9 h0 g1645 dX11_cause_148 rfl rfl (Nat.le_of_ble_eq_true rfl) (Nat.le_of_ble_eq_true rfl) (Nat.le_of_ble_eq_true rfl) (fun r14 w15 => ?_)
    refine I_iadd (pc := 151) hx dX11_cause_151 ?_
    exact E_iret (pc := 152) hx dX11_cause_152 rfl rfl (Nat.le_of_ble_eq_true rfl)
  refine E_tOut (pc := 16) hx 153 dX11_cause_16 (swI_out hr3 (by omega)) rfl ?_
  refine I_iconst (pc := 153) hx 0 dX11_cause_153 ?_
  exact E_iret (pc := 154) hx dX11_cause_154 rfl rfl (Nat.le_of_ble_eq_true rfl)
set_option maxHeartbeats 4000000 in
set_option maxRecDepth 100000 in
theorem ev_X11_why (F : Nat) (a0 : Nat) (h0 : shK a0 = 10 + 9) (p1 : Int) (p2 : Int) (w : aI) : Ev yX11_why cX11_why 4 (some .int) 8 0 jvIW [.ref a0, .int (oI p1), .int (oI p2)] (cm w) (f_X11_why F a0 p1 p2 w) := by
  refine Ev.of (own := RX11) (by decide +kernel) rfl (Nat.le_of_ble_eq_true rfl) (fun x hx => ?_)
  show En x jvIW 0 0 0 [(0, .ref a0), (1, .int (oI p1)), (2, .int (oI p2))] [] (cm w) _
  unfold f_X11_why
  refine E_aload_n (pc := 0) hx 0 dX11_why_0 rfl rfl ?_
  refine E_aload_n (pc := 1) hx 0 dX11_why_1 rfl rfl ?_
  refine E_iload_n (pc := 2) hx 1 dX11_why_2 rfl rfl ?_
  refine I_cVB  (pc := 3) hx [.int (oI p1)] [.ref a0] (ev_X11_isTune F a0 h0 p1 w) vm_X11_isTune fc9 h0 g1777 dX11_why_3 rfl rfl (Nat.le_of_ble_eq_true rfl) (Nat.le_of_ble_eq_true rfl) (Nat.le_of_ble_eq_true rfl) (fun r1 => ?_)
  refine E_iload_n (pc := 6) hx 2 dX11_why_6 rfl rfl ?_
  refine E_gd (fun hr2 => ?_)
  refine I_i2l (pc := 7) hx dX11_why_7 hr2 ?_
  refine I_lconst (pc := 8) hx 0 dX11_why_8 rfl ?_
  refine I_lconst (pc := 9) hx 1 dX11_why_9 rfl ?_
  refine I_cSB  (pc := 10) hx [.long (oL p2), .long (oL 0), .long (oL 1)] [.int (oI (bI r1)), .ref a0] (ev_X11_in F p2 0 1 w) sm_X11_in g1434 dX11_why_10 rfl rfl (Nat.le_of_ble_eq_true rfl) (Nat.le_of_ble_eq_true rfl) (Nat.le_of_ble_eq_true rfl) (fun r3 => ?_)
  refine I_iconst (pc := 13) hx 1 dX11_why_13 ?_
  refine I_cVBW  (pc := 14) hx [.int (oI (bI r1)), .int (oI (bI r3)), .int (oI 1)] [] (ev_X11_may F a0 h0 (bI r1) (bI r3) 1 w) vm_X11_may fc9 h0 g1714 dX11_why_14 rfl rfl (Nat.le_of_ble_eq_true rfl) (Nat.le_of_ble_eq_true rfl) (Nat.le_of_ble_eq_true rfl) (fun r4 w5 => ?_)
  refine I_ifB_ne (pc := 17) hx 22 dX11_why_17 rfl ?_ ?_
  · refine E_aload_n (pc := 22) hx 0 dX11_why_22 rfl rfl ?_
    refine E_iload_n (pc := 23) hx 1 dX11_why_23 rfl rfl ?_
    refine I_cVIW  (pc := 24) hx [.int (oI p1)] [] (ev_X11_reason F a0 h0 p1 w5) vm_X11_reason fc9 h0 g1798 dX11_why_24 rfl rfl (Nat.le_of_ble_eq_true rfl) (Nat.le_of_ble_eq_true rfl) (Nat.le_of_ble_eq_true rfl) (fun r6 w7 => ?_)
    refine E_istore_n (pc := 27) hx dX11_why_27 rfl (Nat.le_of_ble_eq_true rfl) rfl ?_
    refine E_iload_n (pc := 28) hx 3 dX11_why_28 rfl rfl ?_
    refine I_if_ne (pc := 29) hx 36 dX11_why_29 rfl hr2 ?_ ?_
    · refine E_aload_n (pc := 36) hx 1 dX11_why_36 rfl rfl ?_
      refine E_iload_n (pc := 37) hx 2 dX11_why_37 rfl rfl ?_
      refine E_iload_n (pc := 38) hx 0 dX11_why_38 rfl rfl ?_
      refine I_cVIW  (pc := 39) hx [.int (oI p1), .int (oI r6)] [] (ev_X11_cause F a0 h0 p1 r6 w7) vm_X11_cause fc9 h0 g1802 dX11_why_39 rfl rfl (Nat.le_of_ble_eq_true rfl) (Nat.le_of_ble_eq_true rfl) (Nat.le_of_ble_eq_true rfl) (fun r8 w9 => ?_)
      exact E_iret (pc := 42) hx dX11_why_42 rfl rfl (Nat.le_of_ble_eq_true rfl)
    refine E_iload_n (pc := 32) hx 0 dX11_why_32 rfl rfl ?_
    refine E_goto (pc := 33) hx 42 dX11_why_33 rfl ?_
    exact E_iret (pc := 42) hx dX11_why_42 rfl rfl (Nat.le_of_ble_eq_true rfl)
  refine I_iconst (pc := 20) hx 0 dX11_why_20 ?_
  exact E_iret (pc := 21) hx dX11_why_21 rfl rfl (Nat.le_of_ble_eq_true rfl)
set_option maxHeartbeats 4000000 in
set_option maxRecDepth 100000 in
theorem l_X11_costOf_b43_b {x : Cx} (F : Nat) (a0 : Nat) (h0 : shK a0 = 10 + 9) (p1 : Int) (p2 : Int) (p3 : Int)  (hx : CxOK x RX11 cX11_costOf 6 6 0 (some .int))  (k43 : Int → Int → aI → Option (Int × aI)) (hk43 : ∀ (v4 : Int) (v5 : Int) (w : aI), En x jvIW 0 0 43 [(0, .ref a0), (2, .int (oI p2)), (3, .int (oI p3)), (4, .int (oI v4)), (5, .int (oI v5))] [] (cm w) (k43 v4 v5 w)) (v4 : Int) (v5 : Int) (w : aI) : En x jvIW 0 0 43 [(0, .ref a0), (2, .int (oI p2)), (3, .int (oI p3)), (4, .int (oI v4)), (5, .int (oI v5))] [] (cm w) (f_X11_costOf_b43_b F a0 p1 p2 p3   k43 v4 v5 w) := by
  unfold f_X11_costOf_b43_b
  refine E_iload (pc := 43) hx 4 dX11_costOf_43 rfl ?_
  refine E_iload_n (pc := 45) hx 1 dX11_costOf_45 rfl rfl ?_
  refine E_gd (fun hr9 => ?_)
  refine I_icmp_eq (pc := 46) hx 85 dX11_costOf_46 rfl ⟨hr9.1, hr9.2⟩ ?_ ?_
  · refine E_iload (pc := 85) hx 3 dX11_costOf_85 rfl ?_
    exact E_iret (pc := 87) hx dX11_costOf_87 rfl rfl (Nat.le_of_ble_eq_true rfl)
  refine E_iload (pc := 49) hx 3 dX11_costOf_49 rfl ?_
  refine E_aload_n (pc := 51) hx 0 dX11_costOf_51 rfl rfl ?_
  refine E_getR (pc := 52) hx 0 fc9 h0 rfl ⟨rfl, rfl, rfl⟩ g1332 dX11_costOf_52 ?_
  refine E_iload (pc := 55) hx 4 dX11_costOf_55 rfl ?_
  refine I_cSI  (pc := 57) hx [.int (oI v5)] [.ref (shR a0 0), .int (oI v4)] (ev_X11_r F v5 w) sm_X11_r g1322 dX11_costOf_57 rfl rfl (Nat.le_of_ble_eq_true rfl) (Nat.le_of_ble_eq_true rfl) (Nat.le_of_ble_eq_true rfl) (fun r10 => ?_)
  refine I_bipush (pc := 60) hx 9 dX11_costOf_60 rfl ?_
  refine I_iadd (pc := 62) hx dX11_costOf_62 ?_
  refine I_iald (pc := 63) hx (kt_9_0 h0) dX11_costOf_63 ?_
  refine E_aload_n (pc := 64) hx 0 dX11_costOf_64 rfl rfl ?_
  refine E_iload_n (pc := 65) hx 2 dX11_costOf_65 rfl rfl ?_
  refine I_cVI  (pc := 66) hx [.int (oI p3)] [.int (oI (w (shR a0 0) (r10 + 9))), .int (oI v4)] (ev_X11_barsOf F a0 h0 p3 w) vm_X11_barsOf fc9 h0 g1657 dX11_costOf_66 rfl rfl (Nat.le_of_ble_eq_true rfl) (Nat.le_of_ble_eq_true rfl) (Nat.le_of_ble_eq_true rfl) (fun r11 => ?_)
  refine I_imul (pc := 69) hx dX11_costOf_69 ?_
  refine I_iadd (pc := 70) hx dX11_costOf_70 ?_
  refine I_ltv (fun v4_12 => ?_)
  refine E_istore (pc := 71) hx dX11_costOf_71 (Nat.le_of_ble_eq_true rfl) rfl ?_
  refine E_aload_n (pc := 73) hx 1 dX11_costOf_73 rfl rfl ?_
  refine E_iload (pc := 74) hx 4 dX11_costOf_74 rfl ?_
  refine E_iload_n (pc := 76) hx 2 dX11_costOf_76 rfl rfl ?_
  refine I_cVIW  (pc := 77) hx [.int (oI v5), .int (oI p2)] [] (ev_X11_nextTo F a0 h0 v5 p2 w) vm_X11_nextTo fc9 h0 g1669 dX11_costOf_77 rfl rfl (Nat.le_of_ble_eq_true rfl) (Nat.le_of_ble_eq_true rfl) (Nat.le_of_ble_eq_true rfl) (fun r13 w14 => ?_)
  refine E_istore (pc := 80) hx dX11_costOf_80 (Nat.le_of_ble_eq_true rfl) rfl ?_
  refine E_goto (pc := 82) hx 43 dX11_costOf_82 rfl ?_
  refine En.sub [2, 3, 4, 1, 0] rfl ?_
  exact hk43 v4_12 r13 w14
theorem l_X11_costOf_b43 {x : Cx} (F : Nat) (a0 : Nat) (h0 : shK a0 = 10 + 9) (p1 : Int) (p2 : Int) (p3 : Int)  (hx : CxOK x RX11 cX11_costOf 6 6 0 (some .int))  : ∀ (n : Nat) (v4 : Int) (v5 : Int) (w : aI), En x jvIW 0 0 43 [(0, .ref a0), (2, .int (oI p2)), (3, .int (oI p3)), (4, .int (oI v4)), (5, .int (oI v5))] [] (cm w) (f_X11_costOf_b43 F a0 p1 p2 p3   n v4 v5 w) := by
  intro n
  induction n with
  | zero => intro v4 v5 w; exact E_none
  | succ n ih => intro v4 v5 w; exact l_X11_costOf_b43_b F a0 h0 p1 p2 p3  hx  _ ih v4 v5 w
set_option maxHeartbeats 4000000 in
set_option maxRecDepth 100000 in
theorem ev_X11_costOf (F : Nat) (a0 : Nat) (h0 : shK a0 = 10 + 9) (p1 : Int) (p2 : Int) (p3 : Int) (w : aI) : Ev yX11_costOf cX11_costOf 6 (some .int) 6 0 jvIW [.ref a0, .int (oI p1), .int (oI p2), .int (oI p3)] (cm w) (f_X11_costOf F a0 p1 p2 p3 w) := by
  refine Ev.of (own := RX11) (by decide +kernel) rfl (Nat.le_of_ble_eq_true rfl) (fun x hx => ?_)
  show En x jvIW 0 0 0 [(0, .ref a0), (1, .int (oI p1)), (2, .int (oI p2)), (3, .int (oI p3))] [] (cm w) _
  unfold f_X11_costOf
  refine E_aload_n (pc := 0) hx 0 dX11_costOf_0 rfl rfl ?_
  refine E_aload_n (pc := 1) hx 0 dX11_costOf_1 rfl rfl ?_
  refine E_iload_n (pc := 2) hx 1 dX11_costOf_2 rfl rfl ?_
  refine E_iload_n (pc := 3) hx 2 dX11_costOf_3 rfl rfl ?_
  refine I_cVB  (pc := 4) hx [.int (oI p1), .int (oI p2)] [.ref a0] (ev_X11_areRoofs F a0 h0 p1 p2 w) vm_X11_areRoofs fc9 h0 g1765 dX11_costOf_4 rfl rfl (Nat.le_of_ble_eq_true rfl) (Nat.le_of_ble_eq_true rfl) (Nat.le_of_ble_eq_true rfl) (fun r1 => ?_)
  refine E_iload_n (pc := 7) hx 3 dX11_costOf_7 rfl rfl ?_
  refine E_gd (fun hr2 => ?_)
  refine I_i2l (pc := 8) hx dX11_costOf_8 hr2 ?_
  refine I_lconst (pc := 9) hx 1 dX11_costOf_9 rfl ?_
  refine I_ldc2 (pc := 10) hx 8 g1810 rfl dX11_costOf_10 ?_
  refine I_cSB  (pc := 13) hx [.long (oL p3), .long (oL 1), .long (oL 8)] [.int (oI (bI r1)), .ref a0] (ev_X11_in F p3 1 8 w) sm_X11_in g1434 dX11_costOf_13 rfl rfl (Nat.le_of_ble_eq_true rfl) (Nat.le_of_ble_eq_true rfl) (Nat.le_of_ble_eq_true rfl) (fun r3 => ?_)
  refine I_iconst (pc := 16) hx 1 dX11_costOf_16 ?_
  refine I_cVBW  (pc := 17) hx [.int (oI (bI r1)), .int (oI (bI r3)), .int (oI 1)] [] (ev_X11_may F a0 h0 (bI r1) (bI r3) 1 w) vm_X11_may fc9 h0 g1714 dX11_costOf_17 rfl rfl (Nat.le_of_ble_eq_true rfl) (Nat.le_of_ble_eq_true rfl) (Nat.le_of_ble_eq_true rfl) (fun r4 w5 => ?_)
  refine I_ifB_ne (pc := 20) hx 25 dX11_costOf_20 rfl ?_ ?_
  · refine E_aload_n (pc := 25) hx 0 dX11_costOf_25 rfl rfl ?_
    refine E_iload_n (pc := 26) hx 1 dX11_costOf_26 rfl rfl ?_
    refine E_iload_n (pc := 27) hx 2 dX11_costOf_27 rfl rfl ?_
    refine I_cVIW  (pc := 28) hx [.int (oI p1), .int (oI p2)] [] (ev_X11_sumTo F a0 h0 p1 p2 w5) vm_X11_sumTo fc9 h0 g1673 dX11_costOf_28 rfl rfl (Nat.le_of_ble_eq_true rfl) (Nat.le_of_ble_eq_true rfl) (Nat.le_of_ble_eq_true rfl) (fun r6 w7 => ?_)
    refine I_iconst (pc := 31) hx (-1) dX11_costOf_31 ?_
    refine E_gd (fun hr8 => ?_)
    refine I_icmp_ne (pc := 32) hx 37 dX11_costOf_32 rfl ⟨hr8, (by decide)⟩ ?_ ?_
    · refine I_iconst (pc := 37) hx 0 dX11_costOf_37 ?_
      refine E_istore (pc := 38) hx dX11_costOf_38 (Nat.le_of_ble_eq_true rfl) rfl ?_
      refine E_iload_n (pc := 40) hx 2 dX11_costOf_40 rfl rfl ?_
      refine E_istore (pc := 41) hx dX11_costOf_41 (Nat.le_of_ble_eq_true rfl) rfl ?_
      refine En.sub [2, 4, 5, 1, 0] rfl ?_
      exact l_X11_costOf_b43 F a0 h0 p1 p2 p3 hx F 0 p1 w7
    refine I_iconst (pc := 35) hx (-1) dX11_costOf_35 ?_
    exact E_iret (pc := 36) hx dX11_costOf_36 rfl rfl (Nat.le_of_ble_eq_true rfl)
  refine I_iconst (pc := 23) hx 0 dX11_costOf_23 ?_
  exact E_iret (pc := 24) hx dX11_costOf_24 rfl rfl (Nat.le_of_ble_eq_true rfl)
set_option maxHeartbeats 4000000 in
set_option maxRecDepth 100000 in
theorem l_X11_wrongOf_b6_b {x : Cx} (F : Nat) (a0 : Nat) (h0 : shK a0 = 10 + 9) (p1 : Int) (p2 : Int) (p3 : Int) (p4 : Int)  (hx : CxOK x RX11 cX11_wrongOf 8 6 0 (some .int))  (k6 : Int → Int → aI → Option (Int × aI)) (hk6 : ∀ (v5 : Int) (v6 : Int) (w : aI), En x jvIW 0 0 6 [(0, .ref a0), (2, .int (oI p2)), (3, .int (oI p3)), (4, .int (oI p4)), (5, .int (oI v5)), (6, .int (oI v6))] [] (cm w) (k6 v5 v6 w)) (v5 : Int) (v6 : Int) (w : aI) : En x jvIW 0 0 6 [(0, .ref a0), (2, .int (oI p2)), (3, .int (oI p3)), (4, .int (oI p4)), (5, .int (oI v5)), (6, .int (oI v6))] [] (cm w) (f_X11_wrongOf_b6_b F a0 p1 p2 p3 p4   k6 v5 v6 w) := by
  unfold f_X11_wrongOf_b6_b
  refine E_iload (pc := 6) hx 5 dX11_wrongOf_6 rfl ?_
  refine E_iload_n (pc := 8) hx 1 dX11_wrongOf_8 rfl rfl ?_
  refine E_gd (fun hr1 => ?_)
  refine I_icmp_eq (pc := 9) hx 60 dX11_wrongOf_9 rfl ⟨hr1.1, hr1.2⟩ ?_ ?_
  · refine E_iload (pc := 60) hx 4 dX11_wrongOf_60 rfl ?_
    exact E_iret (pc := 62) hx dX11_wrongOf_62 rfl rfl (Nat.le_of_ble_eq_true rfl)
  refine E_aload_n (pc := 12) hx 0 dX11_wrongOf_12 rfl rfl ?_
  refine E_iload (pc := 13) hx 5 dX11_wrongOf_13 rfl ?_
  refine E_iload_n (pc := 15) hx 1 dX11_wrongOf_15 rfl rfl ?_
  refine I_cVIW  (pc := 16) hx [.int (oI v6), .int (oI p2)] [] (ev_X11_nextTo F a0 h0 v6 p2 w) vm_X11_nextTo fc9 h0 g1669 dX11_wrongOf_16 rfl rfl (Nat.le_of_ble_eq_true rfl) (Nat.le_of_ble_eq_true rfl) (Nat.le_of_ble_eq_true rfl) (fun r2 w3 => ?_)
  refine E_istore (pc := 19) hx dX11_wrongOf_19 (Nat.le_of_ble_eq_true rfl) rfl ?_
  refine E_iload (pc := 21) hx 5 dX11_wrongOf_21 rfl ?_
  refine E_aload_n (pc := 23) hx 1 dX11_wrongOf_23 rfl rfl ?_
  refine E_iload (pc := 24) hx 4 dX11_wrongOf_24 rfl ?_
  refine E_aload_n (pc := 26) hx 1 dX11_wrongOf_26 rfl rfl ?_
  refine E_getR (pc := 27) hx 0 fc9 h0 rfl ⟨rfl, rfl, rfl⟩ g1332 dX11_wrongOf_27 ?_
  refine E_aload_n (pc := 30) hx 1 dX11_wrongOf_30 rfl rfl ?_
  refine E_iload (pc := 31) hx 6 dX11_wrongOf_31 rfl ?_
  refine E_iload (pc := 33) hx 0 dX11_wrongOf_33 rfl ?_
  refine I_cVI  (pc := 35) hx [.int (oI v6), .int (oI r2)] [.ref (shR a0 0), .int (oI p4), .ref a0, .int (oI v5)] (ev_X11_wayBetween F a0 h0 v6 r2 w3) vm_X11_wayBetween fc9 h0 g1520 dX11_wrongOf_35 rfl rfl (Nat.le_of_ble_eq_true rfl) (Nat.le_of_ble_eq_true rfl) (Nat.le_of_ble_eq_true rfl) (fun r4 => ?_)
  refine I_cSI  (pc := 38) hx [.int (oI r4)] [.ref (shR a0 0), .int (oI p4), .ref a0, .int (oI v5)] (ev_X11_w F r4 w3) sm_X11_w g1329 dX11_wrongOf_38 rfl rfl (Nat.le_of_ble_eq_true rfl) (Nat.le_of_ble_eq_true rfl) (Nat.le_of_ble_eq_true rfl) (fun r5 => ?_)
  refine I_iconst (pc := 41) hx 2 dX11_wrongOf_41 ?_
  refine I_iadd (pc := 42) hx dX11_wrongOf_42 ?_
  refine I_iald (pc := 43) hx (kt_9_0 h0) dX11_wrongOf_43 ?_
  refine E_iload (pc := 44) hx 0 dX11_wrongOf_44 rfl ?_
  refine E_iload_n (pc := 46) hx 3 dX11_wrongOf_46 rfl rfl ?_
  refine I_cVI  (pc := 47) hx [.int (oI p4), .int (oI (w3 (shR a0 0) (r5 + 2))), .int (oI r2), .int (oI p3)] [.int (oI v5)] (ev_X11_wrongBy F a0 h0 p4 (w3 (shR a0 0) (r5 + 2)) r2 p3 w3) vm_X11_wrongBy fc9 h0 g1628 dX11_wrongOf_47 rfl rfl (Nat.le_of_ble_eq_true rfl) (Nat.le_of_ble_eq_true rfl) (Nat.le_of_ble_eq_true rfl) (fun r6 => ?_)
  refine I_iadd (pc := 50) hx dX11_wrongOf_50 ?_
  refine I_ltv (fun v5_7 => ?_)
  refine E_istore (pc := 51) hx dX11_wrongOf_51 (Nat.le_of_ble_eq_true rfl) rfl ?_
  refine E_iload (pc := 53) hx 1 dX11_wrongOf_53 rfl ?_
  refine E_istore (pc := 55) hx dX11_wrongOf_55 (Nat.le_of_ble_eq_true rfl) rfl ?_
  refine E_goto (pc := 57) hx 6 dX11_wrongOf_57 rfl ?_
  refine En.sub [3, 4, 5, 6, 1, 0] rfl ?_
  exact hk6 v5_7 r2 w3
theorem l_X11_wrongOf_b6 {x : Cx} (F : Nat) (a0 : Nat) (h0 : shK a0 = 10 + 9) (p1 : Int) (p2 : Int) (p3 : Int) (p4 : Int)  (hx : CxOK x RX11 cX11_wrongOf 8 6 0 (some .int))  : ∀ (n : Nat) (v5 : Int) (v6 : Int) (w : aI), En x jvIW 0 0 6 [(0, .ref a0), (2, .int (oI p2)), (3, .int (oI p3)), (4, .int (oI p4)), (5, .int (oI v5)), (6, .int (oI v6))] [] (cm w) (f_X11_wrongOf_b6 F a0 p1 p2 p3 p4   n v5 v6 w) := by
  intro n
  induction n with
  | zero => intro v5 v6 w; exact E_none
  | succ n ih => intro v5 v6 w; exact l_X11_wrongOf_b6_b F a0 h0 p1 p2 p3 p4  hx  _ ih v5 v6 w
set_option maxHeartbeats 4000000 in
set_option maxRecDepth 100000 in
theorem ev_X11_wrongOf (F : Nat) (a0 : Nat) (h0 : shK a0 = 10 + 9) (p1 : Int) (p2 : Int) (p3 : Int) (p4 : Int) (w : aI) : Ev yX11_wrongOf cX11_wrongOf 8 (some .int) 6 0 jvIW [.ref a0, .int (oI p1), .int (oI p2), .int (oI p3), .int (oI p4)] (cm w) (f_X11_wrongOf F a0 p1 p2 p3 p4 w) := by
  refine Ev.of (own := RX11) (by decide +kernel) rfl (Nat.le_of_ble_eq_true rfl) (fun x hx => ?_)
  show En x jvIW 0 0 0 [(0, .ref a0), (1, .int (oI p1)), (2, .int (oI p2)), (3, .int (oI p3)), (4, .int (oI p4))] [] (cm w) _
  unfold f_X11_wrongOf
  refine I_iconst (pc := 0) hx 0 dX11_wrongOf_0 ?_
  refine E_istore (pc := 1) hx dX11_wrongOf_1 (Nat.le_of_ble_eq_true rfl) rfl ?_
  refine E_iload_n (pc := 3) hx 2 dX11_wrongOf_3 rfl rfl ?_
  refine E_istore (pc := 4) hx dX11_wrongOf_4 (Nat.le_of_ble_eq_true rfl) rfl ?_
  refine En.sub [2, 4, 5, 6, 1, 0] rfl ?_
  exact l_X11_wrongOf_b6 F a0 h0 p1 p2 p3 p4 hx F 0 p1 w
set_option maxHeartbeats 4000000 in
set_option maxRecDepth 100000 in
theorem ev_X11_wrongOn (F : Nat) (a0 : Nat) (h0 : shK a0 = 10 + 9) (p1 : Int) (p2 : Int) (p3 : Int) (w : aI) : Ev yX11_wrongOn cX11_wrongOn 4 (some .int) 7 0 jvIW [.ref a0, .int (oI p1), .int (oI p2), .int (oI p3)] (cm w) (f_X11_wrongOn F a0 p1 p2 p3 w) := by
  refine Ev.of (own := RX11) (by decide +kernel) rfl (Nat.le_of_ble_eq_true rfl) (fun x hx => ?_)
  show En x jvIW 0 0 0 [(0, .ref a0), (1, .int (oI p1)), (2, .int (oI p2)), (3, .int (oI p3))] [] (cm w) _
  unfold f_X11_wrongOn
  refine E_aload_n (pc := 0) hx 0 dX11_wrongOn_0 rfl rfl ?_
  refine E_aload_n (pc := 1) hx 0 dX11_wrongOn_1 rfl rfl ?_
  refine E_iload_n (pc := 2) hx 1 dX11_wrongOn_2 rfl rfl ?_
  refine E_iload_n (pc := 3) hx 2 dX11_wrongOn_3 rfl rfl ?_
  refine I_cVB  (pc := 4) hx [.int (oI p1), .int (oI p2)] [.ref a0] (ev_X11_areRoofs F a0 h0 p1 p2 w) vm_X11_areRoofs fc9 h0 g1765 dX11_wrongOn_4 rfl rfl (Nat.le_of_ble_eq_true rfl) (Nat.le_of_ble_eq_true rfl) (Nat.le_of_ble_eq_true rfl) (fun r1 => ?_)
  refine E_iload_n (pc := 7) hx 3 dX11_wrongOn_7 rfl rfl ?_
  refine E_gd (fun hr2 => ?_)
  refine I_i2l (pc := 8) hx dX11_wrongOn_8 hr2 ?_
  refine I_lconst (pc := 9) hx 1 dX11_wrongOn_9 rfl ?_
  refine I_ldc2 (pc := 10) hx 8 g1810 rfl dX11_wrongOn_10 ?_
  refine I_cSB  (pc := 13) hx [.long (oL p3), .long (oL 1), .long (oL 8)] [.int (oI (bI r1)), .ref a0] (ev_X11_in F p3 1 8 w) sm_X11_in g1434 dX11_wrongOn_13 rfl rfl (Nat.le_of_ble_eq_true rfl) (Nat.le_of_ble_eq_true rfl) (Nat.le_of_ble_eq_true rfl) (fun r3 => ?_)
  refine I_iconst (pc := 16) hx 1 dX11_wrongOn_16 ?_
  refine I_cVBW  (pc := 17) hx [.int (oI (bI r1)), .int (oI (bI r3)), .int (oI 1)] [] (ev_X11_may F a0 h0 (bI r1) (bI r3) 1 w) vm_X11_may fc9 h0 g1714 dX11_wrongOn_17 rfl rfl (Nat.le_of_ble_eq_true rfl) (Nat.le_of_ble_eq_true rfl) (Nat.le_of_ble_eq_true rfl) (fun r4 w5 => ?_)
  refine I_ifB_ne (pc := 20) hx 25 dX11_wrongOn_20 rfl ?_ ?_
  · refine E_aload_n (pc := 25) hx 0 dX11_wrongOn_25 rfl rfl ?_
    refine E_iload_n (pc := 26) hx 1 dX11_wrongOn_26 rfl rfl ?_
    refine E_iload_n (pc := 27) hx 2 dX11_wrongOn_27 rfl rfl ?_
    refine I_cVIW  (pc := 28) hx [.int (oI p1), .int (oI p2)] [] (ev_X11_sumTo F a0 h0 p1 p2 w5) vm_X11_sumTo fc9 h0 g1673 dX11_wrongOn_28 rfl rfl (Nat.le_of_ble_eq_true rfl) (Nat.le_of_ble_eq_true rfl) (Nat.le_of_ble_eq_true rfl) (fun r6 w7 => ?_)
    refine I_iconst (pc := 31) hx (-1) dX11_wrongOn_31 ?_
    refine E_gd (fun hr8 => ?_)
    refine I_icmp_ne (pc := 32) hx 39 dX11_wrongOn_32 rfl ⟨hr8, (by decide)⟩ ?_ ?_
    · refine E_aload_n (pc := 39) hx 0 dX11_wrongOn_39 rfl rfl ?_
      refine E_iload_n (pc := 40) hx 1 dX11_wrongOn_40 rfl rfl ?_
      refine E_iload_n (pc := 41) hx 2 dX11_wrongOn_41 rfl rfl ?_
      refine E_iload_n (pc := 42) hx 3 dX11_wrongOn_42 rfl rfl ?_
      refine E_aload_n (pc := 43) hx 0 dX11_wrongOn_43 rfl rfl ?_
      refine E_getR (pc := 44) hx 0 fc9 h0 rfl ⟨rfl, rfl, rfl⟩ g1332 dX11_wrongOn_44 ?_
      refine I_iconst (pc := 47) hx 4 dX11_wrongOn_47 ?_
      refine I_iald (pc := 48) hx (kt_9_0 h0) dX11_wrongOn_48 ?_
      refine I_cVIW  (pc := 49) hx [.int (oI p1), .int (oI p2), .int (oI p3), .int (oI (w7 (shR a0 0) 4))] [] (ev_X11_wrongOf F a0 h0 p1 p2 p3 (w7 (shR a0 0) 4) w7) vm_X11_wrongOf fc9 h0 g1815 dX11_wrongOn_49 rfl rfl (Nat.le_of_ble_eq_true rfl) (Nat.le_of_ble_eq_true rfl) (Nat.le_of_ble_eq_true rfl) (fun r9 w10 => ?_)
      exact E_iret (pc := 52) hx dX11_wrongOn_52 rfl rfl (Nat.le_of_ble_eq_true rfl)
    refine I_iconst (pc := 35) hx (-1) dX11_wrongOn_35 ?_
    refine E_goto (pc := 36) hx 52 dX11_wrongOn_36 rfl ?_
    exact E_iret (pc := 52) hx dX11_wrongOn_52 rfl rfl (Nat.le_of_ble_eq_true rfl)
  refine I_iconst (pc := 23) hx 0 dX11_wrongOn_23 ?_
  exact E_iret (pc := 24) hx dX11_wrongOn_24 rfl rfl (Nat.le_of_ble_eq_true rfl)
set_option maxHeartbeats 4000000 in
set_option maxRecDepth 100000 in
theorem l_X11_calmest_b32_b {x : Cx} (F : Nat) (a0 : Nat) (h0 : shK a0 = 10 + 9) (p1 : Int) (p2 : Int)  (hx : CxOK x RX11 cX11_calmest 4 7 0 (some .int))  (k32 : Int → aI → Option (Int × aI)) (hk32 : ∀ (v3 : Int) (w : aI), En x jvIW 0 0 32 [(0, .ref a0), (1, .int (oI p1)), (2, .int (oI p2)), (3, .int (oI v3))] [] (cm w) (k32 v3 w)) (v3 : Int) (w : aI) : En x jvIW 0 0 32 [(0, .ref a0), (1, .int (oI p1)), (2, .int (oI p2)), (3, .int (oI v3))] [] (cm w) (f_X11_calmest_b32_b F a0 p1 p2   k32 v3 w) := by
  unfold f_X11_calmest_b32_b
  refine E_aload_n (pc := 32) hx 0 dX11_calmest_32 rfl rfl ?_
  refine E_iload_n (pc := 33) hx 1 dX11_calmest_33 rfl rfl ?_
  refine E_iload_n (pc := 34) hx 2 dX11_calmest_34 rfl rfl ?_
  refine I_iconst (pc := 35) hx 1 dX11_calmest_35 ?_
  refine E_iload_n (pc := 36) hx 3 dX11_calmest_36 rfl rfl ?_
  refine I_cVIW  (pc := 37) hx [.int (oI p1), .int (oI p2), .int (oI 1), .int (oI v3)] [] (ev_X11_wrongOf F a0 h0 p1 p2 1 v3 w) vm_X11_wrongOf fc9 h0 g1815 dX11_calmest_37 rfl rfl (Nat.le_of_ble_eq_true rfl) (Nat.le_of_ble_eq_true rfl) (Nat.le_of_ble_eq_true rfl) (fun r7 w8 => ?_)
  refine E_gd (fun hr9 => ?_)
  refine I_if_le (pc := 40) hx 49 dX11_calmest_40 rfl hr9 ?_ ?_
  · refine E_iload_n (pc := 49) hx 3 dX11_calmest_49 rfl rfl ?_
    exact E_iret (pc := 50) hx dX11_calmest_50 rfl rfl (Nat.le_of_ble_eq_true rfl)
  refine I_iinc (pc := 43) hx (-1) 3 dX11_calmest_43 rfl (Nat.le_of_ble_eq_true rfl) rfl ?_
  refine E_goto (pc := 46) hx 32 dX11_calmest_46 rfl ?_
  refine En.sub [1, 2, 3, 0] rfl ?_
  exact hk32 (v3 + (-1)) w8
theorem l_X11_calmest_b32 {x : Cx} (F : Nat) (a0 : Nat) (h0 : shK a0 = 10 + 9) (p1 : Int) (p2 : Int)  (hx : CxOK x RX11 cX11_calmest 4 7 0 (some .int))  : ∀ (n : Nat) (v3 : Int) (w : aI), En x jvIW 0 0 32 [(0, .ref a0), (1, .int (oI p1)), (2, .int (oI p2)), (3, .int (oI v3))] [] (cm w) (f_X11_calmest_b32 F a0 p1 p2   n v3 w) := by
  intro n
  induction n with
  | zero => intro v3 w; exact E_none
  | succ n ih => intro v3 w; exact l_X11_calmest_b32_b F a0 h0 p1 p2  hx  _ ih v3 w
set_option maxHeartbeats 4000000 in
set_option maxRecDepth 100000 in
theorem ev_X11_calmest (F : Nat) (a0 : Nat) (h0 : shK a0 = 10 + 9) (p1 : Int) (p2 : Int) (w : aI) : Ev yX11_calmest cX11_calmest 4 (some .int) 7 0 jvIW [.ref a0, .int (oI p1), .int (oI p2)] (cm w) (f_X11_calmest F a0 p1 p2 w) := by
  refine Ev.of (own := RX11) (by decide +kernel) rfl (Nat.le_of_ble_eq_true rfl) (fun x hx => ?_)
  show En x jvIW 0 0 0 [(0, .ref a0), (1, .int (oI p1)), (2, .int (oI p2))] [] (cm w) _
  unfold f_X11_calmest
  refine E_aload_n (pc := 0) hx 0 dX11_calmest_0 rfl rfl ?_
  refine E_aload_n (pc := 1) hx 0 dX11_calmest_1 rfl rfl ?_
  refine E_iload_n (pc := 2) hx 1 dX11_calmest_2 rfl rfl ?_
  refine E_iload_n (pc := 3) hx 2 dX11_calmest_3 rfl rfl ?_
  refine I_cVB  (pc := 4) hx [.int (oI p1), .int (oI p2)] [.ref a0] (ev_X11_areRoofs F a0 h0 p1 p2 w) vm_X11_areRoofs fc9 h0 g1765 dX11_calmest_4 rfl rfl (Nat.le_of_ble_eq_true rfl) (Nat.le_of_ble_eq_true rfl) (Nat.le_of_ble_eq_true rfl) (fun r1 => ?_)
  refine I_iconst (pc := 7) hx 1 dX11_calmest_7 ?_
  refine I_iconst (pc := 8) hx 1 dX11_calmest_8 ?_
  refine I_cVBW  (pc := 9) hx [.int (oI (bI r1)), .int (oI 1), .int (oI 1)] [] (ev_X11_may F a0 h0 (bI r1) 1 1 w) vm_X11_may fc9 h0 g1714 dX11_calmest_9 rfl rfl (Nat.le_of_ble_eq_true rfl) (Nat.le_of_ble_eq_true rfl) (Nat.le_of_ble_eq_true rfl) (fun r2 w3 => ?_)
  refine I_ifB_ne (pc := 12) hx 17 dX11_calmest_12 rfl ?_ ?_
  · refine E_aload_n (pc := 17) hx 0 dX11_calmest_17 rfl rfl ?_
    refine E_iload_n (pc := 18) hx 1 dX11_calmest_18 rfl rfl ?_
    refine E_iload_n (pc := 19) hx 2 dX11_calmest_19 rfl rfl ?_
    refine I_cVIW  (pc := 20) hx [.int (oI p1), .int (oI p2)] [] (ev_X11_sumTo F a0 h0 p1 p2 w3) vm_X11_sumTo fc9 h0 g1673 dX11_calmest_20 rfl rfl (Nat.le_of_ble_eq_true rfl) (Nat.le_of_ble_eq_true rfl) (Nat.le_of_ble_eq_true rfl) (fun r4 w5 => ?_)
    refine I_iconst (pc := 23) hx (-1) dX11_calmest_23 ?_
    refine E_gd (fun hr6 => ?_)
    refine I_icmp_ne (pc := 24) hx 29 dX11_calmest_24 rfl ⟨hr6, (by decide)⟩ ?_ ?_
    · refine I_bipush (pc := 29) hx 9 dX11_calmest_29 rfl ?_
      refine E_istore_n (pc := 31) hx dX11_calmest_31 rfl (Nat.le_of_ble_eq_true rfl) rfl ?_
      refine En.sub [1, 2, 3, 0] rfl ?_
      exact l_X11_calmest_b32 F a0 h0 p1 p2 hx F 9 w5
    refine I_iconst (pc := 27) hx (-1) dX11_calmest_27 ?_
    exact E_iret (pc := 28) hx dX11_calmest_28 rfl rfl (Nat.le_of_ble_eq_true rfl)
  refine I_iconst (pc := 15) hx 0 dX11_calmest_15 ?_
  exact E_iret (pc := 16) hx dX11_calmest_16 rfl rfl (Nat.le_of_ble_eq_true rfl)
set_option maxHeartbeats 4000000 in
set_option maxRecDepth 100000 in
theorem l_X11_arrivesIn_b26_b {x : Cx} (F : Nat) (a0 : Nat) (h0 : shK a0 = 10 + 9) (p1 : Int)  (hx : CxOK x RX11 cX11_arrivesIn 3 8 0 (some .int))  (k26 : Int → aI → Option (Int × aI)) (hk26 : ∀ (v2 : Int) (w : aI), En x jvIW 0 0 26 [(0, .ref a0), (1, .int (oI p1)), (2, .int (oI v2))] [] (cm w) (k26 v2 w)) (v2 : Int) (w : aI) : En x jvIW 0 0 26 [(0, .ref a0), (1, .int (oI p1)), (2, .int (oI v2))] [] (cm w) (f_X11_arrivesIn_b26_b F a0 p1   k26 v2 w) := by
  unfold f_X11_arrivesIn_b26_b
  refine E_iload_n (pc := 26) hx 2 dX11_arrivesIn_26 rfl rfl ?_
  refine I_sipush (pc := 27) hx 200 dX11_arrivesIn_27 rfl ?_
  refine E_gd (fun hr5 => ?_)
  refine I_icmp_gt (pc := 30) hx 68 dX11_arrivesIn_30 rfl ⟨hr5, (by decide)⟩ ?_ ?_
  · refine E_aload_n (pc := 68) hx 0 dX11_arrivesIn_68 rfl rfl ?_
    refine E_aload_n (pc := 69) hx 0 dX11_arrivesIn_69 rfl rfl ?_
    refine E_getR (pc := 70) hx 1 fc9 h0 rfl ⟨rfl, rfl, rfl⟩ g1333 dX11_arrivesIn_70 ?_
    refine I_iconst (pc := 73) hx (-1) dX11_arrivesIn_73 ?_
    refine I_cVIW  (pc := 74) hx [.ref (shR a0 1), .int (oI (-1))] [] (ev_X11_gives F a0 h0 (shR a0 1) (kt_9_1 h0) (-1) w) vm_X11_gives fc9 h0 g1553 dX11_arrivesIn_74 rfl rfl (Nat.le_of_ble_eq_true rfl) (Nat.le_of_ble_eq_true rfl) (Nat.le_of_ble_eq_true rfl) (fun r6 w7 => ?_)
    exact E_iret (pc := 77) hx dX11_arrivesIn_77 rfl rfl (Nat.le_of_ble_eq_true rfl)
  refine E_aload_n (pc := 33) hx 0 dX11_arrivesIn_33 rfl rfl ?_
  refine E_getR (pc := 34) hx 0 fc9 h0 rfl ⟨rfl, rfl, rfl⟩ g1332 dX11_arrivesIn_34 ?_
  refine E_iload_n (pc := 37) hx 1 dX11_arrivesIn_37 rfl rfl ?_
  refine I_cSI  (pc := 38) hx [.int (oI p1)] [.ref (shR a0 0)] (ev_X11_t F p1 w) sm_X11_t g1594 dX11_arrivesIn_38 rfl rfl (Nat.le_of_ble_eq_true rfl) (Nat.le_of_ble_eq_true rfl) (Nat.le_of_ble_eq_true rfl) (fun r8 => ?_)
  refine I_iconst (pc := 41) hx 3 dX11_arrivesIn_41 ?_
  refine I_iadd (pc := 42) hx dX11_arrivesIn_42 ?_
  refine I_iald (pc := 43) hx (kt_9_0 h0) dX11_arrivesIn_43 ?_
  refine I_iconst (pc := 44) hx 2 dX11_arrivesIn_44 ?_
  refine E_gd (fun hr9 => ?_)
  refine I_icmp_ne (pc := 45) hx 58 dX11_arrivesIn_45 rfl ⟨hr9, (by decide)⟩ ?_ ?_
  · refine E_aload_n (pc := 58) hx 0 dX11_arrivesIn_58 rfl rfl ?_
    refine I_cVV  (pc := 59) hx [] [] (ev_X11_ticks F a0 h0 w) vm_X11_ticks fc9 h0 g1612 dX11_arrivesIn_59 rfl rfl (Nat.le_of_ble_eq_true rfl) (Nat.le_of_ble_eq_true rfl) (Nat.le_of_ble_eq_true rfl) (fun w10 => ?_)
    refine I_iinc (pc := 62) hx 1 2 dX11_arrivesIn_62 rfl (Nat.le_of_ble_eq_true rfl) rfl ?_
    refine E_goto (pc := 65) hx 26 dX11_arrivesIn_65 rfl ?_
    refine En.sub [1, 2, 0] rfl ?_
    exact hk26 (v2 + 1) w10
  refine E_aload_n (pc := 48) hx 0 dX11_arrivesIn_48 rfl rfl ?_
  refine E_aload_n (pc := 49) hx 0 dX11_arrivesIn_49 rfl rfl ?_
  refine E_getR (pc := 50) hx 1 fc9 h0 rfl ⟨rfl, rfl, rfl⟩ g1333 dX11_arrivesIn_50 ?_
  refine E_iload_n (pc := 53) hx 2 dX11_arrivesIn_53 rfl rfl ?_
  refine I_cVIW  (pc := 54) hx [.ref (shR a0 1), .int (oI v2)] [] (ev_X11_gives F a0 h0 (shR a0 1) (kt_9_1 h0) v2 w) vm_X11_gives fc9 h0 g1553 dX11_arrivesIn_54 rfl rfl (Nat.le_of_ble_eq_true rfl) (Nat.le_of_ble_eq_true rfl) (Nat.le_of_ble_eq_true rfl) (fun r11 w12 => ?_)
  exact E_iret (pc := 57) hx dX11_arrivesIn_57 rfl rfl (Nat.le_of_ble_eq_true rfl)
theorem l_X11_arrivesIn_b26 {x : Cx} (F : Nat) (a0 : Nat) (h0 : shK a0 = 10 + 9) (p1 : Int)  (hx : CxOK x RX11 cX11_arrivesIn 3 8 0 (some .int))  : ∀ (n : Nat) (v2 : Int) (w : aI), En x jvIW 0 0 26 [(0, .ref a0), (1, .int (oI p1)), (2, .int (oI v2))] [] (cm w) (f_X11_arrivesIn_b26 F a0 p1   n v2 w) := by
  intro n
  induction n with
  | zero => intro v2 w; exact E_none
  | succ n ih => intro v2 w; exact l_X11_arrivesIn_b26_b F a0 h0 p1  hx  _ ih v2 w
set_option maxHeartbeats 4000000 in
set_option maxRecDepth 100000 in
theorem ev_X11_arrivesIn (F : Nat) (a0 : Nat) (h0 : shK a0 = 10 + 9) (p1 : Int) (w : aI) : Ev yX11_arrivesIn cX11_arrivesIn 3 (some .int) 8 0 jvIW [.ref a0, .int (oI p1)] (cm w) (f_X11_arrivesIn F a0 p1 w) := by
  refine Ev.of (own := RX11) (by decide +kernel) rfl (Nat.le_of_ble_eq_true rfl) (fun x hx => ?_)
  show En x jvIW 0 0 0 [(0, .ref a0), (1, .int (oI p1))] [] (cm w) _
  unfold f_X11_arrivesIn
  refine E_aload_n (pc := 0) hx 0 dX11_arrivesIn_0 rfl rfl ?_
  refine E_aload_n (pc := 1) hx 0 dX11_arrivesIn_1 rfl rfl ?_
  refine E_iload_n (pc := 2) hx 1 dX11_arrivesIn_2 rfl rfl ?_
  refine I_cVB  (pc := 3) hx [.int (oI p1)] [.ref a0] (ev_X11_isTune F a0 h0 p1 w) vm_X11_isTune fc9 h0 g1777 dX11_arrivesIn_3 rfl rfl (Nat.le_of_ble_eq_true rfl) (Nat.le_of_ble_eq_true rfl) (Nat.le_of_ble_eq_true rfl) (fun r1 => ?_)
  refine I_iconst (pc := 6) hx 1 dX11_arrivesIn_6 ?_
  refine I_iconst (pc := 7) hx 1 dX11_arrivesIn_7 ?_
  refine I_cVBW  (pc := 8) hx [.int (oI (bI r1)), .int (oI 1), .int (oI 1)] [] (ev_X11_may F a0 h0 (bI r1) 1 1 w) vm_X11_may fc9 h0 g1714 dX11_arrivesIn_8 rfl rfl (Nat.le_of_ble_eq_true rfl) (Nat.le_of_ble_eq_true rfl) (Nat.le_of_ble_eq_true rfl) (fun r2 w3 => ?_)
  refine I_ifB_ne (pc := 11) hx 16 dX11_arrivesIn_11 rfl ?_ ?_
  · refine E_aload_n (pc := 16) hx 0 dX11_arrivesIn_16 rfl rfl ?_
    refine E_aload_n (pc := 17) hx 0 dX11_arrivesIn_17 rfl rfl ?_
    refine E_getR (pc := 18) hx 1 fc9 h0 rfl ⟨rfl, rfl, rfl⟩ g1333 dX11_arrivesIn_18 ?_
    refine I_cVV  (pc := 21) hx [.ref (shR a0 1)] [] (ev_X11_copies F a0 h0 (shR a0 1) (kt_9_1 h0) w3) vm_X11_copies fc9 h0 g1449 dX11_arrivesIn_21 rfl rfl (Nat.le_of_ble_eq_true rfl) (Nat.le_of_ble_eq_true rfl) (Nat.le_of_ble_eq_true rfl) (fun w4 => ?_)
    refine I_iconst (pc := 24) hx 0 dX11_arrivesIn_24 ?_
    refine E_istore_n (pc := 25) hx dX11_arrivesIn_25 rfl (Nat.le_of_ble_eq_true rfl) rfl ?_
    refine En.sub [1, 2, 0] rfl ?_
    exact l_X11_arrivesIn_b26 F a0 h0 p1 hx F 0 w4
  refine I_iconst (pc := 14) hx 0 dX11_arrivesIn_14 ?_
  exact E_iret (pc := 15) hx dX11_arrivesIn_15 rfl rfl (Nat.le_of_ble_eq_true rfl)
set_option maxHeartbeats 4000000 in
set_option maxRecDepth 100000 in
theorem l_X11_growsBy_b30 {x : Cx} (F : Nat) (a0 : Nat) (h0 : shK a0 = 10 + 9) (p1 : Int) (p2 : Int)  (hx : CxOK x RX11 cX11_growsBy 5 9 0 (some .int))   (z0 : Int) (z1 : Nat) (hz1 : shK z1 = 10 + 9) (w : aI) : En x jvIW 0 0 30 [(0, .ref a0), (1, .int (oI p1)), (2, .int (oI p2))] [.int (oI z0), .ref z1] (cm w) (f_X11_growsBy_b30 F a0 p1 p2    z0 z1 w) := by
  unfold f_X11_growsBy_b30
  refine I_iconst (pc := 30) hx 1 dX11_growsBy_30 ?_
  refine I_iconst (pc := 31) hx 1 dX11_growsBy_31 ?_
  refine I_cVBW  (pc := 32) hx [.int (oI z0), .int (oI 1), .int (oI 1)] [] (ev_X11_may F z1 hz1 z0 1 1 w) vm_X11_may fc9 hz1 g1714 dX11_growsBy_32 rfl rfl (Nat.le_of_ble_eq_true rfl) (Nat.le_of_ble_eq_true rfl) (Nat.le_of_ble_eq_true rfl) (fun r3 w4 => ?_)
  refine I_ifB_ne (pc := 35) hx 40 dX11_growsBy_35 rfl ?_ ?_
  · refine E_aload_n (pc := 40) hx 0 dX11_growsBy_40 rfl rfl ?_
    refine E_getR (pc := 41) hx 0 fc9 h0 rfl ⟨rfl, rfl, rfl⟩ g1332 dX11_growsBy_41 ?_
    refine I_bipush (pc := 44) hx 10 dX11_growsBy_44 rfl ?_
    refine E_iload_n (pc := 46) hx 1 dX11_growsBy_46 rfl rfl ?_
    refine I_iadd (pc := 47) hx dX11_growsBy_47 ?_
    refine I_iald (pc := 48) hx (kt_9_0 h0) dX11_growsBy_48 ?_
    refine I_ltv (fun v3_5 => ?_)
    refine E_istore_n (pc := 49) hx dX11_growsBy_49 rfl (Nat.le_of_ble_eq_true rfl) rfl ?_
    refine E_aload_n (pc := 50) hx 1 dX11_growsBy_50 rfl rfl ?_
    refine E_aload_n (pc := 51) hx 1 dX11_growsBy_51 rfl rfl ?_
    refine E_getR (pc := 52) hx 1 fc9 h0 rfl ⟨rfl, rfl, rfl⟩ g1333 dX11_growsBy_52 ?_
    refine I_cVV  (pc := 55) hx [.ref (shR a0 1)] [] (ev_X11_copies F a0 h0 (shR a0 1) (kt_9_1 h0) w4) vm_X11_copies fc9 h0 g1449 dX11_growsBy_55 rfl rfl (Nat.le_of_ble_eq_true rfl) (Nat.le_of_ble_eq_true rfl) (Nat.le_of_ble_eq_true rfl) (fun w6 => ?_)
    refine E_aload_n (pc := 58) hx 1 dX11_growsBy_58 rfl rfl ?_
    refine E_iload_n (pc := 59) hx 3 dX11_growsBy_59 rfl rfl ?_
    refine I_cVIW  (pc := 60) hx [.int (oI p2)] [] (ev_X11_goes F a0 h0 p2 w6) vm_X11_goes fc9 h0 g1608 dX11_growsBy_60 rfl rfl (Nat.le_of_ble_eq_true rfl) (Nat.le_of_ble_eq_true rfl) (Nat.le_of_ble_eq_true rfl) (fun r7 w8 => ?_)
    refine E_istore (pc := 63) hx dX11_growsBy_63 (Nat.le_of_ble_eq_true rfl) rfl ?_
    refine E_aload_n (pc := 65) hx 2 dX11_growsBy_65 rfl rfl ?_
    refine E_aload_n (pc := 66) hx 2 dX11_growsBy_66 rfl rfl ?_
    refine E_getR (pc := 67) hx 1 fc9 h0 rfl ⟨rfl, rfl, rfl⟩ g1333 dX11_growsBy_67 ?_
    refine E_aload_n (pc := 70) hx 2 dX11_growsBy_70 rfl rfl ?_
    refine E_getR (pc := 71) hx 0 fc9 h0 rfl ⟨rfl, rfl, rfl⟩ g1332 dX11_growsBy_71 ?_
    refine I_bipush (pc := 74) hx 10 dX11_growsBy_74 rfl ?_
    refine E_iload_n (pc := 76) hx 3 dX11_growsBy_76 rfl rfl ?_
    refine I_iadd (pc := 77) hx dX11_growsBy_77 ?_
    refine I_iald (pc := 78) hx (kt_9_0 h0) dX11_growsBy_78 ?_
    refine E_iload_n (pc := 79) hx 1 dX11_growsBy_79 rfl rfl ?_
    refine I_isub (pc := 80) hx dX11_growsBy_80 ?_
    refine I_cVIW  (pc := 81) hx [.ref (shR a0 1), .int (oI ((w8 (shR a0 0) (10 + p1)) - v3_5))] [] (ev_X11_gives F a0 h0 (shR a0 1) (kt_9_1 h0) ((w8 (shR a0 0) (10 + p1)) - v3_5) w8) vm_X11_gives fc9 h0 g1553 dX11_growsBy_81 rfl rfl (Nat.le_of_ble_eq_true rfl) (Nat.le_of_ble_eq_true rfl) (Nat.le_of_ble_eq_true rfl) (fun r9 w10 => ?_)
    exact E_iret (pc := 84) hx dX11_growsBy_84 rfl rfl (Nat.le_of_ble_eq_true rfl)
  refine I_iconst (pc := 38) hx 0 dX11_growsBy_38 ?_
  exact E_iret (pc := 39) hx dX11_growsBy_39 rfl rfl (Nat.le_of_ble_eq_true rfl)
set_option maxHeartbeats 4000000 in
set_option maxRecDepth 100000 in
theorem l_X11_growsBy_b29 {x : Cx} (F : Nat) (a0 : Nat) (h0 : shK a0 = 10 + 9) (p1 : Int) (p2 : Int)  (hx : CxOK x RX11 cX11_growsBy 5 9 0 (some .int))   (z0 : Nat) (hz0 : shK z0 = 10 + 9) (w : aI) : En x jvIW 0 0 29 [(0, .ref a0), (1, .int (oI p1)), (2, .int (oI p2))] [.ref z0] (cm w) (f_X11_growsBy_b29 F a0 p1 p2    z0 w) := by
  unfold f_X11_growsBy_b29
  refine I_iconst (pc := 29) hx 0 dX11_growsBy_29 ?_
  exact l_X11_growsBy_b30 F a0 h0 p1 p2 hx 0 z0 hz0 w
set_option maxHeartbeats 4000000 in
set_option maxRecDepth 100000 in
theorem ev_X11_growsBy (F : Nat) (a0 : Nat) (h0 : shK a0 = 10 + 9) (p1 : Int) (p2 : Int) (w : aI) : Ev yX11_growsBy cX11_growsBy 5 (some .int) 9 0 jvIW [.ref a0, .int (oI p1), .int (oI p2)] (cm w) (f_X11_growsBy F a0 p1 p2 w) := by
  refine Ev.of (own := RX11) (by decide +kernel) rfl (Nat.le_of_ble_eq_true rfl) (fun x hx => ?_)
  show En x jvIW 0 0 0 [(0, .ref a0), (1, .int (oI p1)), (2, .int (oI p2))] [] (cm w) _
  unfold f_X11_growsBy
  refine E_aload_n (pc := 0) hx 0 dX11_growsBy_0 rfl rfl ?_
  refine E_iload_n (pc := 1) hx 1 dX11_growsBy_1 rfl rfl ?_
  refine E_gd (fun hr1 => ?_)
  refine I_i2l (pc := 2) hx dX11_growsBy_2 hr1 ?_
  refine I_lconst (pc := 3) hx 0 dX11_growsBy_3 rfl ?_
  refine I_ldc2 (pc := 4) hx 10 g1734 rfl dX11_growsBy_4 ?_
  refine I_cSB  (pc := 7) hx [.long (oL p1), .long (oL 0), .long (oL 10)] [.ref a0] (ev_X11_in F p1 0 10 w) sm_X11_in g1434 dX11_growsBy_7 rfl rfl (Nat.le_of_ble_eq_true rfl) (Nat.le_of_ble_eq_true rfl) (Nat.le_of_ble_eq_true rfl) (fun r2 => ?_)
  refine I_ifB_eq (pc := 10) hx 29 dX11_growsBy_10 rfl ?_ ?_
  · exact l_X11_growsBy_b29 F a0 h0 p1 p2 hx a0 h0 w
  refine E_iload_n (pc := 13) hx 2 dX11_growsBy_13 rfl rfl ?_
  refine E_gd (fun hr11 => ?_)
  refine I_i2l (pc := 14) hx dX11_growsBy_14 hr11 ?_
  refine I_lconst (pc := 15) hx 0 dX11_growsBy_15 rfl ?_
  refine I_ldc2 (pc := 16) hx 200 g1831 rfl dX11_growsBy_16 ?_
  refine I_cSB  (pc := 19) hx [.long (oL p2), .long (oL 0), .long (oL 200)] [.ref a0] (ev_X11_in F p2 0 200 w) sm_X11_in g1434 dX11_growsBy_19 rfl rfl (Nat.le_of_ble_eq_true rfl) (Nat.le_of_ble_eq_true rfl) (Nat.le_of_ble_eq_true rfl) (fun r12 => ?_)
  refine I_ifB_eq (pc := 22) hx 29 dX11_growsBy_22 rfl ?_ ?_
  · exact l_X11_growsBy_b29 F a0 h0 p1 p2 hx a0 h0 w
  refine I_iconst (pc := 25) hx 1 dX11_growsBy_25 ?_
  refine E_goto (pc := 26) hx 30 dX11_growsBy_26 rfl ?_
  exact l_X11_growsBy_b30 F a0 h0 p1 p2 hx 1 a0 h0 w
set_option maxHeartbeats 4000000 in
set_option maxRecDepth 100000 in
theorem l_X11_partedWithout_b23_b {x : Cx} (F : Nat) (a0 : Nat) (h0 : shK a0 = 10 + 9) (p1 : Int)  (hx : CxOK x RX11 cX11_partedWithout 5 4 0 (some .int)) (k4 : Int → Int → aI → Option (Int × aI)) (hk4 : ∀ (v2 : Int) (v3 : Int) (w : aI), En x jvIW 0 0 4 [(0, .ref a0), (1, .int (oI p1)), (2, .int (oI v2)), (3, .int (oI v3))] [] (cm w) (k4 v2 v3 w)) (k23 : Int → Int → Int → aI → Option (Int × aI)) (hk23 : ∀ (v2 : Int) (v3 : Int) (v4 : Int) (w : aI), En x jvIW 0 0 23 [(0, .ref a0), (1, .int (oI p1)), (2, .int (oI v2)), (3, .int (oI v3)), (4, .int (oI v4))] [] (cm w) (k23 v2 v3 v4 w)) (v2 : Int) (v3 : Int) (v4 : Int) (w : aI) : En x jvIW 0 0 23 [(0, .ref a0), (1, .int (oI p1)), (2, .int (oI v2)), (3, .int (oI v3)), (4, .int (oI v4))] [] (cm w) (f_X11_partedWithout_b23_b F a0 p1  k4 k23 v2 v3 v4 w) := by
  unfold f_X11_partedWithout_b23_b
  refine E_iload (pc := 23) hx 4 dX11_partedWithout_23 rfl ?_
  refine E_iload_n (pc := 25) hx 3 dX11_partedWithout_25 rfl rfl ?_
  refine E_gd (fun hr3 => ?_)
  refine I_icmp_ge (pc := 26) hx 57 dX11_partedWithout_26 rfl ⟨hr3.1, hr3.2⟩ ?_ ?_
  · refine I_iinc (pc := 57) hx 1 3 dX11_partedWithout_57 rfl (Nat.le_of_ble_eq_true rfl) rfl ?_
    refine E_goto (pc := 60) hx 4 dX11_partedWithout_60 rfl ?_
    refine En.sub [1, 2, 3, 0] rfl ?_
    exact hk4 v2 (v3 + 1) w
  refine E_iload_n (pc := 29) hx 2 dX11_partedWithout_29 rfl rfl ?_
  refine E_aload_n (pc := 30) hx 0 dX11_partedWithout_30 rfl rfl ?_
  refine E_getR (pc := 31) hx 9 fc9 h0 rfl ⟨rfl, rfl, rfl⟩ g1341 dX11_partedWithout_31 ?_
  refine E_iload (pc := 34) hx 4 dX11_partedWithout_34 rfl ?_
  refine I_iald (pc := 36) hx (kt_9_9 h0) dX11_partedWithout_36 ?_
  refine I_iconst (pc := 37) hx (-1) dX11_partedWithout_37 ?_
  refine E_gd (fun hr4 => ?_)
  refine I_icmp_ne (pc := 38) hx 45 dX11_partedWithout_38 rfl ⟨hr4, (by decide)⟩ ?_ ?_
  · refine I_iconst (pc := 45) hx 0 dX11_partedWithout_45 ?_
    refine I_cSI  (pc := 46) hx [.int (oI 0)] [.int (oI v2)] (ev_X11_one F 0 w) sm_X11_one g1597 dX11_partedWithout_46 rfl rfl (Nat.le_of_ble_eq_true rfl) (Nat.le_of_ble_eq_true rfl) (Nat.le_of_ble_eq_true rfl) (fun r5 => ?_)
    refine I_iadd (pc := 49) hx dX11_partedWithout_49 ?_
    refine I_ltv (fun v2_6 => ?_)
    refine E_istore_n (pc := 50) hx dX11_partedWithout_50 rfl (Nat.le_of_ble_eq_true rfl) rfl ?_
    refine I_iinc (pc := 51) hx 1 4 dX11_partedWithout_51 rfl (Nat.le_of_ble_eq_true rfl) rfl ?_
    refine E_goto (pc := 54) hx 23 dX11_partedWithout_54 rfl ?_
    refine En.sub [2, 3, 1, 4, 0] rfl ?_
    exact hk23 v2_6 v3 (v4 + 1) w
  refine I_iconst (pc := 41) hx 1 dX11_partedWithout_41 ?_
  refine E_goto (pc := 42) hx 46 dX11_partedWithout_42 rfl ?_
  refine I_cSI  (pc := 46) hx [.int (oI 1)] [.int (oI v2)] (ev_X11_one F 1 w) sm_X11_one g1597 dX11_partedWithout_46 rfl rfl (Nat.le_of_ble_eq_true rfl) (Nat.le_of_ble_eq_true rfl) (Nat.le_of_ble_eq_true rfl) (fun r7 => ?_)
  refine I_iadd (pc := 49) hx dX11_partedWithout_49 ?_
  refine I_ltv (fun v2_8 => ?_)
  refine E_istore_n (pc := 50) hx dX11_partedWithout_50 rfl (Nat.le_of_ble_eq_true rfl) rfl ?_
  refine I_iinc (pc := 51) hx 1 4 dX11_partedWithout_51 rfl (Nat.le_of_ble_eq_true rfl) rfl ?_
  refine E_goto (pc := 54) hx 23 dX11_partedWithout_54 rfl ?_
  refine En.sub [2, 3, 1, 4, 0] rfl ?_
  exact hk23 v2_8 v3 (v4 + 1) w
theorem l_X11_partedWithout_b23 {x : Cx} (F : Nat) (a0 : Nat) (h0 : shK a0 = 10 + 9) (p1 : Int)  (hx : CxOK x RX11 cX11_partedWithout 5 4 0 (some .int)) (k4 : Int → Int → aI → Option (Int × aI)) (hk4 : ∀ (v2 : Int) (v3 : Int) (w : aI), En x jvIW 0 0 4 [(0, .ref a0), (1, .int (oI p1)), (2, .int (oI v2)), (3, .int (oI v3))] [] (cm w) (k4 v2 v3 w)) : ∀ (n : Nat) (v2 : Int) (v3 : Int) (v4 : Int) (w : aI), En x jvIW 0 0 23 [(0, .ref a0), (1, .int (oI p1)), (2, .int (oI v2)), (3, .int (oI v3)), (4, .int (oI v4))] [] (cm w) (f_X11_partedWithout_b23 F a0 p1  k4 n v2 v3 v4 w) := by
  intro n
  induction n with
  | zero => intro v2 v3 v4 w; exact E_none
  | succ n ih => intro v2 v3 v4 w; exact l_X11_partedWithout_b23_b F a0 h0 p1  hx k4 hk4 _ ih v2 v3 v4 w
set_option maxHeartbeats 4000000 in
set_option maxRecDepth 100000 in
theorem l_X11_partedWithout_b4_b {x : Cx} (F : Nat) (a0 : Nat) (h0 : shK a0 = 10 + 9) (p1 : Int)  (hx : CxOK x RX11 cX11_partedWithout 5 4 0 (some .int))  (k4 : Int → Int → aI → Option (Int × aI)) (hk4 : ∀ (v2 : Int) (v3 : Int) (w : aI), En x jvIW 0 0 4 [(0, .ref a0), (1, .int (oI p1)), (2, .int (oI v2)), (3, .int (oI v3))] [] (cm w) (k4 v2 v3 w)) (v2 : Int) (v3 : Int) (w : aI) : En x jvIW 0 0 4 [(0, .ref a0), (1, .int (oI p1)), (2, .int (oI v2)), (3, .int (oI v3))] [] (cm w) (f_X11_partedWithout_b4_b F a0 p1   k4 v2 v3 w) := by
  unfold f_X11_partedWithout_b4_b
  refine E_iload_n (pc := 4) hx 3 dX11_partedWithout_4 rfl rfl ?_
  refine E_aload_n (pc := 5) hx 0 dX11_partedWithout_5 rfl rfl ?_
  refine E_getR (pc := 6) hx 0 fc9 h0 rfl ⟨rfl, rfl, rfl⟩ g1332 dX11_partedWithout_6 ?_
  refine I_iconst (pc := 9) hx 0 dX11_partedWithout_9 ?_
  refine I_iald (pc := 10) hx (kt_9_0 h0) dX11_partedWithout_10 ?_
  refine E_gd (fun hr1 => ?_)
  refine I_icmp_ge (pc := 11) hx 63 dX11_partedWithout_11 rfl ⟨hr1.1, hr1.2⟩ ?_ ?_
  · refine E_iload_n (pc := 63) hx 2 dX11_partedWithout_63 rfl rfl ?_
    exact E_iret (pc := 64) hx dX11_partedWithout_64 rfl rfl (Nat.le_of_ble_eq_true rfl)
  refine E_aload_n (pc := 14) hx 0 dX11_partedWithout_14 rfl rfl ?_
  refine E_iload_n (pc := 15) hx 3 dX11_partedWithout_15 rfl rfl ?_
  refine E_iload_n (pc := 16) hx 1 dX11_partedWithout_16 rfl rfl ?_
  refine I_cVV  (pc := 17) hx [.int (oI v3), .int (oI p1)] [] (ev_X11_reckons F a0 h0 v3 p1 w) vm_X11_reckons fc9 h0 g1677 dX11_partedWithout_17 rfl rfl (Nat.le_of_ble_eq_true rfl) (Nat.le_of_ble_eq_true rfl) (Nat.le_of_ble_eq_true rfl) (fun w2 => ?_)
  refine I_iconst (pc := 20) hx 0 dX11_partedWithout_20 ?_
  refine E_istore (pc := 21) hx dX11_partedWithout_21 (Nat.le_of_ble_eq_true rfl) rfl ?_
  refine En.sub [1, 2, 3, 4, 0] rfl ?_
  exact l_X11_partedWithout_b23 F a0 h0 p1 hx k4 hk4 F v2 v3 0 w2
theorem l_X11_partedWithout_b4 {x : Cx} (F : Nat) (a0 : Nat) (h0 : shK a0 = 10 + 9) (p1 : Int)  (hx : CxOK x RX11 cX11_partedWithout 5 4 0 (some .int))  : ∀ (n : Nat) (v2 : Int) (v3 : Int) (w : aI), En x jvIW 0 0 4 [(0, .ref a0), (1, .int (oI p1)), (2, .int (oI v2)), (3, .int (oI v3))] [] (cm w) (f_X11_partedWithout_b4 F a0 p1   n v2 v3 w) := by
  intro n
  induction n with
  | zero => intro v2 v3 w; exact E_none
  | succ n ih => intro v2 v3 w; exact l_X11_partedWithout_b4_b F a0 h0 p1  hx  _ ih v2 v3 w
set_option maxHeartbeats 4000000 in
set_option maxRecDepth 100000 in
theorem ev_X11_partedWithout (F : Nat) (a0 : Nat) (h0 : shK a0 = 10 + 9) (p1 : Int) (w : aI) : Ev yX11_partedWithout cX11_partedWithout 5 (some .int) 4 0 jvIW [.ref a0, .int (oI p1)] (cm w) (f_X11_partedWithout F a0 p1 w) := by
  refine Ev.of (own := RX11) (by decide +kernel) rfl (Nat.le_of_ble_eq_true rfl) (fun x hx => ?_)
  show En x jvIW 0 0 0 [(0, .ref a0), (1, .int (oI p1))] [] (cm w) _
  unfold f_X11_partedWithout
  refine I_iconst (pc := 0) hx 0 dX11_partedWithout_0 ?_
  refine E_istore_n (pc := 1) hx dX11_partedWithout_1 rfl (Nat.le_of_ble_eq_true rfl) rfl ?_
  refine I_iconst (pc := 2) hx 0 dX11_partedWithout_2 ?_
  refine E_istore_n (pc := 3) hx dX11_partedWithout_3 rfl (Nat.le_of_ble_eq_true rfl) rfl ?_
  refine En.sub [2, 3, 1, 0] rfl ?_
  exact l_X11_partedWithout_b4 F a0 h0 p1 hx F 0 0 w
set_option maxHeartbeats 4000000 in
set_option maxRecDepth 100000 in
theorem l_X11_dearestWay_b11_b {x : Cx} (F : Nat) (a0 : Nat) (h0 : shK a0 = 10 + 9)  (hx : CxOK x RX11 cX11_dearestWay 5 5 0 (some .int))  (k11 : Int → Int → Int → aI → Option (Int × aI)) (hk11 : ∀ (v1 : Int) (v2 : Int) (v3 : Int) (w : aI), En x jvIW 0 0 11 [(0, .ref a0), (1, .int (oI v1)), (2, .int (oI v2)), (3, .int (oI v3))] [] (cm w) (k11 v1 v2 v3 w)) (v1 : Int) (v2 : Int) (v3 : Int) (w : aI) : En x jvIW 0 0 11 [(0, .ref a0), (1, .int (oI v1)), (2, .int (oI v2)), (3, .int (oI v3))] [] (cm w) (f_X11_dearestWay_b11_b F a0   k11 v1 v2 v3 w) := by
  unfold f_X11_dearestWay_b11_b
  refine E_iload_n (pc := 11) hx 3 dX11_dearestWay_11 rfl rfl ?_
  refine E_aload_n (pc := 12) hx 0 dX11_dearestWay_12 rfl rfl ?_
  refine E_getR (pc := 13) hx 0 fc9 h0 rfl ⟨rfl, rfl, rfl⟩ g1332 dX11_dearestWay_13 ?_
  refine I_iconst (pc := 16) hx 1 dX11_dearestWay_16 ?_
  refine I_iald (pc := 17) hx (kt_9_0 h0) dX11_dearestWay_17 ?_
  refine E_gd (fun hr2 => ?_)
  refine I_icmp_ge (pc := 18) hx 45 dX11_dearestWay_18 rfl ⟨hr2.1, hr2.2⟩ ?_ ?_
  · refine E_iload_n (pc := 45) hx 1 dX11_dearestWay_45 rfl rfl ?_
    exact E_iret (pc := 46) hx dX11_dearestWay_46 rfl rfl (Nat.le_of_ble_eq_true rfl)
  refine E_aload_n (pc := 21) hx 0 dX11_dearestWay_21 rfl rfl ?_
  refine E_iload_n (pc := 22) hx 3 dX11_dearestWay_22 rfl rfl ?_
  refine I_cVIW  (pc := 23) hx [.int (oI v3)] [] (ev_X11_partedWithout F a0 h0 v3 w) vm_X11_partedWithout fc9 h0 g1836 dX11_dearestWay_23 rfl rfl (Nat.le_of_ble_eq_true rfl) (Nat.le_of_ble_eq_true rfl) (Nat.le_of_ble_eq_true rfl) (fun r3 w4 => ?_)
  refine E_istore (pc := 26) hx dX11_dearestWay_26 (Nat.le_of_ble_eq_true rfl) rfl ?_
  refine E_iload (pc := 28) hx 0 dX11_dearestWay_28 rfl ?_
  refine E_iload_n (pc := 30) hx 3 dX11_dearestWay_30 rfl rfl ?_
  refine E_gd (fun hr5 => ?_)
  refine I_icmp_le (pc := 31) hx 39 dX11_dearestWay_31 rfl ⟨hr5.1, hr5.2⟩ ?_ ?_
  · refine I_iinc (pc := 39) hx 1 4 dX11_dearestWay_39 rfl (Nat.le_of_ble_eq_true rfl) rfl ?_
    refine E_goto (pc := 42) hx 11 dX11_dearestWay_42 rfl ?_
    refine En.sub [2, 3, 4, 0] rfl ?_
    exact hk11 v1 v2 (v3 + 1) w4
  refine E_iload_n (pc := 34) hx 4 dX11_dearestWay_34 rfl rfl ?_
  refine E_istore_n (pc := 35) hx dX11_dearestWay_35 rfl (Nat.le_of_ble_eq_true rfl) rfl ?_
  refine E_iload (pc := 36) hx 1 dX11_dearestWay_36 rfl ?_
  refine E_istore_n (pc := 38) hx dX11_dearestWay_38 rfl (Nat.le_of_ble_eq_true rfl) rfl ?_
  refine I_iinc (pc := 39) hx 1 4 dX11_dearestWay_39 rfl (Nat.le_of_ble_eq_true rfl) rfl ?_
  refine E_goto (pc := 42) hx 11 dX11_dearestWay_42 rfl ?_
  refine En.sub [4, 2, 1, 0] rfl ?_
  exact hk11 v3 r3 (v3 + 1) w4
theorem l_X11_dearestWay_b11 {x : Cx} (F : Nat) (a0 : Nat) (h0 : shK a0 = 10 + 9)  (hx : CxOK x RX11 cX11_dearestWay 5 5 0 (some .int))  : ∀ (n : Nat) (v1 : Int) (v2 : Int) (v3 : Int) (w : aI), En x jvIW 0 0 11 [(0, .ref a0), (1, .int (oI v1)), (2, .int (oI v2)), (3, .int (oI v3))] [] (cm w) (f_X11_dearestWay_b11 F a0   n v1 v2 v3 w) := by
  intro n
  induction n with
  | zero => intro v1 v2 v3 w; exact E_none
  | succ n ih => intro v1 v2 v3 w; exact l_X11_dearestWay_b11_b F a0 h0  hx  _ ih v1 v2 v3 w
set_option maxHeartbeats 4000000 in
set_option maxRecDepth 100000 in
theorem ev_X11_dearestWay (F : Nat) (a0 : Nat) (h0 : shK a0 = 10 + 9) (w : aI) : Ev yX11_dearestWay cX11_dearestWay 5 (some .int) 5 0 jvIW [.ref a0] (cm w) (f_X11_dearestWay F a0 w) := by
  refine Ev.of (own := RX11) (by decide +kernel) rfl (Nat.le_of_ble_eq_true rfl) (fun x hx => ?_)
  show En x jvIW 0 0 0 [(0, .ref a0)] [] (cm w) _
  unfold f_X11_dearestWay
  refine E_aload_n (pc := 0) hx 0 dX11_dearestWay_0 rfl rfl ?_
  refine I_iconst (pc := 1) hx 0 dX11_dearestWay_1 ?_
  refine I_put (pc := 2) hx 6 6 rfl .int tyX11 fc9 tyX11_ok h0 rfl ⟨rfl, rfl, rfl, rfl, pfd_I⟩ rfl rfl g1338 dX11_dearestWay_2 (fun w1 => ?_)
  refine I_iconst (pc := 5) hx (-1) dX11_dearestWay_5 ?_
  refine E_istore_n (pc := 6) hx dX11_dearestWay_6 rfl (Nat.le_of_ble_eq_true rfl) rfl ?_
  refine I_iconst (pc := 7) hx (-1) dX11_dearestWay_7 ?_
  refine E_istore_n (pc := 8) hx dX11_dearestWay_8 rfl (Nat.le_of_ble_eq_true rfl) rfl ?_
  refine I_iconst (pc := 9) hx 0 dX11_dearestWay_9 ?_
  refine E_istore_n (pc := 10) hx dX11_dearestWay_10 rfl (Nat.le_of_ble_eq_true rfl) rfl ?_
  refine En.sub [3, 2, 1, 0] rfl ?_
  exact l_X11_dearestWay_b11 F a0 h0 hx F (-1) (-1) 0 w1
set_option maxHeartbeats 4000000 in
set_option maxRecDepth 100000 in
theorem l_X11_nearestOpen_b4_b {x : Cx} (F : Nat) (a0 : Nat) (h0 : shK a0 = 10 + 9) (w : aI) (hx : CxOK x RX11 cX11_nearestOpen 3 0 0 (some .int))  (k4 : Int → Int → Option Int) (hk4 : ∀ (v1 : Int) (v2 : Int), En x (jvI w) 0 0 4 [(0, .ref a0), (1, .int (oI v1)), (2, .int (oI v2))] [] (cm w) (k4 v1 v2)) (v1 : Int) (v2 : Int)  : En x (jvI w) 0 0 4 [(0, .ref a0), (1, .int (oI v1)), (2, .int (oI v2))] [] (cm w) (f_X11_nearestOpen_b4_b F a0 w  k4 v1 v2) := by
  unfold f_X11_nearestOpen_b4_b
  refine E_iload_n (pc := 4) hx 2 dX11_nearestOpen_4 rfl rfl ?_
  refine E_aload_n (pc := 5) hx 0 dX11_nearestOpen_5 rfl rfl ?_
  refine E_getR (pc := 6) hx 0 fc9 h0 rfl ⟨rfl, rfl, rfl⟩ g1332 dX11_nearestOpen_6 ?_
  refine I_iconst (pc := 9) hx 0 dX11_nearestOpen_9 ?_
  refine I_iald (pc := 10) hx (kt_9_0 h0) dX11_nearestOpen_10 ?_
  refine E_gd (fun hr1 => ?_)
  refine I_icmp_ge (pc := 11) hx 61 dX11_nearestOpen_11 rfl ⟨hr1.1, hr1.2⟩ ?_ ?_
  · refine E_iload_n (pc := 61) hx 1 dX11_nearestOpen_61 rfl rfl ?_
    exact E_iret (pc := 62) hx dX11_nearestOpen_62 rfl rfl (Nat.le_of_ble_eq_true rfl)
  refine E_aload_n (pc := 14) hx 0 dX11_nearestOpen_14 rfl rfl ?_
  refine E_getR (pc := 15) hx 25 fc9 h0 rfl ⟨rfl, rfl, rfl⟩ g1357 dX11_nearestOpen_15 ?_
  refine E_iload_n (pc := 18) hx 2 dX11_nearestOpen_18 rfl rfl ?_
  refine I_zald (pc := 19) hx (kt_9_25 h0) dX11_nearestOpen_19 ?_
  refine E_gd (fun hr2 => ?_)
  refine I_if_ne (pc := 20) hx 55 dX11_nearestOpen_20 rfl hr2 ?_ ?_
  · refine I_iinc (pc := 55) hx 1 2 dX11_nearestOpen_55 rfl (Nat.le_of_ble_eq_true rfl) rfl ?_
    refine E_goto (pc := 58) hx 4 dX11_nearestOpen_58 rfl ?_
    refine En.sub [1, 2, 0] rfl ?_
    exact hk4 v1 (v2 + 1)
  refine E_aload_n (pc := 23) hx 0 dX11_nearestOpen_23 rfl rfl ?_
  refine E_getR (pc := 24) hx 24 fc9 h0 rfl ⟨rfl, rfl, rfl⟩ g1356 dX11_nearestOpen_24 ?_
  refine E_iload_n (pc := 27) hx 2 dX11_nearestOpen_27 rfl rfl ?_
  refine I_iald (pc := 28) hx (kt_9_24 h0) dX11_nearestOpen_28 ?_
  refine I_iconst (pc := 29) hx (-1) dX11_nearestOpen_29 ?_
  refine E_gd (fun hr3 => ?_)
  refine I_icmp_eq (pc := 30) hx 55 dX11_nearestOpen_30 rfl ⟨hr3, (by decide)⟩ ?_ ?_
  · refine I_iinc (pc := 55) hx 1 2 dX11_nearestOpen_55 rfl (Nat.le_of_ble_eq_true rfl) rfl ?_
    refine E_goto (pc := 58) hx 4 dX11_nearestOpen_58 rfl ?_
    refine En.sub [1, 2, 0] rfl ?_
    exact hk4 v1 (v2 + 1)
  refine E_iload_n (pc := 33) hx 1 dX11_nearestOpen_33 rfl rfl ?_
  refine I_iconst (pc := 34) hx (-1) dX11_nearestOpen_34 ?_
  refine E_gd (fun hr4 => ?_)
  refine I_icmp_eq (pc := 35) hx 53 dX11_nearestOpen_35 rfl ⟨hr4, (by decide)⟩ ?_ ?_
  · refine E_iload_n (pc := 53) hx 2 dX11_nearestOpen_53 rfl rfl ?_
    refine E_istore_n (pc := 54) hx dX11_nearestOpen_54 rfl (Nat.le_of_ble_eq_true rfl) rfl ?_
    refine I_iinc (pc := 55) hx 1 2 dX11_nearestOpen_55 rfl (Nat.le_of_ble_eq_true rfl) rfl ?_
    refine E_goto (pc := 58) hx 4 dX11_nearestOpen_58 rfl ?_
    refine En.sub [2, 1, 0] rfl ?_
    exact hk4 v2 (v2 + 1)
  refine E_aload_n (pc := 38) hx 0 dX11_nearestOpen_38 rfl rfl ?_
  refine E_getR (pc := 39) hx 24 fc9 h0 rfl ⟨rfl, rfl, rfl⟩ g1356 dX11_nearestOpen_39 ?_
  refine E_iload_n (pc := 42) hx 2 dX11_nearestOpen_42 rfl rfl ?_
  refine I_iald (pc := 43) hx (kt_9_24 h0) dX11_nearestOpen_43 ?_
  refine E_aload_n (pc := 44) hx 0 dX11_nearestOpen_44 rfl rfl ?_
  refine E_getR (pc := 45) hx 24 fc9 h0 rfl ⟨rfl, rfl, rfl⟩ g1356 dX11_nearestOpen_45 ?_
  refine E_iload_n (pc := 48) hx 1 dX11_nearestOpen_48 rfl rfl ?_
  refine I_iald (pc := 49) hx (kt_9_24 h0) dX11_nearestOpen_49 ?_
  refine E_gd (fun hr5 => ?_)
  refine I_icmp_ge (pc := 50) hx 55 dX11_nearestOpen_50 rfl ⟨hr3, hr5⟩ ?_ ?_
  · refine I_iinc (pc := 55) hx 1 2 dX11_nearestOpen_55 rfl (Nat.le_of_ble_eq_true rfl) rfl ?_
    refine E_goto (pc := 58) hx 4 dX11_nearestOpen_58 rfl ?_
    refine En.sub [1, 2, 0] rfl ?_
    exact hk4 v1 (v2 + 1)
  refine E_iload_n (pc := 53) hx 2 dX11_nearestOpen_53 rfl rfl ?_
  refine E_istore_n (pc := 54) hx dX11_nearestOpen_54 rfl (Nat.le_of_ble_eq_true rfl) rfl ?_
  refine I_iinc (pc := 55) hx 1 2 dX11_nearestOpen_55 rfl (Nat.le_of_ble_eq_true rfl) rfl ?_
  refine E_goto (pc := 58) hx 4 dX11_nearestOpen_58 rfl ?_
  refine En.sub [2, 1, 0] rfl ?_
  exact hk4 v2 (v2 + 1)
theorem l_X11_nearestOpen_b4 {x : Cx} (F : Nat) (a0 : Nat) (h0 : shK a0 = 10 + 9) (w : aI) (hx : CxOK x RX11 cX11_nearestOpen 3 0 0 (some .int))  : ∀ (n : Nat) (v1 : Int) (v2 : Int), En x (jvI w) 0 0 4 [(0, .ref a0), (1, .int (oI v1)), (2, .int (oI v2))] [] (cm w) (f_X11_nearestOpen_b4 F a0 w  n v1 v2) := by
  intro n
  induction n with
  | zero => intro v1 v2; exact E_none
  | succ n ih => intro v1 v2; exact l_X11_nearestOpen_b4_b F a0 h0 w hx  _ ih v1 v2
set_option maxHeartbeats 4000000 in
set_option maxRecDepth 100000 in
theorem ev_X11_nearestOpen (F : Nat) (a0 : Nat) (h0 : shK a0 = 10 + 9) (w : aI) : Ev yX11_nearestOpen cX11_nearestOpen 3 (some .int) 0 0 (jvI w) [.ref a0] (cm w) (f_X11_nearestOpen F a0 w) := by
  refine Ev.of (own := RX11) (by decide +kernel) rfl (Nat.le_of_ble_eq_true rfl) (fun x hx => ?_)
  show En x (jvI w) 0 0 0 [(0, .ref a0)] [] (cm w) _
  unfold f_X11_nearestOpen
  refine I_iconst (pc := 0) hx (-1) dX11_nearestOpen_0 ?_
  refine E_istore_n (pc := 1) hx dX11_nearestOpen_1 rfl (Nat.le_of_ble_eq_true rfl) rfl ?_
  refine I_iconst (pc := 2) hx 0 dX11_nearestOpen_2 ?_
  refine E_istore_n (pc := 3) hx dX11_nearestOpen_3 rfl (Nat.le_of_ble_eq_true rfl) rfl ?_
  refine En.sub [2, 1, 0] rfl ?_
  exact l_X11_nearestOpen_b4 F a0 h0 w hx F (-1) 0
set_option maxHeartbeats 4000000 in
set_option maxRecDepth 100000 in
theorem l_X11_goesOut_b56_b {x : Cx} (F : Nat) (a0 : Nat) (h0 : shK a0 = 10 + 9) (p1 : Int)  (hx : CxOK x RX11 cX11_goesOut 6 2 0 none) (k42 : Int → aI → Option aI) (hk42 : ∀ (v2 : Int) (w : aI), En x jvV 0 0 42 [(0, .ref a0), (2, .int (oI v2))] [] (cm w) (k42 v2 w)) (k56 : Int → Int → aI → Option aI) (hk56 : ∀ (v2 : Int) (v3 : Int) (w : aI), En x jvV 0 0 56 [(0, .ref a0), (2, .int (oI v2)), (3, .int (oI v3))] [] (cm w) (k56 v2 v3 w)) (v2 : Int) (v3 : Int) (w : aI) : En x jvV 0 0 56 [(0, .ref a0), (2, .int (oI v2)), (3, .int (oI v3))] [] (cm w) (f_X11_goesOut_b56_b F a0 p1  k42 k56 v2 v3 w) := by
  unfold f_X11_goesOut_b56_b
  refine E_iload_n (pc := 56) hx 2 dX11_goesOut_56 rfl rfl ?_
  refine E_aload_n (pc := 57) hx 0 dX11_goesOut_57 rfl rfl ?_
  refine E_getR (pc := 58) hx 0 fc9 h0 rfl ⟨rfl, rfl, rfl⟩ g1332 dX11_goesOut_58 ?_
  refine I_iconst (pc := 61) hx 1 dX11_goesOut_61 ?_
  refine I_iald (pc := 62) hx (kt_9_0 h0) dX11_goesOut_62 ?_
  refine E_gd (fun hr5 => ?_)
  refine I_icmp_ge (pc := 63) hx 147 dX11_goesOut_63 rfl ⟨hr5.1, hr5.2⟩ ?_ ?_
  · refine E_aload_n (pc := 147) hx 0 dX11_goesOut_147 rfl rfl ?_
    refine I_cVI  (pc := 148) hx [] [] (ev_X11_nearestOpen F a0 h0 w) vm_X11_nearestOpen fc9 h0 g1856 dX11_goesOut_148 rfl rfl (Nat.le_of_ble_eq_true rfl) (Nat.le_of_ble_eq_true rfl) (Nat.le_of_ble_eq_true rfl) (fun r6 => ?_)
    refine E_istore_n (pc := 151) hx dX11_goesOut_151 rfl (Nat.le_of_ble_eq_true rfl) rfl ?_
    refine E_goto (pc := 152) hx 42 dX11_goesOut_152 rfl ?_
    refine En.sub [1, 0] rfl ?_
    exact hk42 r6 w
  refine E_aload_n (pc := 66) hx 0 dX11_goesOut_66 rfl rfl ?_
  refine E_iload_n (pc := 67) hx 2 dX11_goesOut_67 rfl rfl ?_
  refine E_iload_n (pc := 68) hx 1 dX11_goesOut_68 rfl rfl ?_
  refine I_cVB  (pc := 69) hx [.int (oI v3), .int (oI v2)] [] (ev_X11_ends F a0 h0 v3 v2 w) vm_X11_ends fc9 h0 g1524 dX11_goesOut_69 rfl rfl (Nat.le_of_ble_eq_true rfl) (Nat.le_of_ble_eq_true rfl) (Nat.le_of_ble_eq_true rfl) (fun r7 => ?_)
  refine I_ifB_ne (pc := 72) hx 78 dX11_goesOut_72 rfl ?_ ?_
  · refine E_aload_n (pc := 78) hx 0 dX11_goesOut_78 rfl rfl ?_
    refine E_iload_n (pc := 79) hx 2 dX11_goesOut_79 rfl rfl ?_
    refine E_iload_n (pc := 80) hx 1 dX11_goesOut_80 rfl rfl ?_
    refine I_cVI  (pc := 81) hx [.int (oI v3), .int (oI v2)] [] (ev_X11_otherEnd F a0 h0 v3 v2 w) vm_X11_otherEnd fc9 h0 g1685 dX11_goesOut_81 rfl rfl (Nat.le_of_ble_eq_true rfl) (Nat.le_of_ble_eq_true rfl) (Nat.le_of_ble_eq_true rfl) (fun r8 => ?_)
    refine E_istore (pc := 84) hx dX11_goesOut_84 (Nat.le_of_ble_eq_true rfl) rfl ?_
    refine E_aload_n (pc := 86) hx 1 dX11_goesOut_86 rfl rfl ?_
    refine E_getR (pc := 87) hx 24 fc9 h0 rfl ⟨rfl, rfl, rfl⟩ g1356 dX11_goesOut_87 ?_
    refine E_iload_n (pc := 90) hx 2 dX11_goesOut_90 rfl rfl ?_
    refine I_iald (pc := 91) hx (kt_9_24 h0) dX11_goesOut_91 ?_
    refine E_aload_n (pc := 92) hx 1 dX11_goesOut_92 rfl rfl ?_
    refine E_getR (pc := 93) hx 0 fc9 h0 rfl ⟨rfl, rfl, rfl⟩ g1332 dX11_goesOut_93 ?_
    refine E_iload_n (pc := 96) hx 3 dX11_goesOut_96 rfl rfl ?_
    refine I_cSI  (pc := 97) hx [.int (oI v3)] [.ref (shR a0 0), .int (oI (w (shR a0 24) v2))] (ev_X11_w F v3 w) sm_X11_w g1329 dX11_goesOut_97 rfl rfl (Nat.le_of_ble_eq_true rfl) (Nat.le_of_ble_eq_true rfl) (Nat.le_of_ble_eq_true rfl) (fun r9 => ?_)
    refine I_iconst (pc := 100) hx 2 dX11_goesOut_100 ?_
    refine I_iadd (pc := 101) hx dX11_goesOut_101 ?_
    refine I_iald (pc := 102) hx (kt_9_0 h0) dX11_goesOut_102 ?_
    refine I_iadd (pc := 103) hx dX11_goesOut_103 ?_
    refine I_ltv (fun v5_10 => ?_)
    refine E_istore (pc := 104) hx dX11_goesOut_104 (Nat.le_of_ble_eq_true rfl) rfl ?_
    refine E_aload_n (pc := 106) hx 2 dX11_goesOut_106 rfl rfl ?_
    refine E_getR (pc := 107) hx 24 fc9 h0 rfl ⟨rfl, rfl, rfl⟩ g1356 dX11_goesOut_107 ?_
    refine E_iload (pc := 110) hx 1 dX11_goesOut_110 rfl ?_
    refine E_aload_n (pc := 112) hx 2 dX11_goesOut_112 rfl rfl ?_
    refine E_getR (pc := 113) hx 24 fc9 h0 rfl ⟨rfl, rfl, rfl⟩ g1356 dX11_goesOut_113 ?_
    refine E_iload (pc := 116) hx 1 dX11_goesOut_116 rfl ?_
    refine I_iald (pc := 118) hx (kt_9_24 h0) dX11_goesOut_118 ?_
    refine I_iconst (pc := 119) hx (-1) dX11_goesOut_119 ?_
    refine E_gd (fun hr11 => ?_)
    refine I_icmp_ne (pc := 120) hx 128 dX11_goesOut_120 rfl ⟨hr11, (by decide)⟩ ?_ ?_
    · refine E_aload_n (pc := 128) hx 2 dX11_goesOut_128 rfl rfl ?_
      refine E_getR (pc := 129) hx 24 fc9 h0 rfl ⟨rfl, rfl, rfl⟩ g1356 dX11_goesOut_129 ?_
      refine E_iload (pc := 132) hx 1 dX11_goesOut_132 rfl ?_
      refine I_iald (pc := 134) hx (kt_9_24 h0) dX11_goesOut_134 ?_
      refine E_iload (pc := 135) hx 0 dX11_goesOut_135 rfl ?_
      refine E_gd (fun hr12 => ?_)
      refine I_mmin (pc := 137) hx ⟨hr11, hr12⟩ g1632 g574 g121 g575 (Nat.le_of_ble_eq_true rfl) (Nat.le_of_ble_eq_true rfl) (Nat.le_of_ble_eq_true rfl) dX11_goesOut_137 ?_
      refine I_iast (pc := 140) hx (kt_9_24 h0) dX11_goesOut_140 (fun w13 => ?_)
      refine I_iinc (pc := 141) hx 1 4 dX11_goesOut_141 rfl (Nat.le_of_ble_eq_true rfl) rfl ?_
      refine E_goto (pc := 144) hx 56 dX11_goesOut_144 rfl ?_
      refine En.sub [3, 4, 0] rfl ?_
      exact hk56 v2 (v3 + 1) w13
    refine E_iload (pc := 123) hx 0 dX11_goesOut_123 rfl ?_
    refine E_goto (pc := 125) hx 140 dX11_goesOut_125 rfl ?_
    refine I_iast (pc := 140) hx (kt_9_24 h0) dX11_goesOut_140 (fun w14 => ?_)
    refine I_iinc (pc := 141) hx 1 4 dX11_goesOut_141 rfl (Nat.le_of_ble_eq_true rfl) rfl ?_
    refine E_goto (pc := 144) hx 56 dX11_goesOut_144 rfl ?_
    refine En.sub [3, 4, 0] rfl ?_
    exact hk56 v2 (v3 + 1) w14
  refine E_goto (pc := 75) hx 141 dX11_goesOut_75 rfl ?_
  refine I_iinc (pc := 141) hx 1 2 dX11_goesOut_141 rfl (Nat.le_of_ble_eq_true rfl) rfl ?_
  refine E_goto (pc := 144) hx 56 dX11_goesOut_144 rfl ?_
  refine En.sub [1, 2, 0] rfl ?_
  exact hk56 v2 (v3 + 1) w
theorem l_X11_goesOut_b56 {x : Cx} (F : Nat) (a0 : Nat) (h0 : shK a0 = 10 + 9) (p1 : Int)  (hx : CxOK x RX11 cX11_goesOut 6 2 0 none) (k42 : Int → aI → Option aI) (hk42 : ∀ (v2 : Int) (w : aI), En x jvV 0 0 42 [(0, .ref a0), (2, .int (oI v2))] [] (cm w) (k42 v2 w)) : ∀ (n : Nat) (v2 : Int) (v3 : Int) (w : aI), En x jvV 0 0 56 [(0, .ref a0), (2, .int (oI v2)), (3, .int (oI v3))] [] (cm w) (f_X11_goesOut_b56 F a0 p1  k42 n v2 v3 w) := by
  intro n
  induction n with
  | zero => intro v2 v3 w; exact E_none
  | succ n ih => intro v2 v3 w; exact l_X11_goesOut_b56_b F a0 h0 p1  hx k42 hk42 _ ih v2 v3 w
set_option maxHeartbeats 4000000 in
set_option maxRecDepth 100000 in
theorem l_X11_goesOut_b42_b {x : Cx} (F : Nat) (a0 : Nat) (h0 : shK a0 = 10 + 9) (p1 : Int)  (hx : CxOK x RX11 cX11_goesOut 6 2 0 none)  (k42 : Int → aI → Option aI) (hk42 : ∀ (v2 : Int) (w : aI), En x jvV 0 0 42 [(0, .ref a0), (2, .int (oI v2))] [] (cm w) (k42 v2 w)) (v2 : Int) (w : aI) : En x jvV 0 0 42 [(0, .ref a0), (2, .int (oI v2))] [] (cm w) (f_X11_goesOut_b42_b F a0 p1   k42 v2 w) := by
  unfold f_X11_goesOut_b42_b
  refine E_iload_n (pc := 42) hx 1 dX11_goesOut_42 rfl rfl ?_
  refine I_iconst (pc := 43) hx (-1) dX11_goesOut_43 ?_
  refine E_gd (fun hr3 => ?_)
  refine I_icmp_eq (pc := 44) hx 155 dX11_goesOut_44 rfl ⟨hr3, (by decide)⟩ ?_ ?_
  · exact E_vret (pc := 155) hx dX11_goesOut_155 rfl rfl (Nat.le_of_ble_eq_true rfl)
  refine E_aload_n (pc := 47) hx 0 dX11_goesOut_47 rfl rfl ?_
  refine E_getR (pc := 48) hx 25 fc9 h0 rfl ⟨rfl, rfl, rfl⟩ g1357 dX11_goesOut_48 ?_
  refine E_iload_n (pc := 51) hx 1 dX11_goesOut_51 rfl rfl ?_
  refine I_iconst (pc := 52) hx 1 dX11_goesOut_52 ?_
  refine I_zast (pc := 53) hx (kt_9_25 h0) dX11_goesOut_53 (fun w4 => ?_)
  refine I_iconst (pc := 54) hx 0 dX11_goesOut_54 ?_
  refine E_istore_n (pc := 55) hx dX11_goesOut_55 rfl (Nat.le_of_ble_eq_true rfl) rfl ?_
  refine En.sub [1, 2, 0] rfl ?_
  exact l_X11_goesOut_b56 F a0 h0 p1 hx k42 hk42 F v2 0 w4
theorem l_X11_goesOut_b42 {x : Cx} (F : Nat) (a0 : Nat) (h0 : shK a0 = 10 + 9) (p1 : Int)  (hx : CxOK x RX11 cX11_goesOut 6 2 0 none)  : ∀ (n : Nat) (v2 : Int) (w : aI), En x jvV 0 0 42 [(0, .ref a0), (2, .int (oI v2))] [] (cm w) (f_X11_goesOut_b42 F a0 p1   n v2 w) := by
  intro n
  induction n with
  | zero => intro v2 w; exact E_none
  | succ n ih => intro v2 w; exact l_X11_goesOut_b42_b F a0 h0 p1  hx  _ ih v2 w
set_option maxHeartbeats 4000000 in
set_option maxRecDepth 100000 in
theorem l_X11_goesOut_b23 {x : Cx} (F : Nat) (a0 : Nat) (h0 : shK a0 = 10 + 9) (p1 : Int)  (hx : CxOK x RX11 cX11_goesOut 6 2 0 none) (k2 : Int → aI → Option aI) (hk2 : ∀ (v2 : Int) (w : aI), En x jvV 0 0 2 [(0, .ref a0), (1, .int (oI p1)), (2, .int (oI v2))] [] (cm w) (k2 v2 w))  (v2 : Int) (z0 : Int) (z1 : Int) (z2 : Nat) (hz2 : shK z2 = 0) (w : aI) : En x jvV 0 0 23 [(0, .ref a0), (1, .int (oI p1)), (2, .int (oI v2))] [.int (oI z0), .int (oI z1), .ref z2] (cm w) (f_X11_goesOut_b23 F a0 p1  k2  v2 z0 z1 z2 w) := by
  unfold f_X11_goesOut_b23
  refine I_iast (pc := 23) hx hz2 dX11_goesOut_23 (fun w16 => ?_)
  refine E_aload_n (pc := 24) hx 0 dX11_goesOut_24 rfl rfl ?_
  refine E_getR (pc := 25) hx 25 fc9 h0 rfl ⟨rfl, rfl, rfl⟩ g1357 dX11_goesOut_25 ?_
  refine E_iload_n (pc := 28) hx 2 dX11_goesOut_28 rfl rfl ?_
  refine I_iconst (pc := 29) hx 0 dX11_goesOut_29 ?_
  refine I_zast (pc := 30) hx (kt_9_25 h0) dX11_goesOut_30 (fun w17 => ?_)
  refine I_iinc (pc := 31) hx 1 2 dX11_goesOut_31 rfl (Nat.le_of_ble_eq_true rfl) rfl ?_
  refine E_goto (pc := 34) hx 2 dX11_goesOut_34 rfl ?_
  refine En.sub [1, 2, 0] rfl ?_
  exact hk2 (v2 + 1) w17
set_option maxHeartbeats 4000000 in
set_option maxRecDepth 100000 in
theorem l_X11_goesOut_b2_b {x : Cx} (F : Nat) (a0 : Nat) (h0 : shK a0 = 10 + 9) (p1 : Int)  (hx : CxOK x RX11 cX11_goesOut 6 2 0 none)  (k2 : Int → aI → Option aI) (hk2 : ∀ (v2 : Int) (w : aI), En x jvV 0 0 2 [(0, .ref a0), (1, .int (oI p1)), (2, .int (oI v2))] [] (cm w) (k2 v2 w)) (v2 : Int) (w : aI) : En x jvV 0 0 2 [(0, .ref a0), (1, .int (oI p1)), (2, .int (oI v2))] [] (cm w) (f_X11_goesOut_b2_b F a0 p1   k2 v2 w) := by
  unfold f_X11_goesOut_b2_b
  refine E_iload_n (pc := 2) hx 2 dX11_goesOut_2 rfl rfl ?_
  refine I_bipush (pc := 3) hx 10 dX11_goesOut_3 rfl ?_
  refine E_gd (fun hr1 => ?_)
  refine I_icmp_ge (pc := 5) hx 37 dX11_goesOut_5 rfl ⟨hr1, (by decide)⟩ ?_ ?_
  · refine E_aload_n (pc := 37) hx 0 dX11_goesOut_37 rfl rfl ?_
    refine I_cVI  (pc := 38) hx [] [] (ev_X11_nearestOpen F a0 h0 w) vm_X11_nearestOpen fc9 h0 g1856 dX11_goesOut_38 rfl rfl (Nat.le_of_ble_eq_true rfl) (Nat.le_of_ble_eq_true rfl) (Nat.le_of_ble_eq_true rfl) (fun r2 => ?_)
    refine E_istore_n (pc := 41) hx dX11_goesOut_41 rfl (Nat.le_of_ble_eq_true rfl) rfl ?_
    refine En.sub [1, 0] rfl ?_
    exact l_X11_goesOut_b42 F a0 h0 p1 hx F r2 w
  refine E_aload_n (pc := 8) hx 0 dX11_goesOut_8 rfl rfl ?_
  refine E_getR (pc := 9) hx 24 fc9 h0 rfl ⟨rfl, rfl, rfl⟩ g1356 dX11_goesOut_9 ?_
  refine E_iload_n (pc := 12) hx 2 dX11_goesOut_12 rfl rfl ?_
  refine E_iload_n (pc := 13) hx 2 dX11_goesOut_13 rfl rfl ?_
  refine E_iload_n (pc := 14) hx 1 dX11_goesOut_14 rfl rfl ?_
  refine E_gd (fun hr15 => ?_)
  refine I_icmp_ne (pc := 15) hx 22 dX11_goesOut_15 rfl ⟨hr1, hr15⟩ ?_ ?_
  · refine I_iconst (pc := 22) hx (-1) dX11_goesOut_22 ?_
    exact l_X11_goesOut_b23 F a0 h0 p1 hx k2 hk2 v2 (-1) v2 (shR a0 24) (kt_9_24 h0) w
  refine I_iconst (pc := 18) hx 0 dX11_goesOut_18 ?_
  refine E_goto (pc := 19) hx 23 dX11_goesOut_19 rfl ?_
  exact l_X11_goesOut_b23 F a0 h0 p1 hx k2 hk2 v2 0 v2 (shR a0 24) (kt_9_24 h0) w
theorem l_X11_goesOut_b2 {x : Cx} (F : Nat) (a0 : Nat) (h0 : shK a0 = 10 + 9) (p1 : Int)  (hx : CxOK x RX11 cX11_goesOut 6 2 0 none)  : ∀ (n : Nat) (v2 : Int) (w : aI), En x jvV 0 0 2 [(0, .ref a0), (1, .int (oI p1)), (2, .int (oI v2))] [] (cm w) (f_X11_goesOut_b2 F a0 p1   n v2 w) := by
  intro n
  induction n with
  | zero => intro v2 w; exact E_none
  | succ n ih => intro v2 w; exact l_X11_goesOut_b2_b F a0 h0 p1  hx  _ ih v2 w
set_option maxHeartbeats 4000000 in
set_option maxRecDepth 100000 in
theorem ev_X11_goesOut (F : Nat) (a0 : Nat) (h0 : shK a0 = 10 + 9) (p1 : Int) (w : aI) : Ev yX11_goesOut cX11_goesOut 6 none 2 0 jvV [.ref a0, .int (oI p1)] (cm w) (f_X11_goesOut F a0 p1 w) := by
  refine Ev.of (own := RX11) (by decide +kernel) rfl (Nat.le_of_ble_eq_true rfl) (fun x hx => ?_)
  show En x jvV 0 0 0 [(0, .ref a0), (1, .int (oI p1))] [] (cm w) _
  unfold f_X11_goesOut
  refine I_iconst (pc := 0) hx 0 dX11_goesOut_0 ?_
  refine E_istore_n (pc := 1) hx dX11_goesOut_1 rfl (Nat.le_of_ble_eq_true rfl) rfl ?_
  refine En.sub [1, 2, 0] rfl ?_
  exact l_X11_goesOut_b2 F a0 h0 p1 hx F 0 w
set_option maxHeartbeats 4000000 in
set_option maxRecDepth 100000 in
theorem l_X11_areRoutes_b25_b {x : Cx} (F : Nat) (a0 : Nat) (h0 : shK a0 = 10 + 9)  (hx : CxOK x RX11 cX11_areRoutes 3 4 0 (some .boolean)) (k2 : Int → aI → Option (Bool × aI)) (hk2 : ∀ (v1 : Int) (w : aI), En x jvBW 0 0 2 [(0, .ref a0), (1, .int (oI v1))] [] (cm w) (k2 v1 w)) (k25 : Int → Int → aI → Option (Bool × aI)) (hk25 : ∀ (v1 : Int) (v2 : Int) (w : aI), En x jvBW 0 0 25 [(0, .ref a0), (1, .int (oI v1)), (2, .int (oI v2))] [] (cm w) (k25 v1 v2 w)) (v1 : Int) (v2 : Int) (w : aI) : En x jvBW 0 0 25 [(0, .ref a0), (1, .int (oI v1)), (2, .int (oI v2))] [] (cm w) (f_X11_areRoutes_b25_b F a0  k2 k25 v1 v2 w) := by
  unfold f_X11_areRoutes_b25_b
  refine E_iload_n (pc := 25) hx 2 dX11_areRoutes_25 rfl rfl ?_
  refine E_aload_n (pc := 26) hx 0 dX11_areRoutes_26 rfl rfl ?_
  refine E_getR (pc := 27) hx 0 fc9 h0 rfl ⟨rfl, rfl, rfl⟩ g1332 dX11_areRoutes_27 ?_
  refine I_iconst (pc := 30) hx 0 dX11_areRoutes_30 ?_
  refine I_iald (pc := 31) hx (kt_9_0 h0) dX11_areRoutes_31 ?_
  refine E_gd (fun hr4 => ?_)
  refine I_icmp_ge (pc := 32) hx 58 dX11_areRoutes_32 rfl ⟨hr4.1, hr4.2⟩ ?_ ?_
  · refine I_iinc (pc := 58) hx 1 1 dX11_areRoutes_58 rfl (Nat.le_of_ble_eq_true rfl) rfl ?_
    refine E_goto (pc := 61) hx 2 dX11_areRoutes_61 rfl ?_
    refine En.sub [1, 0] rfl ?_
    exact hk2 (v1 + 1) w
  refine E_aload_n (pc := 35) hx 0 dX11_areRoutes_35 rfl rfl ?_
  refine E_getR (pc := 36) hx 24 fc9 h0 rfl ⟨rfl, rfl, rfl⟩ g1356 dX11_areRoutes_36 ?_
  refine E_iload_n (pc := 39) hx 2 dX11_areRoutes_39 rfl rfl ?_
  refine I_iald (pc := 40) hx (kt_9_24 h0) dX11_areRoutes_40 ?_
  refine E_aload_n (pc := 41) hx 0 dX11_areRoutes_41 rfl rfl ?_
  refine E_getR (pc := 42) hx 9 fc9 h0 rfl ⟨rfl, rfl, rfl⟩ g1341 dX11_areRoutes_42 ?_
  refine E_iload_n (pc := 45) hx 2 dX11_areRoutes_45 rfl rfl ?_
  refine I_iald (pc := 46) hx (kt_9_9 h0) dX11_areRoutes_46 ?_
  refine E_gd (fun hr5 => ?_)
  refine I_icmp_eq (pc := 47) hx 52 dX11_areRoutes_47 rfl ⟨hr5.1, hr5.2⟩ ?_ ?_
  · refine I_iinc (pc := 52) hx 1 2 dX11_areRoutes_52 rfl (Nat.le_of_ble_eq_true rfl) rfl ?_
    refine E_goto (pc := 55) hx 25 dX11_areRoutes_55 rfl ?_
    refine En.sub [1, 2, 0] rfl ?_
    exact hk25 v1 (v2 + 1) w
  refine I_iconst (pc := 50) hx 0 dX11_areRoutes_50 ?_
  exact E_zret (pc := 51) hx dX11_areRoutes_51 rfl rfl rfl (Nat.le_of_ble_eq_true rfl)
theorem l_X11_areRoutes_b25 {x : Cx} (F : Nat) (a0 : Nat) (h0 : shK a0 = 10 + 9)  (hx : CxOK x RX11 cX11_areRoutes 3 4 0 (some .boolean)) (k2 : Int → aI → Option (Bool × aI)) (hk2 : ∀ (v1 : Int) (w : aI), En x jvBW 0 0 2 [(0, .ref a0), (1, .int (oI v1))] [] (cm w) (k2 v1 w)) : ∀ (n : Nat) (v1 : Int) (v2 : Int) (w : aI), En x jvBW 0 0 25 [(0, .ref a0), (1, .int (oI v1)), (2, .int (oI v2))] [] (cm w) (f_X11_areRoutes_b25 F a0  k2 n v1 v2 w) := by
  intro n
  induction n with
  | zero => intro v1 v2 w; exact E_none
  | succ n ih => intro v1 v2 w; exact l_X11_areRoutes_b25_b F a0 h0  hx k2 hk2 _ ih v1 v2 w
set_option maxHeartbeats 4000000 in
set_option maxRecDepth 100000 in
theorem l_X11_areRoutes_b2_b {x : Cx} (F : Nat) (a0 : Nat) (h0 : shK a0 = 10 + 9)  (hx : CxOK x RX11 cX11_areRoutes 3 4 0 (some .boolean))  (k2 : Int → aI → Option (Bool × aI)) (hk2 : ∀ (v1 : Int) (w : aI), En x jvBW 0 0 2 [(0, .ref a0), (1, .int (oI v1))] [] (cm w) (k2 v1 w)) (v1 : Int) (w : aI) : En x jvBW 0 0 2 [(0, .ref a0), (1, .int (oI v1))] [] (cm w) (f_X11_areRoutes_b2_b F a0   k2 v1 w) := by
  unfold f_X11_areRoutes_b2_b
  refine E_iload_n (pc := 2) hx 1 dX11_areRoutes_2 rfl rfl ?_
  refine E_aload_n (pc := 3) hx 0 dX11_areRoutes_3 rfl rfl ?_
  refine E_getR (pc := 4) hx 0 fc9 h0 rfl ⟨rfl, rfl, rfl⟩ g1332 dX11_areRoutes_4 ?_
  refine I_iconst (pc := 7) hx 0 dX11_areRoutes_7 ?_
  refine I_iald (pc := 8) hx (kt_9_0 h0) dX11_areRoutes_8 ?_
  refine E_gd (fun hr1 => ?_)
  refine I_icmp_ge (pc := 9) hx 64 dX11_areRoutes_9 rfl ⟨hr1.1, hr1.2⟩ ?_ ?_
  · refine I_iconst (pc := 64) hx 1 dX11_areRoutes_64 ?_
    exact E_zret (pc := 65) hx dX11_areRoutes_65 rfl rfl rfl (Nat.le_of_ble_eq_true rfl)
  refine E_aload_n (pc := 12) hx 0 dX11_areRoutes_12 rfl rfl ?_
  refine E_iload_n (pc := 13) hx 1 dX11_areRoutes_13 rfl rfl ?_
  refine I_cVV  (pc := 14) hx [.int (oI v1)] [] (ev_X11_goesOut F a0 h0 v1 w) vm_X11_goesOut fc9 h0 g1852 dX11_areRoutes_14 rfl rfl (Nat.le_of_ble_eq_true rfl) (Nat.le_of_ble_eq_true rfl) (Nat.le_of_ble_eq_true rfl) (fun w2 => ?_)
  refine E_aload_n (pc := 17) hx 0 dX11_areRoutes_17 rfl rfl ?_
  refine E_iload_n (pc := 18) hx 1 dX11_areRoutes_18 rfl rfl ?_
  refine I_iconst (pc := 19) hx (-1) dX11_areRoutes_19 ?_
  refine I_cVV  (pc := 20) hx [.int (oI v1), .int (oI (-1))] [] (ev_X11_reckons F a0 h0 v1 (-1) w2) vm_X11_reckons fc9 h0 g1677 dX11_areRoutes_20 rfl rfl (Nat.le_of_ble_eq_true rfl) (Nat.le_of_ble_eq_true rfl) (Nat.le_of_ble_eq_true rfl) (fun w3 => ?_)
  refine I_iconst (pc := 23) hx 0 dX11_areRoutes_23 ?_
  refine E_istore_n (pc := 24) hx dX11_areRoutes_24 rfl (Nat.le_of_ble_eq_true rfl) rfl ?_
  refine En.sub [1, 2, 0] rfl ?_
  exact l_X11_areRoutes_b25 F a0 h0 hx k2 hk2 F v1 0 w3
theorem l_X11_areRoutes_b2 {x : Cx} (F : Nat) (a0 : Nat) (h0 : shK a0 = 10 + 9)  (hx : CxOK x RX11 cX11_areRoutes 3 4 0 (some .boolean))  : ∀ (n : Nat) (v1 : Int) (w : aI), En x jvBW 0 0 2 [(0, .ref a0), (1, .int (oI v1))] [] (cm w) (f_X11_areRoutes_b2 F a0   n v1 w) := by
  intro n
  induction n with
  | zero => intro v1 w; exact E_none
  | succ n ih => intro v1 w; exact l_X11_areRoutes_b2_b F a0 h0  hx  _ ih v1 w
set_option maxHeartbeats 4000000 in
set_option maxRecDepth 100000 in
theorem ev_X11_areRoutes (F : Nat) (a0 : Nat) (h0 : shK a0 = 10 + 9) (w : aI) : Ev yX11_areRoutes cX11_areRoutes 3 (some .boolean) 4 0 jvBW [.ref a0] (cm w) (f_X11_areRoutes F a0 w) := by
  refine Ev.of (own := RX11) (by decide +kernel) rfl (Nat.le_of_ble_eq_true rfl) (fun x hx => ?_)
  show En x jvBW 0 0 0 [(0, .ref a0)] [] (cm w) _
  unfold f_X11_areRoutes
  refine I_iconst (pc := 0) hx 0 dX11_areRoutes_0 ?_
  refine E_istore_n (pc := 1) hx dX11_areRoutes_1 rfl (Nat.le_of_ble_eq_true rfl) rfl ?_
  refine En.sub [1, 0] rfl ?_
  exact l_X11_areRoutes_b2 F a0 h0 hx F 0 w
set_option maxHeartbeats 4000000 in
set_option maxRecDepth 100000 in
theorem l_X11_areTunes_b4_b {x : Cx} (F : Nat) (a0 : Nat) (h0 : shK a0 = 10 + 9) (w : aI) (hx : CxOK x RX11 cX11_areTunes 4 2 0 (some .boolean))  (k4 : Int → Int → Option Bool) (hk4 : ∀ (v1 : Int) (v2 : Int), En x (jvB w) 0 0 4 [(0, .ref a0), (1, .int (oI v1)), (2, .int (oI v2))] [] (cm w) (k4 v1 v2)) (v1 : Int) (v2 : Int)  : En x (jvB w) 0 0 4 [(0, .ref a0), (1, .int (oI v1)), (2, .int (oI v2))] [] (cm w) (f_X11_areTunes_b4_b F a0 w  k4 v1 v2) := by
  unfold f_X11_areTunes_b4_b
  refine E_iload_n (pc := 4) hx 2 dX11_areTunes_4 rfl rfl ?_
  refine E_aload_n (pc := 5) hx 0 dX11_areTunes_5 rfl rfl ?_
  refine E_getR (pc := 6) hx 0 fc9 h0 rfl ⟨rfl, rfl, rfl⟩ g1332 dX11_areTunes_6 ?_
  refine I_iconst (pc := 9) hx 2 dX11_areTunes_9 ?_
  refine I_iald (pc := 10) hx (kt_9_0 h0) dX11_areTunes_10 ?_
  refine E_gd (fun hr1 => ?_)
  refine I_icmp_ge (pc := 11) hx 85 dX11_areTunes_11 rfl ⟨hr1.1, hr1.2⟩ ?_ ?_
  · refine E_iload_n (pc := 85) hx 1 dX11_areTunes_85 rfl rfl ?_
    refine E_aload_n (pc := 86) hx 0 dX11_areTunes_86 rfl rfl ?_
    refine E_getR (pc := 87) hx 0 fc9 h0 rfl ⟨rfl, rfl, rfl⟩ g1332 dX11_areTunes_87 ?_
    refine I_bipush (pc := 90) hx 13 dX11_areTunes_90 rfl ?_
    refine I_iald (pc := 92) hx (kt_9_0 h0) dX11_areTunes_92 ?_
    refine E_gd (fun hr2 => ?_)
    refine I_icmp_ne (pc := 93) hx 100 dX11_areTunes_93 rfl ⟨hr2.1, hr2.2⟩ ?_ ?_
    · refine I_iconst (pc := 100) hx 0 dX11_areTunes_100 ?_
      exact E_zret (pc := 101) hx dX11_areTunes_101 rfl rfl rfl (Nat.le_of_ble_eq_true rfl)
    refine I_iconst (pc := 96) hx 1 dX11_areTunes_96 ?_
    refine E_goto (pc := 97) hx 101 dX11_areTunes_97 rfl ?_
    exact E_zret (pc := 101) hx dX11_areTunes_101 rfl rfl rfl (Nat.le_of_ble_eq_true rfl)
  refine E_iload_n (pc := 14) hx 2 dX11_areTunes_14 rfl rfl ?_
  refine I_cSI  (pc := 15) hx [.int (oI v2)] [] (ev_X11_t F v2 w) sm_X11_t g1594 dX11_areTunes_15 rfl rfl (Nat.le_of_ble_eq_true rfl) (Nat.le_of_ble_eq_true rfl) (Nat.le_of_ble_eq_true rfl) (fun r3 => ?_)
  refine E_istore_n (pc := 18) hx dX11_areTunes_18 rfl (Nat.le_of_ble_eq_true rfl) rfl ?_
  refine E_iload_n (pc := 19) hx 2 dX11_areTunes_19 rfl rfl ?_
  refine E_aload_n (pc := 20) hx 1 dX11_areTunes_20 rfl rfl ?_
  refine E_getR (pc := 21) hx 0 fc9 h0 rfl ⟨rfl, rfl, rfl⟩ g1332 dX11_areTunes_21 ?_
  refine E_iload_n (pc := 24) hx 0 dX11_areTunes_24 rfl rfl ?_
  refine I_bipush (pc := 25) hx 9 dX11_areTunes_25 rfl ?_
  refine I_iadd (pc := 27) hx dX11_areTunes_27 ?_
  refine I_iald (pc := 28) hx (kt_9_0 h0) dX11_areTunes_28 ?_
  refine I_iadd (pc := 29) hx dX11_areTunes_29 ?_
  refine I_ltv (fun v1_4 => ?_)
  refine E_istore_n (pc := 30) hx dX11_areTunes_30 rfl (Nat.le_of_ble_eq_true rfl) rfl ?_
  refine E_aload_n (pc := 31) hx 2 dX11_areTunes_31 rfl rfl ?_
  refine E_aload_n (pc := 32) hx 2 dX11_areTunes_32 rfl rfl ?_
  refine E_getR (pc := 33) hx 0 fc9 h0 rfl ⟨rfl, rfl, rfl⟩ g1332 dX11_areTunes_33 ?_
  refine E_iload_n (pc := 36) hx 1 dX11_areTunes_36 rfl rfl ?_
  refine I_iconst (pc := 37) hx 4 dX11_areTunes_37 ?_
  refine I_iadd (pc := 38) hx dX11_areTunes_38 ?_
  refine I_iald (pc := 39) hx (kt_9_0 h0) dX11_areTunes_39 ?_
  refine I_cVB  (pc := 40) hx [.int (oI (w (shR a0 0) (r3 + 4)))] [] (ev_X11_isRoof F a0 h0 (w (shR a0 0) (r3 + 4)) w) vm_X11_isRoof fc9 h0 g1739 dX11_areTunes_40 rfl rfl (Nat.le_of_ble_eq_true rfl) (Nat.le_of_ble_eq_true rfl) (Nat.le_of_ble_eq_true rfl) (fun r5 => ?_)
  refine I_ifB_eq (pc := 43) hx 77 dX11_areTunes_43 rfl ?_ ?_
  · refine I_iconst (pc := 77) hx 0 dX11_areTunes_77 ?_
    exact E_zret (pc := 78) hx dX11_areTunes_78 rfl rfl rfl (Nat.le_of_ble_eq_true rfl)
  refine E_aload_n (pc := 46) hx 2 dX11_areTunes_46 rfl rfl ?_
  refine E_getR (pc := 47) hx 0 fc9 h0 rfl ⟨rfl, rfl, rfl⟩ g1332 dX11_areTunes_47 ?_
  refine E_iload_n (pc := 50) hx 1 dX11_areTunes_50 rfl rfl ?_
  refine I_iconst (pc := 51) hx 3 dX11_areTunes_51 ?_
  refine I_iadd (pc := 52) hx dX11_areTunes_52 ?_
  refine I_iald (pc := 53) hx (kt_9_0 h0) dX11_areTunes_53 ?_
  refine I_iconst (pc := 54) hx 2 dX11_areTunes_54 ?_
  refine E_gd (fun hr6 => ?_)
  refine I_icmp_ne (pc := 55) hx 79 dX11_areTunes_55 rfl ⟨hr6, (by decide)⟩ ?_ ?_
  · refine I_iinc (pc := 79) hx 1 3 dX11_areTunes_79 rfl (Nat.le_of_ble_eq_true rfl) rfl ?_
    refine E_goto (pc := 82) hx 4 dX11_areTunes_82 rfl ?_
    refine En.sub [3, 1, 0] rfl ?_
    exact hk4 v1_4 (v2 + 1)
  refine E_aload_n (pc := 58) hx 2 dX11_areTunes_58 rfl rfl ?_
  refine E_getR (pc := 59) hx 0 fc9 h0 rfl ⟨rfl, rfl, rfl⟩ g1332 dX11_areTunes_59 ?_
  refine E_iload_n (pc := 62) hx 1 dX11_areTunes_62 rfl rfl ?_
  refine I_iconst (pc := 63) hx 4 dX11_areTunes_63 ?_
  refine I_iadd (pc := 64) hx dX11_areTunes_64 ?_
  refine I_iald (pc := 65) hx (kt_9_0 h0) dX11_areTunes_65 ?_
  refine E_aload_n (pc := 66) hx 2 dX11_areTunes_66 rfl rfl ?_
  refine E_getR (pc := 67) hx 0 fc9 h0 rfl ⟨rfl, rfl, rfl⟩ g1332 dX11_areTunes_67 ?_
  refine E_iload_n (pc := 70) hx 1 dX11_areTunes_70 rfl rfl ?_
  refine I_iconst (pc := 71) hx 1 dX11_areTunes_71 ?_
  refine I_iadd (pc := 72) hx dX11_areTunes_72 ?_
  refine I_iald (pc := 73) hx (kt_9_0 h0) dX11_areTunes_73 ?_
  refine E_gd (fun hr7 => ?_)
  refine I_icmp_eq (pc := 74) hx 79 dX11_areTunes_74 rfl ⟨hr7.1, hr7.2⟩ ?_ ?_
  · refine I_iinc (pc := 79) hx 1 3 dX11_areTunes_79 rfl (Nat.le_of_ble_eq_true rfl) rfl ?_
    refine E_goto (pc := 82) hx 4 dX11_areTunes_82 rfl ?_
    refine En.sub [3, 1, 0] rfl ?_
    exact hk4 v1_4 (v2 + 1)
  refine I_iconst (pc := 77) hx 0 dX11_areTunes_77 ?_
  exact E_zret (pc := 78) hx dX11_areTunes_78 rfl rfl rfl (Nat.le_of_ble_eq_true rfl)
theorem l_X11_areTunes_b4 {x : Cx} (F : Nat) (a0 : Nat) (h0 : shK a0 = 10 + 9) (w : aI) (hx : CxOK x RX11 cX11_areTunes 4 2 0 (some .boolean))  : ∀ (n : Nat) (v1 : Int) (v2 : Int), En x (jvB w) 0 0 4 [(0, .ref a0), (1, .int (oI v1)), (2, .int (oI v2))] [] (cm w) (f_X11_areTunes_b4 F a0 w  n v1 v2) := by
  intro n
  induction n with
  | zero => intro v1 v2; exact E_none
  | succ n ih => intro v1 v2; exact l_X11_areTunes_b4_b F a0 h0 w hx  _ ih v1 v2
set_option maxHeartbeats 4000000 in
set_option maxRecDepth 100000 in
theorem ev_X11_areTunes (F : Nat) (a0 : Nat) (h0 : shK a0 = 10 + 9) (w : aI) : Ev yX11_areTunes cX11_areTunes 4 (some .boolean) 2 0 (jvB w) [.ref a0] (cm w) (f_X11_areTunes F a0 w) := by
  refine Ev.of (own := RX11) (by decide +kernel) rfl (Nat.le_of_ble_eq_true rfl) (fun x hx => ?_)
  show En x (jvB w) 0 0 0 [(0, .ref a0)] [] (cm w) _
  unfold f_X11_areTunes
  refine I_iconst (pc := 0) hx 0 dX11_areTunes_0 ?_
  refine E_istore_n (pc := 1) hx dX11_areTunes_1 rfl (Nat.le_of_ble_eq_true rfl) rfl ?_
  refine I_iconst (pc := 2) hx 0 dX11_areTunes_2 ?_
  refine E_istore_n (pc := 3) hx dX11_areTunes_3 rfl (Nat.le_of_ble_eq_true rfl) rfl ?_
  refine En.sub [2, 1, 0] rfl ?_
  exact l_X11_areTunes_b4 F a0 h0 w hx F 0 0
set_option maxHeartbeats 4000000 in
set_option maxRecDepth 100000 in
theorem l_X11_agree_b88 {x : Cx} (F : Nat) (a0 : Nat) (h0 : shK a0 = 10 + 9)  (hx : CxOK x RX11 cX11_agree 2 5 0 (some .boolean))   (z0 : Int) (w : aI) : En x jvBW 0 0 88 [(0, .ref a0)] [.int (oI z0)] (cm w) (f_X11_agree_b88 F a0    z0 w) := by
  unfold f_X11_agree_b88
  refine E_istore_n (pc := 88) hx dX11_agree_88 rfl (Nat.le_of_ble_eq_true rfl) rfl ?_
  refine E_iload_n (pc := 89) hx 0 dX11_agree_89 rfl rfl ?_
  refine E_gd (fun hr4 => ?_)
  refine I_if_eq (pc := 90) hx 128 dX11_agree_90 rfl hr4 ?_ ?_
  · refine I_iconst (pc := 128) hx 0 dX11_agree_128 ?_
    exact E_zret (pc := 129) hx dX11_agree_129 rfl rfl rfl (Nat.le_of_ble_eq_true rfl)
  refine E_aload_n (pc := 93) hx 1 dX11_agree_93 rfl rfl ?_
  refine E_getR (pc := 94) hx 0 fc9 h0 rfl ⟨rfl, rfl, rfl⟩ g1332 dX11_agree_94 ?_
  refine I_bipush (pc := 97) hx 16 dX11_agree_97 rfl ?_
  refine I_iald (pc := 99) hx (kt_9_0 h0) dX11_agree_99 ?_
  refine E_aload_n (pc := 100) hx 1 dX11_agree_100 rfl rfl ?_
  refine E_getR (pc := 101) hx 0 fc9 h0 rfl ⟨rfl, rfl, rfl⟩ g1332 dX11_agree_101 ?_
  refine I_bipush (pc := 104) hx 15 dX11_agree_104 rfl ?_
  refine I_iald (pc := 106) hx (kt_9_0 h0) dX11_agree_106 ?_
  refine E_gd (fun hr5 => ?_)
  refine I_icmp_gt (pc := 107) hx 128 dX11_agree_107 rfl ⟨hr5.1, hr5.2⟩ ?_ ?_
  · refine I_iconst (pc := 128) hx 0 dX11_agree_128 ?_
    exact E_zret (pc := 129) hx dX11_agree_129 rfl rfl rfl (Nat.le_of_ble_eq_true rfl)
  refine E_aload_n (pc := 110) hx 1 dX11_agree_110 rfl rfl ?_
  refine I_cVB  (pc := 111) hx [] [] (ev_X11_areTunes F a0 h0 w) vm_X11_areTunes fc9 h0 g1844 dX11_agree_111 rfl rfl (Nat.le_of_ble_eq_true rfl) (Nat.le_of_ble_eq_true rfl) (Nat.le_of_ble_eq_true rfl) (fun r6 => ?_)
  refine I_ifB_eq (pc := 114) hx 128 dX11_agree_114 rfl ?_ ?_
  · refine I_iconst (pc := 128) hx 0 dX11_agree_128 ?_
    exact E_zret (pc := 129) hx dX11_agree_129 rfl rfl rfl (Nat.le_of_ble_eq_true rfl)
  refine E_aload_n (pc := 117) hx 1 dX11_agree_117 rfl rfl ?_
  refine I_cVBW  (pc := 118) hx [] [] (ev_X11_areRoutes F a0 h0 w) vm_X11_areRoutes fc9 h0 g1848 dX11_agree_118 rfl rfl (Nat.le_of_ble_eq_true rfl) (Nat.le_of_ble_eq_true rfl) (Nat.le_of_ble_eq_true rfl) (fun r7 w8 => ?_)
  refine I_ifB_eq (pc := 121) hx 128 dX11_agree_121 rfl ?_ ?_
  · refine I_iconst (pc := 128) hx 0 dX11_agree_128 ?_
    exact E_zret (pc := 129) hx dX11_agree_129 rfl rfl rfl (Nat.le_of_ble_eq_true rfl)
  refine I_iconst (pc := 124) hx 1 dX11_agree_124 ?_
  refine E_goto (pc := 125) hx 129 dX11_agree_125 rfl ?_
  exact E_zret (pc := 129) hx dX11_agree_129 rfl rfl rfl (Nat.le_of_ble_eq_true rfl)
set_option maxHeartbeats 4000000 in
set_option maxRecDepth 100000 in
theorem l_X11_agree_b87 {x : Cx} (F : Nat) (a0 : Nat) (h0 : shK a0 = 10 + 9)  (hx : CxOK x RX11 cX11_agree 2 5 0 (some .boolean))    (w : aI) : En x jvBW 0 0 87 [(0, .ref a0)] [] (cm w) (f_X11_agree_b87 F a0    w) := by
  unfold f_X11_agree_b87
  refine I_iconst (pc := 87) hx 0 dX11_agree_87 ?_
  exact l_X11_agree_b88 F a0 h0 hx 0 w
set_option maxHeartbeats 4000000 in
set_option maxRecDepth 100000 in
theorem l_X11_agree_b41 {x : Cx} (F : Nat) (a0 : Nat) (h0 : shK a0 = 10 + 9)  (hx : CxOK x RX11 cX11_agree 2 5 0 (some .boolean))   (z0 : Int) (w : aI) : En x jvBW 0 0 41 [(0, .ref a0)] [.int (oI z0)] (cm w) (f_X11_agree_b41 F a0    z0 w) := by
  unfold f_X11_agree_b41
  refine E_istore_n (pc := 41) hx dX11_agree_41 rfl (Nat.le_of_ble_eq_true rfl) rfl ?_
  refine E_iload_n (pc := 42) hx 0 dX11_agree_42 rfl rfl ?_
  refine E_gd (fun hr3 => ?_)
  refine I_if_eq (pc := 43) hx 87 dX11_agree_43 rfl hr3 ?_ ?_
  · refine En.sub [1] rfl ?_
    exact l_X11_agree_b87 F a0 h0 hx w
  refine E_aload_n (pc := 46) hx 1 dX11_agree_46 rfl rfl ?_
  refine I_iconst (pc := 47) hx 3 dX11_agree_47 ?_
  refine I_cVI  (pc := 48) hx [.int (oI 3)] [] (ev_X11_those F a0 h0 3 w) vm_X11_those fc9 h0 g1718 dX11_agree_48 rfl rfl (Nat.le_of_ble_eq_true rfl) (Nat.le_of_ble_eq_true rfl) (Nat.le_of_ble_eq_true rfl) (fun r9 => ?_)
  refine E_aload_n (pc := 51) hx 1 dX11_agree_51 rfl rfl ?_
  refine E_getR (pc := 52) hx 0 fc9 h0 rfl ⟨rfl, rfl, rfl⟩ g1332 dX11_agree_52 ?_
  refine I_bipush (pc := 55) hx 18 dX11_agree_55 rfl ?_
  refine I_iald (pc := 57) hx (kt_9_0 h0) dX11_agree_57 ?_
  refine E_gd (fun hr10 => ?_)
  refine I_icmp_ne (pc := 58) hx 87 dX11_agree_58 rfl ⟨hr10.1, hr10.2⟩ ?_ ?_
  · refine En.sub [1] rfl ?_
    exact l_X11_agree_b87 F a0 h0 hx w
  refine E_aload_n (pc := 61) hx 1 dX11_agree_61 rfl rfl ?_
  refine I_cVI  (pc := 62) hx [] [] (ev_X11_purses F a0 h0 w) vm_X11_purses fc9 h0 g1726 dX11_agree_62 rfl rfl (Nat.le_of_ble_eq_true rfl) (Nat.le_of_ble_eq_true rfl) (Nat.le_of_ble_eq_true rfl) (fun r11 => ?_)
  refine E_aload_n (pc := 65) hx 1 dX11_agree_65 rfl rfl ?_
  refine E_getR (pc := 66) hx 0 fc9 h0 rfl ⟨rfl, rfl, rfl⟩ g1332 dX11_agree_66 ?_
  refine I_bipush (pc := 69) hx 7 dX11_agree_69 rfl ?_
  refine I_iald (pc := 71) hx (kt_9_0 h0) dX11_agree_71 ?_
  refine E_aload_n (pc := 72) hx 1 dX11_agree_72 rfl rfl ?_
  refine E_getR (pc := 73) hx 0 fc9 h0 rfl ⟨rfl, rfl, rfl⟩ g1332 dX11_agree_73 ?_
  refine I_bipush (pc := 76) hx 20 dX11_agree_76 rfl ?_
  refine I_iald (pc := 78) hx (kt_9_0 h0) dX11_agree_78 ?_
  refine I_iadd (pc := 79) hx dX11_agree_79 ?_
  refine E_gd (fun hr12 => ?_)
  refine I_icmp_ne (pc := 80) hx 87 dX11_agree_80 rfl ⟨hr12.1, hr12.2⟩ ?_ ?_
  · refine En.sub [1] rfl ?_
    exact l_X11_agree_b87 F a0 h0 hx w
  refine I_iconst (pc := 83) hx 1 dX11_agree_83 ?_
  refine E_goto (pc := 84) hx 88 dX11_agree_84 rfl ?_
  refine En.sub [1] rfl ?_
  exact l_X11_agree_b88 F a0 h0 hx 1 w
set_option maxHeartbeats 4000000 in
set_option maxRecDepth 100000 in
theorem l_X11_agree_b40 {x : Cx} (F : Nat) (a0 : Nat) (h0 : shK a0 = 10 + 9)  (hx : CxOK x RX11 cX11_agree 2 5 0 (some .boolean))    (w : aI) : En x jvBW 0 0 40 [(0, .ref a0)] [] (cm w) (f_X11_agree_b40 F a0    w) := by
  unfold f_X11_agree_b40
  refine I_iconst (pc := 40) hx 0 dX11_agree_40 ?_
  exact l_X11_agree_b41 F a0 h0 hx 0 w
set_option maxHeartbeats 4000000 in
set_option maxRecDepth 100000 in
theorem ev_X11_agree (F : Nat) (a0 : Nat) (h0 : shK a0 = 10 + 9) (w : aI) : Ev yX11_agree cX11_agree 2 (some .boolean) 5 0 jvBW [.ref a0] (cm w) (f_X11_agree F a0 w) := by
  refine Ev.of (own := RX11) (by decide +kernel) rfl (Nat.le_of_ble_eq_true rfl) (fun x hx => ?_)
  show En x jvBW 0 0 0 [(0, .ref a0)] [] (cm w) _
  unfold f_X11_agree
  refine E_aload_n (pc := 0) hx 0 dX11_agree_0 rfl rfl ?_
  refine I_iconst (pc := 1) hx 0 dX11_agree_1 ?_
  refine I_put (pc := 2) hx 6 6 rfl .int tyX11 fc9 tyX11_ok h0 rfl ⟨rfl, rfl, rfl, rfl, pfd_I⟩ rfl rfl g1338 dX11_agree_2 (fun w1 => ?_)
  refine E_aload_n (pc := 5) hx 0 dX11_agree_5 rfl rfl ?_
  refine E_getR (pc := 6) hx 0 fc9 h0 rfl ⟨rfl, rfl, rfl⟩ g1332 dX11_agree_6 ?_
  refine I_bipush (pc := 9) hx 11 dX11_agree_9 rfl ?_
  refine I_iald (pc := 11) hx (kt_9_0 h0) dX11_agree_11 ?_
  refine E_aload_n (pc := 12) hx 0 dX11_agree_12 rfl rfl ?_
  refine E_getR (pc := 13) hx 0 fc9 h0 rfl ⟨rfl, rfl, rfl⟩ g1332 dX11_agree_13 ?_
  refine I_iconst (pc := 16) hx 2 dX11_agree_16 ?_
  refine I_iald (pc := 17) hx (kt_9_0 h0) dX11_agree_17 ?_
  refine E_gd (fun hr2 => ?_)
  refine I_icmp_ne (pc := 18) hx 40 dX11_agree_18 rfl ⟨hr2.1, hr2.2⟩ ?_ ?_
  · exact l_X11_agree_b40 F a0 h0 hx w1
  refine E_aload_n (pc := 21) hx 0 dX11_agree_21 rfl rfl ?_
  refine I_iconst (pc := 22) hx 2 dX11_agree_22 ?_
  refine I_cVI  (pc := 23) hx [.int (oI 2)] [] (ev_X11_those F a0 h0 2 w1) vm_X11_those fc9 h0 g1718 dX11_agree_23 rfl rfl (Nat.le_of_ble_eq_true rfl) (Nat.le_of_ble_eq_true rfl) (Nat.le_of_ble_eq_true rfl) (fun r13 => ?_)
  refine E_aload_n (pc := 26) hx 0 dX11_agree_26 rfl rfl ?_
  refine E_getR (pc := 27) hx 0 fc9 h0 rfl ⟨rfl, rfl, rfl⟩ g1332 dX11_agree_27 ?_
  refine I_bipush (pc := 30) hx 15 dX11_agree_30 rfl ?_
  refine I_iald (pc := 32) hx (kt_9_0 h0) dX11_agree_32 ?_
  refine E_gd (fun hr14 => ?_)
  refine I_icmp_ne (pc := 33) hx 40 dX11_agree_33 rfl ⟨hr14.1, hr14.2⟩ ?_ ?_
  · exact l_X11_agree_b40 F a0 h0 hx w1
  refine I_iconst (pc := 36) hx 1 dX11_agree_36 ?_
  refine E_goto (pc := 37) hx 41 dX11_agree_37 rfl ?_
  exact l_X11_agree_b41 F a0 h0 hx 1 w1
set_option maxHeartbeats 4000000 in
set_option maxRecDepth 100000 in
theorem l_X11_sings_b81 {x : Cx} (F : Nat) (a0 : Nat) (h0 : shK a0 = 10 + 9) (p1 : Int)  (hx : CxOK x RX11 cX11_sings 5 0 0 (some .boolean)) (k44 : Int → Int → Int → aI → Option (Bool × aI)) (hk44 : ∀ (v2 : Int) (v3 : Int) (v4 : Int) (w : aI), En x jvBW 0 0 44 [(0, .ref a0), (2, .int (oI v2)), (3, .int (oI v3)), (4, .int (oI v4))] [] (cm w) (k44 v2 v3 v4 w))  (v2 : Int) (v4 : Int) (z0 : Int) (w : aI) : En x jvBW 0 0 81 [(0, .ref a0), (2, .int (oI v2)), (4, .int (oI v4))] [.int (oI z0)] (cm w) (f_X11_sings_b81 F a0 p1  k44  v2 v4 z0 w) := by
  unfold f_X11_sings_b81
  refine E_istore_n (pc := 81) hx dX11_sings_81 rfl (Nat.le_of_ble_eq_true rfl) rfl ?_
  refine E_iload_n (pc := 82) hx 2 dX11_sings_82 rfl rfl ?_
  refine I_bipush (pc := 83) hx 10 dX11_sings_83 rfl ?_
  refine E_gd (fun hr11 => ?_)
  refine I_idiv (pc := 85) hx dX11_sings_85 ⟨hr11, (by decide), (by decide)⟩ ?_
  refine I_ltv (fun v2_12 => ?_)
  refine E_istore_n (pc := 86) hx dX11_sings_86 rfl (Nat.le_of_ble_eq_true rfl) rfl ?_
  refine I_iinc (pc := 87) hx (-1) 3 dX11_sings_87 rfl (Nat.le_of_ble_eq_true rfl) rfl ?_
  refine E_goto (pc := 90) hx 44 dX11_sings_90 rfl ?_
  refine En.sub [3, 1, 2, 0] rfl ?_
  exact hk44 v2_12 z0 (v4 + (-1)) w
set_option maxHeartbeats 4000000 in
set_option maxRecDepth 100000 in
theorem l_X11_sings_b80 {x : Cx} (F : Nat) (a0 : Nat) (h0 : shK a0 = 10 + 9) (p1 : Int)  (hx : CxOK x RX11 cX11_sings 5 0 0 (some .boolean)) (k44 : Int → Int → Int → aI → Option (Bool × aI)) (hk44 : ∀ (v2 : Int) (v3 : Int) (v4 : Int) (w : aI), En x jvBW 0 0 44 [(0, .ref a0), (2, .int (oI v2)), (3, .int (oI v3)), (4, .int (oI v4))] [] (cm w) (k44 v2 v3 v4 w))  (v2 : Int) (v4 : Int) (w : aI) : En x jvBW 0 0 80 [(0, .ref a0), (2, .int (oI v2)), (4, .int (oI v4))] [] (cm w) (f_X11_sings_b80 F a0 p1  k44  v2 v4 w) := by
  unfold f_X11_sings_b80
  refine I_iconst (pc := 80) hx 0 dX11_sings_80 ?_
  exact l_X11_sings_b81 F a0 h0 p1 hx k44 hk44 v2 v4 0 w
set_option maxHeartbeats 4000000 in
set_option maxRecDepth 100000 in
theorem l_X11_sings_b44_b {x : Cx} (F : Nat) (a0 : Nat) (h0 : shK a0 = 10 + 9) (p1 : Int)  (hx : CxOK x RX11 cX11_sings 5 0 0 (some .boolean))  (k44 : Int → Int → Int → aI → Option (Bool × aI)) (hk44 : ∀ (v2 : Int) (v3 : Int) (v4 : Int) (w : aI), En x jvBW 0 0 44 [(0, .ref a0), (2, .int (oI v2)), (3, .int (oI v3)), (4, .int (oI v4))] [] (cm w) (k44 v2 v3 v4 w)) (v2 : Int) (v3 : Int) (v4 : Int) (w : aI) : En x jvBW 0 0 44 [(0, .ref a0), (2, .int (oI v2)), (3, .int (oI v3)), (4, .int (oI v4))] [] (cm w) (f_X11_sings_b44_b F a0 p1   k44 v2 v3 v4 w) := by
  unfold f_X11_sings_b44_b
  refine E_iload (pc := 44) hx 3 dX11_sings_44 rfl ?_
  refine E_gd (fun hr6 => ?_)
  refine I_if_lt (pc := 46) hx 93 dX11_sings_46 rfl hr6 ?_ ?_
  · refine E_iload_n (pc := 93) hx 2 dX11_sings_93 rfl rfl ?_
    refine E_gd (fun hz7 => ?_)
    exact E_zret (pc := 94) hx dX11_sings_94 rfl (zI_nar hz7) (by simp only [jvB, jvBW, zI_bi hz7]) (Nat.le_of_ble_eq_true rfl)
  refine E_aload_n (pc := 49) hx 0 dX11_sings_49 rfl rfl ?_
  refine E_getR (pc := 50) hx 10 fc9 h0 rfl ⟨rfl, rfl, rfl⟩ g1342 dX11_sings_50 ?_
  refine E_iload (pc := 53) hx 3 dX11_sings_53 rfl ?_
  refine E_iload_n (pc := 55) hx 1 dX11_sings_55 rfl rfl ?_
  refine I_bipush (pc := 56) hx 10 dX11_sings_56 rfl ?_
  refine E_gd (fun hr8 => ?_)
  refine I_irem (pc := 58) hx dX11_sings_58 ⟨hr8, (by decide), (by decide)⟩ ?_
  refine I_iast (pc := 59) hx (kt_9_10 h0) dX11_sings_59 (fun w9 => ?_)
  refine E_iload_n (pc := 60) hx 2 dX11_sings_60 rfl rfl ?_
  refine E_gd (fun hr10 => ?_)
  refine I_if_eq (pc := 61) hx 80 dX11_sings_61 rfl hr10 ?_ ?_
  · refine En.sub [0, 1, 3] rfl ?_
    exact l_X11_sings_b80 F a0 h0 p1 hx k44 hk44 v2 v4 w9
  refine E_aload_n (pc := 64) hx 0 dX11_sings_64 rfl rfl ?_
  refine E_getR (pc := 65) hx 10 fc9 h0 rfl ⟨rfl, rfl, rfl⟩ g1342 dX11_sings_65 ?_
  refine E_iload (pc := 68) hx 3 dX11_sings_68 rfl ?_
  refine I_iald (pc := 70) hx (kt_9_10 h0) dX11_sings_70 ?_
  refine I_bipush (pc := 71) hx 8 dX11_sings_71 rfl ?_
  refine E_gd (fun hr13 => ?_)
  refine I_icmp_ge (pc := 73) hx 80 dX11_sings_73 rfl ⟨hr13, (by decide)⟩ ?_ ?_
  · refine En.sub [0, 1, 3] rfl ?_
    exact l_X11_sings_b80 F a0 h0 p1 hx k44 hk44 v2 v4 w9
  refine I_iconst (pc := 76) hx 1 dX11_sings_76 ?_
  refine E_goto (pc := 77) hx 81 dX11_sings_77 rfl ?_
  refine En.sub [0, 1, 3] rfl ?_
  exact l_X11_sings_b81 F a0 h0 p1 hx k44 hk44 v2 v4 1 w9
theorem l_X11_sings_b44 {x : Cx} (F : Nat) (a0 : Nat) (h0 : shK a0 = 10 + 9) (p1 : Int)  (hx : CxOK x RX11 cX11_sings 5 0 0 (some .boolean))  : ∀ (n : Nat) (v2 : Int) (v3 : Int) (v4 : Int) (w : aI), En x jvBW 0 0 44 [(0, .ref a0), (2, .int (oI v2)), (3, .int (oI v3)), (4, .int (oI v4))] [] (cm w) (f_X11_sings_b44 F a0 p1   n v2 v3 v4 w) := by
  intro n
  induction n with
  | zero => intro v2 v3 v4 w; exact E_none
  | succ n ih => intro v2 v3 v4 w; exact l_X11_sings_b44_b F a0 h0 p1  hx  _ ih v2 v3 v4 w
set_option maxHeartbeats 4000000 in
set_option maxRecDepth 100000 in
theorem l_X11_sings_b10_b {x : Cx} (F : Nat) (a0 : Nat) (h0 : shK a0 = 10 + 9) (p1 : Int)  (hx : CxOK x RX11 cX11_sings 5 0 0 (some .boolean))  (k10 : Int → aI → Option (Bool × aI)) (hk10 : ∀ (v2 : Int) (w : aI), En x jvBW 0 0 10 [(0, .ref a0), (1, .int (oI p1)), (2, .int (oI v2))] [] (cm w) (k10 v2 w)) (v2 : Int) (w : aI) : En x jvBW 0 0 10 [(0, .ref a0), (1, .int (oI p1)), (2, .int (oI v2))] [] (cm w) (f_X11_sings_b10_b F a0 p1   k10 v2 w) := by
  unfold f_X11_sings_b10_b
  refine E_iload_n (pc := 10) hx 2 dX11_sings_10 rfl rfl ?_
  refine E_gd (fun hr4 => ?_)
  refine I_if_le (pc := 11) hx 32 dX11_sings_11 rfl hr4 ?_ ?_
  · refine E_iload_n (pc := 32) hx 1 dX11_sings_32 rfl rfl ?_
    refine E_istore_n (pc := 33) hx dX11_sings_33 rfl (Nat.le_of_ble_eq_true rfl) rfl ?_
    refine I_iconst (pc := 34) hx 1 dX11_sings_34 ?_
    refine E_istore_n (pc := 35) hx dX11_sings_35 rfl (Nat.le_of_ble_eq_true rfl) rfl ?_
    refine E_aload_n (pc := 36) hx 2 dX11_sings_36 rfl rfl ?_
    refine I_getI (pc := 37) hx 11 11 rfl fc9 h0 rfl ⟨rfl, rfl, rfl⟩ g1343 dX11_sings_37 ?_
    refine I_iconst (pc := 40) hx 1 dX11_sings_40 ?_
    refine I_isub (pc := 41) hx dX11_sings_41 ?_
    refine I_ltv (fun v4_5 => ?_)
    refine E_istore (pc := 42) hx dX11_sings_42 (Nat.le_of_ble_eq_true rfl) rfl ?_
    refine En.sub [3, 2, 1, 0] rfl ?_
    exact l_X11_sings_b44 F a0 h0 p1 hx F p1 1 v4_5 w
  refine E_aload_n (pc := 14) hx 0 dX11_sings_14 rfl rfl ?_
  refine E_dup (pc := 15) hx dX11_sings_15 rfl ?_
  refine I_getI (pc := 16) hx 11 11 rfl fc9 h0 rfl ⟨rfl, rfl, rfl⟩ g1343 dX11_sings_16 ?_
  refine I_iconst (pc := 19) hx 1 dX11_sings_19 ?_
  refine I_iadd (pc := 20) hx dX11_sings_20 ?_
  refine I_put (pc := 21) hx 11 11 rfl .int tyX11 fc9 tyX11_ok h0 rfl ⟨rfl, rfl, rfl, rfl, pfd_I⟩ rfl rfl g1343 dX11_sings_21 (fun w14 => ?_)
  refine E_iload_n (pc := 24) hx 2 dX11_sings_24 rfl rfl ?_
  refine I_bipush (pc := 25) hx 10 dX11_sings_25 rfl ?_
  refine I_idiv (pc := 27) hx dX11_sings_27 ⟨hr4, (by decide), (by decide)⟩ ?_
  refine I_ltv (fun v2_15 => ?_)
  refine E_istore_n (pc := 28) hx dX11_sings_28 rfl (Nat.le_of_ble_eq_true rfl) rfl ?_
  refine E_goto (pc := 29) hx 10 dX11_sings_29 rfl ?_
  refine En.sub [1, 2, 0] rfl ?_
  exact hk10 v2_15 w14
theorem l_X11_sings_b10 {x : Cx} (F : Nat) (a0 : Nat) (h0 : shK a0 = 10 + 9) (p1 : Int)  (hx : CxOK x RX11 cX11_sings 5 0 0 (some .boolean))  : ∀ (n : Nat) (v2 : Int) (w : aI), En x jvBW 0 0 10 [(0, .ref a0), (1, .int (oI p1)), (2, .int (oI v2))] [] (cm w) (f_X11_sings_b10 F a0 p1   n v2 w) := by
  intro n
  induction n with
  | zero => intro v2 w; exact E_none
  | succ n ih => intro v2 w; exact l_X11_sings_b10_b F a0 h0 p1  hx  _ ih v2 w
set_option maxHeartbeats 4000000 in
set_option maxRecDepth 100000 in
theorem ev_X11_sings (F : Nat) (a0 : Nat) (h0 : shK a0 = 10 + 9) (p1 : Int) (w : aI) : Ev yX11_sings cX11_sings 5 (some .boolean) 0 0 jvBW [.ref a0, .int (oI p1)] (cm w) (f_X11_sings F a0 p1 w) := by
  refine Ev.of (own := RX11) (by decide +kernel) rfl (Nat.le_of_ble_eq_true rfl) (fun x hx => ?_)
  show En x jvBW 0 0 0 [(0, .ref a0), (1, .int (oI p1))] [] (cm w) _
  unfold f_X11_sings
  refine E_aload_n (pc := 0) hx 0 dX11_sings_0 rfl rfl ?_
  refine I_iconst (pc := 1) hx 1 dX11_sings_1 ?_
  refine I_put (pc := 2) hx 11 11 rfl .int tyX11 fc9 tyX11_ok h0 rfl ⟨rfl, rfl, rfl, rfl, pfd_I⟩ rfl rfl g1343 dX11_sings_2 (fun w1 => ?_)
  refine E_iload_n (pc := 5) hx 1 dX11_sings_5 rfl rfl ?_
  refine I_bipush (pc := 6) hx 10 dX11_sings_6 rfl ?_
  refine E_gd (fun hr2 => ?_)
  refine I_idiv (pc := 8) hx dX11_sings_8 ⟨hr2, (by decide), (by decide)⟩ ?_
  refine I_ltv (fun v2_3 => ?_)
  refine E_istore_n (pc := 9) hx dX11_sings_9 rfl (Nat.le_of_ble_eq_true rfl) rfl ?_
  refine En.sub [1, 2, 0] rfl ?_
  exact l_X11_sings_b10 F a0 h0 p1 hx F v2_3 w1
