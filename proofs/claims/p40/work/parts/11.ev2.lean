set_option maxHeartbeats 4000000 in
set_option maxRecDepth 100000 in
theorem ev_X2_numberOfAll (F : Nat) (a0 : Nat) (h0 : shK a0 = 10 + 2) (p1 : Int) (w : aI) : Ev yX2_numberOfAll cX2_numberOfAll 2 (some .int) 3 0 (jvI w) [.ref a0, .int (oI p1)] (cm w) (f_X2_numberOfAll F a0 p1 w) := by
  refine Ev.of (own := RX2) (by decide +kernel) rfl (Nat.le_of_ble_eq_true rfl) (fun x hx => ?_)
  show En x (jvI w) 0 0 0 [(0, .ref a0), (1, .int (oI p1))] [] (cm w) _
  unfold f_X2_numberOfAll
  refine E_iload_n (pc := 0) hx 1 dX2_numberOfAll_0 rfl rfl ?_
  refine E_gd (fun hr1 => ?_)
  refine E_case (fun hc2 => ?_) (fun hc2 => ?_)
  · refine E_tIn (pc := 1) hx 68 dX2_numberOfAll_1 (by rw [oI_toInt hr1]; omega) (by rw [oI_toInt hr1]; omega) (by rw [hc2]; rfl) rfl ?_
    refine E_aload_n (pc := 68) hx 0 dX2_numberOfAll_68 rfl rfl ?_
    refine I_getI (pc := 69) hx 1 1 rfl fc2 h0 (hx.ci h0 (Nat.le_of_ble_eq_true rfl)) rfl ⟨rfl, rfl, rfl⟩ g124 dX2_numberOfAll_69 ?_
    exact E_iret (pc := 72) hx dX2_numberOfAll_72 rfl rfl (Nat.le_of_ble_eq_true rfl)
  refine E_case (fun hc3 => ?_) (fun hc3 => ?_)
  · refine E_tIn (pc := 1) hx 73 dX2_numberOfAll_1 (by rw [oI_toInt hr1]; omega) (by rw [oI_toInt hr1]; omega) (by rw [hc3]; rfl) rfl ?_
    refine E_aload_n (pc := 73) hx 0 dX2_numberOfAll_73 rfl rfl ?_
    refine I_getI (pc := 74) hx 2 2 rfl fc2 h0 (hx.ci h0 (Nat.le_of_ble_eq_true rfl)) rfl ⟨rfl, rfl, rfl⟩ g130 dX2_numberOfAll_74 ?_
    exact E_iret (pc := 77) hx dX2_numberOfAll_77 rfl rfl (Nat.le_of_ble_eq_true rfl)
  refine E_case (fun hc4 => ?_) (fun hc4 => ?_)
  · refine E_tIn (pc := 1) hx 78 dX2_numberOfAll_1 (by rw [oI_toInt hr1]; omega) (by rw [oI_toInt hr1]; omega) (by rw [hc4]; rfl) rfl ?_
    refine E_aload_n (pc := 78) hx 0 dX2_numberOfAll_78 rfl rfl ?_
    refine I_getI (pc := 79) hx 3 3 rfl fc2 h0 (hx.ci h0 (Nat.le_of_ble_eq_true rfl)) rfl ⟨rfl, rfl, rfl⟩ g134 dX2_numberOfAll_79 ?_
    exact E_iret (pc := 82) hx dX2_numberOfAll_82 rfl rfl (Nat.le_of_ble_eq_true rfl)
  refine E_case (fun hc5 => ?_) (fun hc5 => ?_)
  · refine E_tIn (pc := 1) hx 83 dX2_numberOfAll_1 (by rw [oI_toInt hr1]; omega) (by rw [oI_toInt hr1]; omega) (by rw [hc5]; rfl) rfl ?_
    refine E_aload_n (pc := 83) hx 0 dX2_numberOfAll_83 rfl rfl ?_
    refine E_iload_n (pc := 84) hx 1 dX2_numberOfAll_84 rfl rfl ?_
    refine I_iconst (pc := 85) hx 3 dX2_numberOfAll_85 ?_
    refine I_isub (pc := 86) hx dX2_numberOfAll_86 ?_
    refine I_cVI  (pc := 87) hx [.int (oI (p1 - 3))] [] (ev_X2_tunesIn F a0 h0 (p1 - 3) w) vm_X2_tunesIn fc2 h0 (hx.ci h0 (Nat.le_of_ble_eq_true rfl)) g1016 dX2_numberOfAll_87 rfl rfl (Nat.le_of_ble_eq_true rfl) (Nat.le_of_ble_eq_true rfl) (Nat.le_of_ble_eq_true rfl) (fun r6 => ?_)
    exact E_iret (pc := 90) hx dX2_numberOfAll_90 rfl rfl (Nat.le_of_ble_eq_true rfl)
  refine E_case (fun hc7 => ?_) (fun hc7 => ?_)
  · refine E_tIn (pc := 1) hx 83 dX2_numberOfAll_1 (by rw [oI_toInt hr1]; omega) (by rw [oI_toInt hr1]; omega) (by rw [hc7]; rfl) rfl ?_
    refine E_aload_n (pc := 83) hx 0 dX2_numberOfAll_83 rfl rfl ?_
    refine E_iload_n (pc := 84) hx 1 dX2_numberOfAll_84 rfl rfl ?_
    refine I_iconst (pc := 85) hx 3 dX2_numberOfAll_85 ?_
    refine I_isub (pc := 86) hx dX2_numberOfAll_86 ?_
    refine I_cVI  (pc := 87) hx [.int (oI (p1 - 3))] [] (ev_X2_tunesIn F a0 h0 (p1 - 3) w) vm_X2_tunesIn fc2 h0 (hx.ci h0 (Nat.le_of_ble_eq_true rfl)) g1016 dX2_numberOfAll_87 rfl rfl (Nat.le_of_ble_eq_true rfl) (Nat.le_of_ble_eq_true rfl) (Nat.le_of_ble_eq_true rfl) (fun r8 => ?_)
    exact E_iret (pc := 90) hx dX2_numberOfAll_90 rfl rfl (Nat.le_of_ble_eq_true rfl)
  refine E_case (fun hc9 => ?_) (fun hc9 => ?_)
  · refine E_tIn (pc := 1) hx 83 dX2_numberOfAll_1 (by rw [oI_toInt hr1]; omega) (by rw [oI_toInt hr1]; omega) (by rw [hc9]; rfl) rfl ?_
    refine E_aload_n (pc := 83) hx 0 dX2_numberOfAll_83 rfl rfl ?_
    refine E_iload_n (pc := 84) hx 1 dX2_numberOfAll_84 rfl rfl ?_
    refine I_iconst (pc := 85) hx 3 dX2_numberOfAll_85 ?_
    refine I_isub (pc := 86) hx dX2_numberOfAll_86 ?_
    refine I_cVI  (pc := 87) hx [.int (oI (p1 - 3))] [] (ev_X2_tunesIn F a0 h0 (p1 - 3) w) vm_X2_tunesIn fc2 h0 (hx.ci h0 (Nat.le_of_ble_eq_true rfl)) g1016 dX2_numberOfAll_87 rfl rfl (Nat.le_of_ble_eq_true rfl) (Nat.le_of_ble_eq_true rfl) (Nat.le_of_ble_eq_true rfl) (fun r10 => ?_)
    exact E_iret (pc := 90) hx dX2_numberOfAll_90 rfl rfl (Nat.le_of_ble_eq_true rfl)
  refine E_case (fun hc11 => ?_) (fun hc11 => ?_)
  · refine E_tIn (pc := 1) hx 83 dX2_numberOfAll_1 (by rw [oI_toInt hr1]; omega) (by rw [oI_toInt hr1]; omega) (by rw [hc11]; rfl) rfl ?_
    refine E_aload_n (pc := 83) hx 0 dX2_numberOfAll_83 rfl rfl ?_
    refine E_iload_n (pc := 84) hx 1 dX2_numberOfAll_84 rfl rfl ?_
    refine I_iconst (pc := 85) hx 3 dX2_numberOfAll_85 ?_
    refine I_isub (pc := 86) hx dX2_numberOfAll_86 ?_
    refine I_cVI  (pc := 87) hx [.int (oI (p1 - 3))] [] (ev_X2_tunesIn F a0 h0 (p1 - 3) w) vm_X2_tunesIn fc2 h0 (hx.ci h0 (Nat.le_of_ble_eq_true rfl)) g1016 dX2_numberOfAll_87 rfl rfl (Nat.le_of_ble_eq_true rfl) (Nat.le_of_ble_eq_true rfl) (Nat.le_of_ble_eq_true rfl) (fun r12 => ?_)
    exact E_iret (pc := 90) hx dX2_numberOfAll_90 rfl rfl (Nat.le_of_ble_eq_true rfl)
  refine E_case (fun hc13 => ?_) (fun hc13 => ?_)
  · refine E_tIn (pc := 1) hx 91 dX2_numberOfAll_1 (by rw [oI_toInt hr1]; omega) (by rw [oI_toInt hr1]; omega) (by rw [hc13]; rfl) rfl ?_
    refine E_aload_n (pc := 91) hx 0 dX2_numberOfAll_91 rfl rfl ?_
    refine I_getI (pc := 92) hx 0 0 rfl fc2 h0 (hx.ci h0 (Nat.le_of_ble_eq_true rfl)) rfl ⟨rfl, rfl, rfl⟩ g122 dX2_numberOfAll_92 ?_
    exact E_iret (pc := 95) hx dX2_numberOfAll_95 rfl rfl (Nat.le_of_ble_eq_true rfl)
  refine E_case (fun hc14 => ?_) (fun hc14 => ?_)
  · refine E_tIn (pc := 1) hx 106 dX2_numberOfAll_1 (by rw [oI_toInt hr1]; omega) (by rw [oI_toInt hr1]; omega) (by rw [hc14]; rfl) rfl ?_
    refine E_aload_n (pc := 106) hx 0 dX2_numberOfAll_106 rfl rfl ?_
    refine E_iload_n (pc := 107) hx 1 dX2_numberOfAll_107 rfl rfl ?_
    refine I_cVI  (pc := 108) hx [.int (oI p1)] [] (ev_X2_setting F a0 h0 p1 w) vm_X2_setting fc2 h0 (hx.ci h0 (Nat.le_of_ble_eq_true rfl)) g1029 dX2_numberOfAll_108 rfl rfl (Nat.le_of_ble_eq_true rfl) (Nat.le_of_ble_eq_true rfl) (Nat.le_of_ble_eq_true rfl) (fun r15 => ?_)
    exact E_iret (pc := 111) hx dX2_numberOfAll_111 rfl rfl (Nat.le_of_ble_eq_true rfl)
  refine E_case (fun hc16 => ?_) (fun hc16 => ?_)
  · refine E_tIn (pc := 1) hx 106 dX2_numberOfAll_1 (by rw [oI_toInt hr1]; omega) (by rw [oI_toInt hr1]; omega) (by rw [hc16]; rfl) rfl ?_
    refine E_aload_n (pc := 106) hx 0 dX2_numberOfAll_106 rfl rfl ?_
    refine E_iload_n (pc := 107) hx 1 dX2_numberOfAll_107 rfl rfl ?_
    refine I_cVI  (pc := 108) hx [.int (oI p1)] [] (ev_X2_setting F a0 h0 p1 w) vm_X2_setting fc2 h0 (hx.ci h0 (Nat.le_of_ble_eq_true rfl)) g1029 dX2_numberOfAll_108 rfl rfl (Nat.le_of_ble_eq_true rfl) (Nat.le_of_ble_eq_true rfl) (Nat.le_of_ble_eq_true rfl) (fun r17 => ?_)
    exact E_iret (pc := 111) hx dX2_numberOfAll_111 rfl rfl (Nat.le_of_ble_eq_true rfl)
  refine E_case (fun hc18 => ?_) (fun hc18 => ?_)
  · refine E_tIn (pc := 1) hx 106 dX2_numberOfAll_1 (by rw [oI_toInt hr1]; omega) (by rw [oI_toInt hr1]; omega) (by rw [hc18]; rfl) rfl ?_
    refine E_aload_n (pc := 106) hx 0 dX2_numberOfAll_106 rfl rfl ?_
    refine E_iload_n (pc := 107) hx 1 dX2_numberOfAll_107 rfl rfl ?_
    refine I_cVI  (pc := 108) hx [.int (oI p1)] [] (ev_X2_setting F a0 h0 p1 w) vm_X2_setting fc2 h0 (hx.ci h0 (Nat.le_of_ble_eq_true rfl)) g1029 dX2_numberOfAll_108 rfl rfl (Nat.le_of_ble_eq_true rfl) (Nat.le_of_ble_eq_true rfl) (Nat.le_of_ble_eq_true rfl) (fun r19 => ?_)
    exact E_iret (pc := 111) hx dX2_numberOfAll_111 rfl rfl (Nat.le_of_ble_eq_true rfl)
  refine E_case (fun hc20 => ?_) (fun hc20 => ?_)
  · refine E_tIn (pc := 1) hx 96 dX2_numberOfAll_1 (by rw [oI_toInt hr1]; omega) (by rw [oI_toInt hr1]; omega) (by rw [hc20]; rfl) rfl ?_
    refine E_aload_n (pc := 96) hx 0 dX2_numberOfAll_96 rfl rfl ?_
    refine I_cVI  (pc := 97) hx [] [] (ev_X2_busyWhistlers F a0 h0 w) vm_X2_busyWhistlers fc2 h0 (hx.ci h0 (Nat.le_of_ble_eq_true rfl)) g1020 dX2_numberOfAll_97 rfl rfl (Nat.le_of_ble_eq_true rfl) (Nat.le_of_ble_eq_true rfl) (Nat.le_of_ble_eq_true rfl) (fun r21 => ?_)
    exact E_iret (pc := 100) hx dX2_numberOfAll_100 rfl rfl (Nat.le_of_ble_eq_true rfl)
  refine E_case (fun hc22 => ?_) (fun hc22 => ?_)
  · refine E_tIn (pc := 1) hx 101 dX2_numberOfAll_1 (by rw [oI_toInt hr1]; omega) (by rw [oI_toInt hr1]; omega) (by rw [hc22]; rfl) rfl ?_
    refine E_aload_n (pc := 101) hx 0 dX2_numberOfAll_101 rfl rfl ?_
    refine I_cVI  (pc := 102) hx [] [] (ev_X2_pursesTogether F a0 h0 w) vm_X2_pursesTogether fc2 h0 (hx.ci h0 (Nat.le_of_ble_eq_true rfl)) g1025 dX2_numberOfAll_102 rfl rfl (Nat.le_of_ble_eq_true rfl) (Nat.le_of_ble_eq_true rfl) (Nat.le_of_ble_eq_true rfl) (fun r23 => ?_)
    exact E_iret (pc := 105) hx dX2_numberOfAll_105 rfl rfl (Nat.le_of_ble_eq_true rfl)
  refine E_tOut (pc := 1) hx 106 dX2_numberOfAll_1 (swI_out hr1 (by omega)) rfl ?_
  refine E_aload_n (pc := 106) hx 0 dX2_numberOfAll_106 rfl rfl ?_
  refine E_iload_n (pc := 107) hx 1 dX2_numberOfAll_107 rfl rfl ?_
  refine I_cVI  (pc := 108) hx [.int (oI p1)] [] (ev_X2_setting F a0 h0 p1 w) vm_X2_setting fc2 h0 (hx.ci h0 (Nat.le_of_ble_eq_true rfl)) g1029 dX2_numberOfAll_108 rfl rfl (Nat.le_of_ble_eq_true rfl) (Nat.le_of_ble_eq_true rfl) (Nat.le_of_ble_eq_true rfl) (fun r24 => ?_)
  exact E_iret (pc := 111) hx dX2_numberOfAll_111 rfl rfl (Nat.le_of_ble_eq_true rfl)
set_option maxHeartbeats 4000000 in
set_option maxRecDepth 100000 in
theorem ev_X2_isWaitingAt (F : Nat) (a0 : Nat) (h0 : shK a0 = 10 + 2) (p1 : Int) (p2 : Int) (w : aI) : Ev yX2_isWaitingAt cX2_isWaitingAt 3 (some .boolean) 1 0 (jvB w) [.ref a0, .int (oI p1), .int (oI p2)] (cm w) (f_X2_isWaitingAt F a0 p1 p2 w) := by
  refine Ev.of (own := RX2) (by decide +kernel) rfl (Nat.le_of_ble_eq_true rfl) (fun x hx => ?_)
  show En x (jvB w) 0 0 0 [(0, .ref a0), (1, .int (oI p1)), (2, .int (oI p2))] [] (cm w) _
  unfold f_X2_isWaitingAt
  refine E_aload_n (pc := 0) hx 0 dX2_isWaitingAt_0 rfl rfl ?_
  refine E_getR (pc := 1) hx 6 fc2 h0 (hx.ci h0 (Nat.le_of_ble_eq_true rfl)) rfl ⟨rfl, rfl, rfl⟩ g144 dX2_isWaitingAt_1 ?_
  refine E_iload_n (pc := 4) hx 1 dX2_isWaitingAt_4 rfl rfl ?_
  refine I_iconst (pc := 5) hx 3 dX2_isWaitingAt_5 ?_
  refine I_cVI  (pc := 6) hx [.int (oI p1), .int (oI 3)] [] (ev_X7_get F (shR a0 6) (kt_2_6 h0) p1 3 w) vm_X7_get fc6 (kt_2_6 h0) (hx.ci (kt_2_6 h0) (Nat.le_of_ble_eq_true rfl)) g384 dX2_isWaitingAt_6 rfl rfl (Nat.le_of_ble_eq_true rfl) (Nat.le_of_ble_eq_true rfl) (Nat.le_of_ble_eq_true rfl) (fun r1 => ?_)
  refine E_gd (fun hr2 => ?_)
  refine I_if_ne (pc := 9) hx 29 dX2_isWaitingAt_9 rfl hr2 ?_ ?_
  · refine I_iconst (pc := 29) hx 0 dX2_isWaitingAt_29 ?_
    exact E_zret (pc := 30) hx dX2_isWaitingAt_30 rfl rfl rfl (Nat.le_of_ble_eq_true rfl)
  refine E_aload_n (pc := 12) hx 0 dX2_isWaitingAt_12 rfl rfl ?_
  refine E_getR (pc := 13) hx 6 fc2 h0 (hx.ci h0 (Nat.le_of_ble_eq_true rfl)) rfl ⟨rfl, rfl, rfl⟩ g144 dX2_isWaitingAt_13 ?_
  refine E_iload_n (pc := 16) hx 1 dX2_isWaitingAt_16 rfl rfl ?_
  refine I_iconst (pc := 17) hx 4 dX2_isWaitingAt_17 ?_
  refine I_cVI  (pc := 18) hx [.int (oI p1), .int (oI 4)] [] (ev_X7_get F (shR a0 6) (kt_2_6 h0) p1 4 w) vm_X7_get fc6 (kt_2_6 h0) (hx.ci (kt_2_6 h0) (Nat.le_of_ble_eq_true rfl)) g384 dX2_isWaitingAt_18 rfl rfl (Nat.le_of_ble_eq_true rfl) (Nat.le_of_ble_eq_true rfl) (Nat.le_of_ble_eq_true rfl) (fun r3 => ?_)
  refine E_iload_n (pc := 21) hx 2 dX2_isWaitingAt_21 rfl rfl ?_
  refine E_gd (fun hr4 => ?_)
  refine I_icmp_ne (pc := 22) hx 29 dX2_isWaitingAt_22 rfl ⟨hr4.1, hr4.2⟩ ?_ ?_
  · refine I_iconst (pc := 29) hx 0 dX2_isWaitingAt_29 ?_
    exact E_zret (pc := 30) hx dX2_isWaitingAt_30 rfl rfl rfl (Nat.le_of_ble_eq_true rfl)
  refine I_iconst (pc := 25) hx 1 dX2_isWaitingAt_25 ?_
  refine E_goto (pc := 26) hx 30 dX2_isWaitingAt_26 rfl ?_
  exact E_zret (pc := 30) hx dX2_isWaitingAt_30 rfl rfl rfl (Nat.le_of_ble_eq_true rfl)
set_option maxHeartbeats 4000000 in
set_option maxRecDepth 100000 in
theorem l_X2_tunesAt_b4_b {x : Cx} (F : Nat) (a0 : Nat) (h0 : shK a0 = 10 + 2) (p1 : Int) (w : aI) (hx : CxOK x RX2 cX2_tunesAt 4 2 0 (some .int))  (k4 : Int → Int → Option Int) (hk4 : ∀ (v2 : Int) (v3 : Int), En x (jvI w) 0 0 4 [(0, .ref a0), (1, .int (oI p1)), (2, .int (oI v2)), (3, .int (oI v3))] [] (cm w) (k4 v2 v3)) (v2 : Int) (v3 : Int)  : En x (jvI w) 0 0 4 [(0, .ref a0), (1, .int (oI p1)), (2, .int (oI v2)), (3, .int (oI v3))] [] (cm w) (f_X2_tunesAt_b4_b F a0 p1 w  k4 v2 v3) := by
  unfold f_X2_tunesAt_b4_b
  refine E_iload_n (pc := 4) hx 3 dX2_tunesAt_4 rfl rfl ?_
  refine E_aload_n (pc := 5) hx 0 dX2_tunesAt_5 rfl rfl ?_
  refine I_getI (pc := 6) hx 3 3 rfl fc2 h0 (hx.ci h0 (Nat.le_of_ble_eq_true rfl)) rfl ⟨rfl, rfl, rfl⟩ g134 dX2_tunesAt_6 ?_
  refine E_gd (fun hr1 => ?_)
  refine I_icmp_ge (pc := 9) hx 30 dX2_tunesAt_9 rfl ⟨hr1.1, hr1.2⟩ ?_ ?_
  · refine E_iload_n (pc := 30) hx 2 dX2_tunesAt_30 rfl rfl ?_
    exact E_iret (pc := 31) hx dX2_tunesAt_31 rfl rfl (Nat.le_of_ble_eq_true rfl)
  refine E_aload_n (pc := 12) hx 0 dX2_tunesAt_12 rfl rfl ?_
  refine E_iload_n (pc := 13) hx 3 dX2_tunesAt_13 rfl rfl ?_
  refine E_iload_n (pc := 14) hx 1 dX2_tunesAt_14 rfl rfl ?_
  refine I_cVB  (pc := 15) hx [.int (oI v3), .int (oI p1)] [] (ev_X2_isWaitingAt F a0 h0 v3 p1 w) vm_X2_isWaitingAt fc2 h0 (hx.ci h0 (Nat.le_of_ble_eq_true rfl)) g969 dX2_tunesAt_15 rfl rfl (Nat.le_of_ble_eq_true rfl) (Nat.le_of_ble_eq_true rfl) (Nat.le_of_ble_eq_true rfl) (fun r2 => ?_)
  refine I_ifB_eq (pc := 18) hx 24 dX2_tunesAt_18 rfl ?_ ?_
  · refine I_iinc (pc := 24) hx 1 3 dX2_tunesAt_24 rfl (Nat.le_of_ble_eq_true rfl) rfl ?_
    refine E_goto (pc := 27) hx 4 dX2_tunesAt_27 rfl ?_
    refine En.sub [1, 2, 3, 0] rfl ?_
    exact hk4 v2 (v3 + 1)
  refine I_iinc (pc := 21) hx 1 2 dX2_tunesAt_21 rfl (Nat.le_of_ble_eq_true rfl) rfl ?_
  refine I_iinc (pc := 24) hx 1 3 dX2_tunesAt_24 rfl (Nat.le_of_ble_eq_true rfl) rfl ?_
  refine E_goto (pc := 27) hx 4 dX2_tunesAt_27 rfl ?_
  refine En.sub [2, 3, 1, 0] rfl ?_
  exact hk4 (v2 + 1) (v3 + 1)
theorem l_X2_tunesAt_b4 {x : Cx} (F : Nat) (a0 : Nat) (h0 : shK a0 = 10 + 2) (p1 : Int) (w : aI) (hx : CxOK x RX2 cX2_tunesAt 4 2 0 (some .int))  : ∀ (n : Nat) (v2 : Int) (v3 : Int), En x (jvI w) 0 0 4 [(0, .ref a0), (1, .int (oI p1)), (2, .int (oI v2)), (3, .int (oI v3))] [] (cm w) (f_X2_tunesAt_b4 F a0 p1 w  n v2 v3) := by
  intro n
  induction n with
  | zero => intro v2 v3; exact E_none
  | succ n ih => intro v2 v3; exact l_X2_tunesAt_b4_b F a0 h0 p1 w hx  _ ih v2 v3
set_option maxHeartbeats 4000000 in
set_option maxRecDepth 100000 in
theorem ev_X2_tunesAt (F : Nat) (a0 : Nat) (h0 : shK a0 = 10 + 2) (p1 : Int) (w : aI) : Ev yX2_tunesAt cX2_tunesAt 4 (some .int) 2 0 (jvI w) [.ref a0, .int (oI p1)] (cm w) (f_X2_tunesAt F a0 p1 w) := by
  refine Ev.of (own := RX2) (by decide +kernel) rfl (Nat.le_of_ble_eq_true rfl) (fun x hx => ?_)
  show En x (jvI w) 0 0 0 [(0, .ref a0), (1, .int (oI p1))] [] (cm w) _
  unfold f_X2_tunesAt
  refine I_iconst (pc := 0) hx 0 dX2_tunesAt_0 ?_
  refine E_istore_n (pc := 1) hx dX2_tunesAt_1 rfl (Nat.le_of_ble_eq_true rfl) rfl ?_
  refine I_iconst (pc := 2) hx 0 dX2_tunesAt_2 ?_
  refine E_istore_n (pc := 3) hx dX2_tunesAt_3 rfl (Nat.le_of_ble_eq_true rfl) rfl ?_
  refine En.sub [2, 3, 1, 0] rfl ?_
  exact l_X2_tunesAt_b4 F a0 h0 p1 w hx F 0 0
set_option maxHeartbeats 4000000 in
set_option maxRecDepth 100000 in
theorem l_X2_waysAt_b4_b {x : Cx} (F : Nat) (a0 : Nat) (h0 : shK a0 = 10 + 2) (p1 : Int) (w : aI) (hx : CxOK x RX2 cX2_waysAt 4 2 0 (some .int))  (k4 : Int → Int → Option Int) (hk4 : ∀ (v2 : Int) (v3 : Int), En x (jvI w) 0 0 4 [(0, .ref a0), (1, .int (oI p1)), (2, .int (oI v2)), (3, .int (oI v3))] [] (cm w) (k4 v2 v3)) (v2 : Int) (v3 : Int)  : En x (jvI w) 0 0 4 [(0, .ref a0), (1, .int (oI p1)), (2, .int (oI v2)), (3, .int (oI v3))] [] (cm w) (f_X2_waysAt_b4_b F a0 p1 w  k4 v2 v3) := by
  unfold f_X2_waysAt_b4_b
  refine E_iload_n (pc := 4) hx 3 dX2_waysAt_4 rfl rfl ?_
  refine E_aload_n (pc := 5) hx 0 dX2_waysAt_5 rfl rfl ?_
  refine I_getI (pc := 6) hx 2 2 rfl fc2 h0 (hx.ci h0 (Nat.le_of_ble_eq_true rfl)) rfl ⟨rfl, rfl, rfl⟩ g130 dX2_waysAt_6 ?_
  refine E_gd (fun hr1 => ?_)
  refine I_icmp_ge (pc := 9) hx 31 dX2_waysAt_9 rfl ⟨hr1.1, hr1.2⟩ ?_ ?_
  · refine E_iload_n (pc := 31) hx 2 dX2_waysAt_31 rfl rfl ?_
    exact E_iret (pc := 32) hx dX2_waysAt_32 rfl rfl (Nat.le_of_ble_eq_true rfl)
  refine E_aload_n (pc := 12) hx 0 dX2_waysAt_12 rfl rfl ?_
  refine E_iload_n (pc := 13) hx 1 dX2_waysAt_13 rfl rfl ?_
  refine E_iload_n (pc := 14) hx 3 dX2_waysAt_14 rfl rfl ?_
  refine I_cVI  (pc := 15) hx [.int (oI p1), .int (oI v3)] [] (ev_X2_acrossFrom F a0 h0 p1 v3 w) vm_X2_acrossFrom fc2 h0 (hx.ci h0 (Nat.le_of_ble_eq_true rfl)) g419 dX2_waysAt_15 rfl rfl (Nat.le_of_ble_eq_true rfl) (Nat.le_of_ble_eq_true rfl) (Nat.le_of_ble_eq_true rfl) (fun r2 => ?_)
  refine I_iconst (pc := 18) hx (-1) dX2_waysAt_18 ?_
  refine E_gd (fun hr3 => ?_)
  refine I_icmp_eq (pc := 19) hx 25 dX2_waysAt_19 rfl ⟨hr3, (by decide)⟩ ?_ ?_
  · refine I_iinc (pc := 25) hx 1 3 dX2_waysAt_25 rfl (Nat.le_of_ble_eq_true rfl) rfl ?_
    refine E_goto (pc := 28) hx 4 dX2_waysAt_28 rfl ?_
    refine En.sub [1, 2, 3, 0] rfl ?_
    exact hk4 v2 (v3 + 1)
  refine I_iinc (pc := 22) hx 1 2 dX2_waysAt_22 rfl (Nat.le_of_ble_eq_true rfl) rfl ?_
  refine I_iinc (pc := 25) hx 1 3 dX2_waysAt_25 rfl (Nat.le_of_ble_eq_true rfl) rfl ?_
  refine E_goto (pc := 28) hx 4 dX2_waysAt_28 rfl ?_
  refine En.sub [2, 3, 1, 0] rfl ?_
  exact hk4 (v2 + 1) (v3 + 1)
theorem l_X2_waysAt_b4 {x : Cx} (F : Nat) (a0 : Nat) (h0 : shK a0 = 10 + 2) (p1 : Int) (w : aI) (hx : CxOK x RX2 cX2_waysAt 4 2 0 (some .int))  : ∀ (n : Nat) (v2 : Int) (v3 : Int), En x (jvI w) 0 0 4 [(0, .ref a0), (1, .int (oI p1)), (2, .int (oI v2)), (3, .int (oI v3))] [] (cm w) (f_X2_waysAt_b4 F a0 p1 w  n v2 v3) := by
  intro n
  induction n with
  | zero => intro v2 v3; exact E_none
  | succ n ih => intro v2 v3; exact l_X2_waysAt_b4_b F a0 h0 p1 w hx  _ ih v2 v3
set_option maxHeartbeats 4000000 in
set_option maxRecDepth 100000 in
theorem ev_X2_waysAt (F : Nat) (a0 : Nat) (h0 : shK a0 = 10 + 2) (p1 : Int) (w : aI) : Ev yX2_waysAt cX2_waysAt 4 (some .int) 2 0 (jvI w) [.ref a0, .int (oI p1)] (cm w) (f_X2_waysAt F a0 p1 w) := by
  refine Ev.of (own := RX2) (by decide +kernel) rfl (Nat.le_of_ble_eq_true rfl) (fun x hx => ?_)
  show En x (jvI w) 0 0 0 [(0, .ref a0), (1, .int (oI p1))] [] (cm w) _
  unfold f_X2_waysAt
  refine I_iconst (pc := 0) hx 0 dX2_waysAt_0 ?_
  refine E_istore_n (pc := 1) hx dX2_waysAt_1 rfl (Nat.le_of_ble_eq_true rfl) rfl ?_
  refine I_iconst (pc := 2) hx 0 dX2_waysAt_2 ?_
  refine E_istore_n (pc := 3) hx dX2_waysAt_3 rfl (Nat.le_of_ble_eq_true rfl) rfl ?_
  refine En.sub [2, 3, 1, 0] rfl ?_
  exact l_X2_waysAt_b4 F a0 h0 p1 w hx F 0 0
set_option maxHeartbeats 4000000 in
set_option maxRecDepth 100000 in
theorem ev_X2_numberOfRoof (F : Nat) (a0 : Nat) (h0 : shK a0 = 10 + 2) (p1 : Int) (p2 : Int) (w : aI) : Ev yX2_numberOfRoof cX2_numberOfRoof 3 (some .int) 3 0 (jvI w) [.ref a0, .int (oI p1), .int (oI p2)] (cm w) (f_X2_numberOfRoof F a0 p1 p2 w) := by
  refine Ev.of (own := RX2) (by decide +kernel) rfl (Nat.le_of_ble_eq_true rfl) (fun x hx => ?_)
  show En x (jvI w) 0 0 0 [(0, .ref a0), (1, .int (oI p1)), (2, .int (oI p2))] [] (cm w) _
  unfold f_X2_numberOfRoof
  refine E_iload_n (pc := 0) hx 2 dX2_numberOfRoof_0 rfl rfl ?_
  refine E_gd (fun hr1 => ?_)
  refine E_case (fun hc2 => ?_) (fun hc2 => ?_)
  · refine E_tIn (pc := 1) hx 28 dX2_numberOfRoof_1 (by rw [oI_toInt hr1]; omega) (by rw [oI_toInt hr1]; omega) (by rw [hc2]; rfl) rfl ?_
    refine I_iconst (pc := 28) hx 0 dX2_numberOfRoof_28 ?_
    refine E_aload_n (pc := 29) hx 0 dX2_numberOfRoof_29 rfl rfl ?_
    refine E_getR (pc := 30) hx 4 fc2 h0 (hx.ci h0 (Nat.le_of_ble_eq_true rfl)) rfl ⟨rfl, rfl, rfl⟩ g138 dX2_numberOfRoof_30 ?_
    refine E_iload_n (pc := 33) hx 1 dX2_numberOfRoof_33 rfl rfl ?_
    refine I_iconst (pc := 34) hx 4 dX2_numberOfRoof_34 ?_
    refine I_cVI  (pc := 35) hx [.int (oI p1), .int (oI 4)] [.int (oI 0)] (ev_X7_get F (shR a0 4) (kt_2_4 h0) p1 4 w) vm_X7_get fc6 (kt_2_4 h0) (hx.ci (kt_2_4 h0) (Nat.le_of_ble_eq_true rfl)) g384 dX2_numberOfRoof_35 rfl rfl (Nat.le_of_ble_eq_true rfl) (Nat.le_of_ble_eq_true rfl) (Nat.le_of_ble_eq_true rfl) (fun r3 => ?_)
    refine E_aload_n (pc := 38) hx 0 dX2_numberOfRoof_38 rfl rfl ?_
    refine I_getI (pc := 39) hx 0 0 rfl fc2 h0 (hx.ci h0 (Nat.le_of_ble_eq_true rfl)) rfl ⟨rfl, rfl, rfl⟩ g122 dX2_numberOfRoof_39 ?_
    refine I_isub (pc := 42) hx dX2_numberOfRoof_42 ?_
    refine E_gd (fun hr4 => ?_)
    refine I_mmax (pc := 43) hx ⟨(by decide), hr4⟩ g938 g895 g40 g896 (Nat.le_of_ble_eq_true rfl) (Nat.le_of_ble_eq_true rfl) (Nat.le_of_ble_eq_true rfl) dX2_numberOfRoof_43 ?_
    exact E_iret (pc := 46) hx dX2_numberOfRoof_46 rfl rfl (Nat.le_of_ble_eq_true rfl)
  refine E_case (fun hc5 => ?_) (fun hc5 => ?_)
  · refine E_tIn (pc := 1) hx 47 dX2_numberOfRoof_1 (by rw [oI_toInt hr1]; omega) (by rw [oI_toInt hr1]; omega) (by rw [hc5]; rfl) rfl ?_
    refine E_aload_n (pc := 47) hx 0 dX2_numberOfRoof_47 rfl rfl ?_
    refine E_iload_n (pc := 48) hx 1 dX2_numberOfRoof_48 rfl rfl ?_
    refine I_cVI  (pc := 49) hx [.int (oI p1)] [] (ev_X2_tunesAt F a0 h0 p1 w) vm_X2_tunesAt fc2 h0 (hx.ci h0 (Nat.le_of_ble_eq_true rfl)) g1042 dX2_numberOfRoof_49 rfl rfl (Nat.le_of_ble_eq_true rfl) (Nat.le_of_ble_eq_true rfl) (Nat.le_of_ble_eq_true rfl) (fun r6 => ?_)
    exact E_iret (pc := 52) hx dX2_numberOfRoof_52 rfl rfl (Nat.le_of_ble_eq_true rfl)
  refine E_case (fun hc7 => ?_) (fun hc7 => ?_)
  · refine E_tIn (pc := 1) hx 53 dX2_numberOfRoof_1 (by rw [oI_toInt hr1]; omega) (by rw [oI_toInt hr1]; omega) (by rw [hc7]; rfl) rfl ?_
    refine E_aload_n (pc := 53) hx 0 dX2_numberOfRoof_53 rfl rfl ?_
    refine E_iload_n (pc := 54) hx 1 dX2_numberOfRoof_54 rfl rfl ?_
    refine I_cVI  (pc := 55) hx [.int (oI p1)] [] (ev_X2_waysAt F a0 h0 p1 w) vm_X2_waysAt fc2 h0 (hx.ci h0 (Nat.le_of_ble_eq_true rfl)) g1046 dX2_numberOfRoof_55 rfl rfl (Nat.le_of_ble_eq_true rfl) (Nat.le_of_ble_eq_true rfl) (Nat.le_of_ble_eq_true rfl) (fun r8 => ?_)
    exact E_iret (pc := 58) hx dX2_numberOfRoof_58 rfl rfl (Nat.le_of_ble_eq_true rfl)
  refine E_tOut (pc := 1) hx 59 dX2_numberOfRoof_1 (swI_out hr1 (by omega)) rfl ?_
  refine E_aload_n (pc := 59) hx 0 dX2_numberOfRoof_59 rfl rfl ?_
  refine E_getR (pc := 60) hx 4 fc2 h0 (hx.ci h0 (Nat.le_of_ble_eq_true rfl)) rfl ⟨rfl, rfl, rfl⟩ g138 dX2_numberOfRoof_60 ?_
  refine E_iload_n (pc := 63) hx 1 dX2_numberOfRoof_63 rfl rfl ?_
  refine E_iload_n (pc := 64) hx 2 dX2_numberOfRoof_64 rfl rfl ?_
  refine I_cVI  (pc := 65) hx [.int (oI p1), .int (oI p2)] [] (ev_X7_get F (shR a0 4) (kt_2_4 h0) p1 p2 w) vm_X7_get fc6 (kt_2_4 h0) (hx.ci (kt_2_4 h0) (Nat.le_of_ble_eq_true rfl)) g384 dX2_numberOfRoof_65 rfl rfl (Nat.le_of_ble_eq_true rfl) (Nat.le_of_ble_eq_true rfl) (Nat.le_of_ble_eq_true rfl) (fun r9 => ?_)
  exact E_iret (pc := 68) hx dX2_numberOfRoof_68 rfl rfl (Nat.le_of_ble_eq_true rfl)
set_option maxHeartbeats 4000000 in
set_option maxRecDepth 100000 in
theorem ev_X2_barsOf (F : Nat) (p0 : Int) (w : aI) : Ev yX2_barsOf cX2_barsOf 1 (some .int) 0 0 (jvI w) [.int (oI p0)] (cm w) (f_X2_barsOf F p0 w) := by
  refine Ev.of (own := RX2) (by decide +kernel) rfl (Nat.le_of_ble_eq_true rfl) (fun x hx => ?_)
  show En x (jvI w) 0 0 0 [(0, .int (oI p0))] [] (cm w) _
  unfold f_X2_barsOf
  refine E_iload_n (pc := 0) hx 0 dX2_barsOf_0 rfl rfl ?_
  refine I_iconst (pc := 1) hx 3 dX2_barsOf_1 ?_
  refine I_iadd (pc := 2) hx dX2_barsOf_2 ?_
  refine I_iconst (pc := 3) hx 4 dX2_barsOf_3 ?_
  refine E_gd (fun hr1 => ?_)
  refine I_idiv (pc := 4) hx dX2_barsOf_4 ⟨hr1, (by decide), (by decide)⟩ ?_
  exact E_iret (pc := 5) hx dX2_barsOf_5 rfl rfl (Nat.le_of_ble_eq_true rfl)
set_option maxHeartbeats 4000000 in
set_option maxRecDepth 100000 in
theorem ev_X2_barsOfTune (F : Nat) (a0 : Nat) (h0 : shK a0 = 10 + 2) (p1 : Int) (w : aI) : Ev yX2_barsOfTune cX2_barsOfTune 2 (some .int) 1 0 (jvI w) [.ref a0, .int (oI p1)] (cm w) (f_X2_barsOfTune F a0 p1 w) := by
  refine Ev.of (own := RX2) (by decide +kernel) rfl (Nat.le_of_ble_eq_true rfl) (fun x hx => ?_)
  show En x (jvI w) 0 0 0 [(0, .ref a0), (1, .int (oI p1))] [] (cm w) _
  unfold f_X2_barsOfTune
  refine E_aload_n (pc := 0) hx 0 dX2_barsOfTune_0 rfl rfl ?_
  refine E_getR (pc := 1) hx 6 fc2 h0 (hx.ci h0 (Nat.le_of_ble_eq_true rfl)) rfl ⟨rfl, rfl, rfl⟩ g144 dX2_barsOfTune_1 ?_
  refine E_iload_n (pc := 4) hx 1 dX2_barsOfTune_4 rfl rfl ?_
  refine I_iconst (pc := 5) hx 2 dX2_barsOfTune_5 ?_
  refine I_cVI  (pc := 6) hx [.int (oI p1), .int (oI 2)] [] (ev_X7_get F (shR a0 6) (kt_2_6 h0) p1 2 w) vm_X7_get fc6 (kt_2_6 h0) (hx.ci (kt_2_6 h0) (Nat.le_of_ble_eq_true rfl)) g384 dX2_barsOfTune_6 rfl rfl (Nat.le_of_ble_eq_true rfl) (Nat.le_of_ble_eq_true rfl) (Nat.le_of_ble_eq_true rfl) (fun r1 => ?_)
  refine I_cSI  (pc := 9) hx [.int (oI r1)] [] (ev_X2_barsOf F r1 w) sm_X2_barsOf g981 dX2_barsOfTune_9 rfl rfl (Nat.le_of_ble_eq_true rfl) (Nat.le_of_ble_eq_true rfl) (Nat.le_of_ble_eq_true rfl) (fun r2 => ?_)
  exact E_iret (pc := 12) hx dX2_barsOfTune_12 rfl rfl (Nat.le_of_ble_eq_true rfl)
set_option maxHeartbeats 4000000 in
set_option maxRecDepth 100000 in
theorem ev_X10_noteOf (F : Nat) (p0 : Int) (p1 : Int) (w : aI) : Ev yX10_noteOf cX10_noteOf 2 (some .int) 0 0 (jvI w) [.int (oI p0), .int (oI p1)] (cm w) (f_X10_noteOf F p0 p1 w) := by
  refine Ev.of (own := RX10) (by decide +kernel) rfl (Nat.le_of_ble_eq_true rfl) (fun x hx => ?_)
  show En x (jvI w) 0 0 0 [(0, .int (oI p0)), (1, .int (oI p1))] [] (cm w) _
  unfold f_X10_noteOf
  refine E_iload_n (pc := 0) hx 0 dX10_noteOf_0 rfl rfl ?_
  refine I_iconst (pc := 1) hx 3 dX10_noteOf_1 ?_
  refine E_iload_n (pc := 2) hx 1 dX10_noteOf_2 rfl rfl ?_
  refine I_imul (pc := 3) hx dX10_noteOf_3 ?_
  refine E_gd (fun hr1 => ?_)
  refine E_gd (fun hs2 => ?_)
  refine I_ishr (pc := 4) hx dX10_noteOf_4 ⟨hr1, hs2⟩ ?_
  refine I_bipush (pc := 5) hx 7 dX10_noteOf_5 rfl ?_
  refine I_iand (pc := 7) hx dX10_noteOf_7 ?_
  exact E_iret (pc := 8) hx dX10_noteOf_8 rfl rfl (Nat.le_of_ble_eq_true rfl)
set_option maxHeartbeats 4000000 in
set_option maxRecDepth 100000 in
theorem l_X2_notesUnlikeSent_b28_b {x : Cx} (F : Nat) (a0 : Nat) (h0 : shK a0 = 10 + 2) (p1 : Int) (w : aI) (hx : CxOK x RX2 cX2_notesUnlikeSent 6 1 0 (some .int))  (k28 : Int → Int → Int → Int → Option Int) (hk28 : ∀ (v2 : Int) (v3 : Int) (v4 : Int) (v5 : Int), En x (jvI w) 0 0 28 [(2, .int (oI v2)), (3, .int (oI v3)), (4, .int (oI v4)), (5, .int (oI v5))] [] (cm w) (k28 v2 v3 v4 v5)) (v2 : Int) (v3 : Int) (v4 : Int) (v5 : Int)  : En x (jvI w) 0 0 28 [(2, .int (oI v2)), (3, .int (oI v3)), (4, .int (oI v4)), (5, .int (oI v5))] [] (cm w) (f_X2_notesUnlikeSent_b28_b F a0 p1 w  k28 v2 v3 v4 v5) := by
  unfold f_X2_notesUnlikeSent_b28_b
  refine E_iload (pc := 28) hx 3 dX2_notesUnlikeSent_28 rfl ?_
  refine I_bipush (pc := 30) hx 8 dX2_notesUnlikeSent_30 rfl ?_
  refine E_gd (fun hr3 => ?_)
  refine I_icmp_ge (pc := 32) hx 60 dX2_notesUnlikeSent_32 rfl ⟨hr3, (by decide)⟩ ?_ ?_
  · refine E_iload_n (pc := 60) hx 0 dX2_notesUnlikeSent_60 rfl rfl ?_
    exact E_iret (pc := 61) hx dX2_notesUnlikeSent_61 rfl rfl (Nat.le_of_ble_eq_true rfl)
  refine E_iload_n (pc := 35) hx 1 dX2_notesUnlikeSent_35 rfl rfl ?_
  refine E_iload (pc := 36) hx 3 dX2_notesUnlikeSent_36 rfl ?_
  refine I_cNI  (pc := 38) hx [.int (oI v3), .int (oI v5)] [] (ev_X10_noteOf F v3 v5 w) sm_X10_noteOf hx.xe.2.2.1.2.1 dX2_notesUnlikeSent_38 rfl rfl (Nat.le_of_ble_eq_true rfl) (Nat.le_of_ble_eq_true rfl) (Nat.le_of_ble_eq_true rfl) (fun r4 => ?_)
  refine E_iload (pc := 41) hx 2 dX2_notesUnlikeSent_41 rfl ?_
  refine E_iload (pc := 43) hx 3 dX2_notesUnlikeSent_43 rfl ?_
  refine I_cNI  (pc := 45) hx [.int (oI v4), .int (oI v5)] [.int (oI r4)] (ev_X10_noteOf F v4 v5 w) sm_X10_noteOf hx.xe.2.2.1.2.1 dX2_notesUnlikeSent_45 rfl rfl (Nat.le_of_ble_eq_true rfl) (Nat.le_of_ble_eq_true rfl) (Nat.le_of_ble_eq_true rfl) (fun r5 => ?_)
  refine E_gd (fun hr6 => ?_)
  refine I_icmp_eq (pc := 48) hx 54 dX2_notesUnlikeSent_48 rfl ⟨hr6.1, hr6.2⟩ ?_ ?_
  · refine I_iinc (pc := 54) hx 1 3 dX2_notesUnlikeSent_54 rfl (Nat.le_of_ble_eq_true rfl) rfl ?_
    refine E_goto (pc := 57) hx 28 dX2_notesUnlikeSent_57 rfl ?_
    refine En.sub [1, 2, 3, 0] rfl ?_
    exact hk28 v2 v3 v4 (v5 + 1)
  refine I_iinc (pc := 51) hx 1 0 dX2_notesUnlikeSent_51 rfl (Nat.le_of_ble_eq_true rfl) rfl ?_
  refine I_iinc (pc := 54) hx 1 3 dX2_notesUnlikeSent_54 rfl (Nat.le_of_ble_eq_true rfl) rfl ?_
  refine E_goto (pc := 57) hx 28 dX2_notesUnlikeSent_57 rfl ?_
  refine En.sub [1, 2, 3, 0] rfl ?_
  exact hk28 (v2 + 1) v3 v4 (v5 + 1)
theorem l_X2_notesUnlikeSent_b28 {x : Cx} (F : Nat) (a0 : Nat) (h0 : shK a0 = 10 + 2) (p1 : Int) (w : aI) (hx : CxOK x RX2 cX2_notesUnlikeSent 6 1 0 (some .int))  : ∀ (n : Nat) (v2 : Int) (v3 : Int) (v4 : Int) (v5 : Int), En x (jvI w) 0 0 28 [(2, .int (oI v2)), (3, .int (oI v3)), (4, .int (oI v4)), (5, .int (oI v5))] [] (cm w) (f_X2_notesUnlikeSent_b28 F a0 p1 w  n v2 v3 v4 v5) := by
  intro n
  induction n with
  | zero => intro v2 v3 v4 v5; exact E_none
  | succ n ih => intro v2 v3 v4 v5; exact l_X2_notesUnlikeSent_b28_b F a0 h0 p1 w hx  _ ih v2 v3 v4 v5
set_option maxHeartbeats 4000000 in
set_option maxRecDepth 100000 in
theorem ev_X2_notesUnlikeSent (F : Nat) (a0 : Nat) (h0 : shK a0 = 10 + 2) (p1 : Int) (w : aI) : Ev yX2_notesUnlikeSent cX2_notesUnlikeSent 6 (some .int) 1 0 (jvI w) [.ref a0, .int (oI p1)] (cm w) (f_X2_notesUnlikeSent F a0 p1 w) := by
  refine Ev.of (own := RX2) (by decide +kernel) rfl (Nat.le_of_ble_eq_true rfl) (fun x hx => ?_)
  show En x (jvI w) 0 0 0 [(0, .ref a0), (1, .int (oI p1))] [] (cm w) _
  unfold f_X2_notesUnlikeSent
  refine I_iconst (pc := 0) hx 0 dX2_notesUnlikeSent_0 ?_
  refine E_istore_n (pc := 1) hx dX2_notesUnlikeSent_1 rfl (Nat.le_of_ble_eq_true rfl) rfl ?_
  refine E_aload_n (pc := 2) hx 1 dX2_notesUnlikeSent_2 rfl rfl ?_
  refine E_getR (pc := 3) hx 6 fc2 h0 (hx.ci h0 (Nat.le_of_ble_eq_true rfl)) rfl ⟨rfl, rfl, rfl⟩ g144 dX2_notesUnlikeSent_3 ?_
  refine E_iload_n (pc := 6) hx 2 dX2_notesUnlikeSent_6 rfl rfl ?_
  refine I_bipush (pc := 7) hx 9 dX2_notesUnlikeSent_7 rfl ?_
  refine I_cVI  (pc := 9) hx [.int (oI p1), .int (oI 9)] [] (ev_X7_get F (shR a0 6) (kt_2_6 h0) p1 9 w) vm_X7_get fc6 (kt_2_6 h0) (hx.ci (kt_2_6 h0) (Nat.le_of_ble_eq_true rfl)) g384 dX2_notesUnlikeSent_9 rfl rfl (Nat.le_of_ble_eq_true rfl) (Nat.le_of_ble_eq_true rfl) (Nat.le_of_ble_eq_true rfl) (fun r1 => ?_)
  refine E_istore_n (pc := 12) hx dX2_notesUnlikeSent_12 rfl (Nat.le_of_ble_eq_true rfl) rfl ?_
  refine E_aload_n (pc := 13) hx 2 dX2_notesUnlikeSent_13 rfl rfl ?_
  refine E_getR (pc := 14) hx 6 fc2 h0 (hx.ci h0 (Nat.le_of_ble_eq_true rfl)) rfl ⟨rfl, rfl, rfl⟩ g144 dX2_notesUnlikeSent_14 ?_
  refine E_iload_n (pc := 17) hx 3 dX2_notesUnlikeSent_17 rfl rfl ?_
  refine I_bipush (pc := 18) hx 10 dX2_notesUnlikeSent_18 rfl ?_
  refine I_cVI  (pc := 20) hx [.int (oI p1), .int (oI 10)] [] (ev_X7_get F (shR a0 6) (kt_2_6 h0) p1 10 w) vm_X7_get fc6 (kt_2_6 h0) (hx.ci (kt_2_6 h0) (Nat.le_of_ble_eq_true rfl)) g384 dX2_notesUnlikeSent_20 rfl rfl (Nat.le_of_ble_eq_true rfl) (Nat.le_of_ble_eq_true rfl) (Nat.le_of_ble_eq_true rfl) (fun r2 => ?_)
  refine E_istore (pc := 23) hx dX2_notesUnlikeSent_23 (Nat.le_of_ble_eq_true rfl) rfl ?_
  refine I_iconst (pc := 25) hx 0 dX2_notesUnlikeSent_25 ?_
  refine E_istore (pc := 26) hx dX2_notesUnlikeSent_26 (Nat.le_of_ble_eq_true rfl) rfl ?_
  refine En.sub [3, 2, 1, 0] rfl ?_
  exact l_X2_notesUnlikeSent_b28 F a0 h0 p1 w hx F 0 r1 r2 0
set_option maxHeartbeats 4000000 in
set_option maxRecDepth 100000 in
theorem ev_X2_numberOfTune (F : Nat) (a0 : Nat) (h0 : shK a0 = 10 + 2) (p1 : Int) (p2 : Int) (w : aI) : Ev yX2_numberOfTune cX2_numberOfTune 3 (some .int) 2 0 (jvI w) [.ref a0, .int (oI p1), .int (oI p2)] (cm w) (f_X2_numberOfTune F a0 p1 p2 w) := by
  refine Ev.of (own := RX2) (by decide +kernel) rfl (Nat.le_of_ble_eq_true rfl) (fun x hx => ?_)
  show En x (jvI w) 0 0 0 [(0, .ref a0), (1, .int (oI p1)), (2, .int (oI p2))] [] (cm w) _
  unfold f_X2_numberOfTune
  refine E_iload_n (pc := 0) hx 2 dX2_numberOfTune_0 rfl rfl ?_
  refine E_gd (fun hr1 => ?_)
  refine E_case (fun hc2 => ?_) (fun hc2 => ?_)
  · refine E_lsw (pc := 1) hx (off := 27) 28 dX2_numberOfTune_1 (by decide) (by rw [hc2]; rfl) rfl ?_
    refine E_aload_n (pc := 28) hx 0 dX2_numberOfTune_28 rfl rfl ?_
    refine E_iload_n (pc := 29) hx 1 dX2_numberOfTune_29 rfl rfl ?_
    refine I_cVI  (pc := 30) hx [.int (oI p1)] [] (ev_X2_barsOfTune F a0 h0 p1 w) vm_X2_barsOfTune fc2 h0 (hx.ci h0 (Nat.le_of_ble_eq_true rfl)) g984 dX2_numberOfTune_30 rfl rfl (Nat.le_of_ble_eq_true rfl) (Nat.le_of_ble_eq_true rfl) (Nat.le_of_ble_eq_true rfl) (fun r3 => ?_)
    exact E_iret (pc := 33) hx dX2_numberOfTune_33 rfl rfl (Nat.le_of_ble_eq_true rfl)
  refine E_case (fun hc4 => ?_) (fun hc4 => ?_)
  · refine E_lsw (pc := 1) hx (off := 33) 34 dX2_numberOfTune_1 (by decide) (by rw [hc4]; rfl) rfl ?_
    refine E_aload_n (pc := 34) hx 0 dX2_numberOfTune_34 rfl rfl ?_
    refine E_iload_n (pc := 35) hx 1 dX2_numberOfTune_35 rfl rfl ?_
    refine I_cVI  (pc := 36) hx [.int (oI p1)] [] (ev_X2_notesUnlikeSent F a0 h0 p1 w) vm_X2_notesUnlikeSent fc2 h0 (hx.ci h0 (Nat.le_of_ble_eq_true rfl)) g1071 dX2_numberOfTune_36 rfl rfl (Nat.le_of_ble_eq_true rfl) (Nat.le_of_ble_eq_true rfl) (Nat.le_of_ble_eq_true rfl) (fun r5 => ?_)
    exact E_iret (pc := 39) hx dX2_numberOfTune_39 rfl rfl (Nat.le_of_ble_eq_true rfl)
  refine E_lsw (pc := 1) hx (off := 39) 40 dX2_numberOfTune_1 (by decide) (lswI_out _ hr1 _ (by simp only [List.forall_mem_cons, List.not_mem_nil, false_imp_iff, implies_true, and_true]; exact ⟨hc2, hc4⟩)) rfl ?_
  refine E_aload_n (pc := 40) hx 0 dX2_numberOfTune_40 rfl rfl ?_
  refine E_getR (pc := 41) hx 6 fc2 h0 (hx.ci h0 (Nat.le_of_ble_eq_true rfl)) rfl ⟨rfl, rfl, rfl⟩ g144 dX2_numberOfTune_41 ?_
  refine E_iload_n (pc := 44) hx 1 dX2_numberOfTune_44 rfl rfl ?_
  refine E_iload_n (pc := 45) hx 2 dX2_numberOfTune_45 rfl rfl ?_
  refine I_cVI  (pc := 46) hx [.int (oI p1), .int (oI p2)] [] (ev_X7_get F (shR a0 6) (kt_2_6 h0) p1 p2 w) vm_X7_get fc6 (kt_2_6 h0) (hx.ci (kt_2_6 h0) (Nat.le_of_ble_eq_true rfl)) g384 dX2_numberOfTune_46 rfl rfl (Nat.le_of_ble_eq_true rfl) (Nat.le_of_ble_eq_true rfl) (Nat.le_of_ble_eq_true rfl) (fun r6 => ?_)
  exact E_iret (pc := 49) hx dX2_numberOfTune_49 rfl rfl (Nat.le_of_ble_eq_true rfl)
set_option maxHeartbeats 4000000 in
set_option maxRecDepth 100000 in
theorem ev_X2_nextOf (F : Nat) (a0 : Nat) (h0 : shK a0 = 10 + 2) (p1 : Int) (w : aI) : Ev yX2_nextOf cX2_nextOf 2 (some .int) 1 0 (jvI w) [.ref a0, .int (oI p1)] (cm w) (f_X2_nextOf F a0 p1 w) := by
  refine Ev.of (own := RX2) (by decide +kernel) rfl (Nat.le_of_ble_eq_true rfl) (fun x hx => ?_)
  show En x (jvI w) 0 0 0 [(0, .ref a0), (1, .int (oI p1))] [] (cm w) _
  unfold f_X2_nextOf
  refine E_aload_n (pc := 0) hx 0 dX2_nextOf_0 rfl rfl ?_
  refine E_getR (pc := 1) hx 9 fc2 h0 (hx.ci h0 (Nat.le_of_ble_eq_true rfl)) rfl ⟨rfl, rfl, rfl⟩ g152 dX2_nextOf_1 ?_
  refine E_getR (pc := 4) hx 2 fc3 (kt_2_9 h0) (hx.ci (kt_2_9 h0) (Nat.le_of_ble_eq_true rfl)) rfl ⟨rfl, rfl, rfl⟩ g114 dX2_nextOf_4 ?_
  refine E_aload_n (pc := 7) hx 0 dX2_nextOf_7 rfl rfl ?_
  refine E_getR (pc := 8) hx 6 fc2 h0 (hx.ci h0 (Nat.le_of_ble_eq_true rfl)) rfl ⟨rfl, rfl, rfl⟩ g144 dX2_nextOf_8 ?_
  refine E_iload_n (pc := 11) hx 1 dX2_nextOf_11 rfl rfl ?_
  refine I_iconst (pc := 12) hx 4 dX2_nextOf_12 ?_
  refine I_cVI  (pc := 13) hx [.int (oI p1), .int (oI 4)] [.ref (shR (shR a0 9) 2)] (ev_X7_get F (shR a0 6) (kt_2_6 h0) p1 4 w) vm_X7_get fc6 (kt_2_6 h0) (hx.ci (kt_2_6 h0) (Nat.le_of_ble_eq_true rfl)) g384 dX2_nextOf_13 rfl rfl (Nat.le_of_ble_eq_true rfl) (Nat.le_of_ble_eq_true rfl) (Nat.le_of_ble_eq_true rfl) (fun r1 => ?_)
  refine E_aload_n (pc := 16) hx 0 dX2_nextOf_16 rfl rfl ?_
  refine E_getR (pc := 17) hx 6 fc2 h0 (hx.ci h0 (Nat.le_of_ble_eq_true rfl)) rfl ⟨rfl, rfl, rfl⟩ g144 dX2_nextOf_17 ?_
  refine E_iload_n (pc := 20) hx 1 dX2_nextOf_20 rfl rfl ?_
  refine I_iconst (pc := 21) hx 1 dX2_nextOf_21 ?_
  refine I_cVI  (pc := 22) hx [.int (oI p1), .int (oI 1)] [.int (oI r1), .ref (shR (shR a0 9) 2)] (ev_X7_get F (shR a0 6) (kt_2_6 h0) p1 1 w) vm_X7_get fc6 (kt_2_6 h0) (hx.ci (kt_2_6 h0) (Nat.le_of_ble_eq_true rfl)) g384 dX2_nextOf_22 rfl rfl (Nat.le_of_ble_eq_true rfl) (Nat.le_of_ble_eq_true rfl) (Nat.le_of_ble_eq_true rfl) (fun r2 => ?_)
  refine I_cVI  (pc := 25) hx [.int (oI r1), .int (oI r2)] [] (ev_X7_get F (shR (shR a0 9) 2) (kt_3_2 (kt_2_9 h0)) r1 r2 w) vm_X7_get fc6 (kt_3_2 (kt_2_9 h0)) (hx.ci (kt_3_2 (kt_2_9 h0)) (Nat.le_of_ble_eq_true rfl)) g384 dX2_nextOf_25 rfl rfl (Nat.le_of_ble_eq_true rfl) (Nat.le_of_ble_eq_true rfl) (Nat.le_of_ble_eq_true rfl) (fun r3 => ?_)
  exact E_iret (pc := 28) hx dX2_nextOf_28 rfl rfl (Nat.le_of_ble_eq_true rfl)
set_option maxHeartbeats 4000000 in
set_option maxRecDepth 100000 in
theorem ev_X2_lackOf (F : Nat) (a0 : Nat) (h0 : shK a0 = 10 + 2) (p1 : Int) (w : aI) : Ev yX2_lackOf cX2_lackOf 3 (some .int) 1 0 (jvI w) [.ref a0, .int (oI p1)] (cm w) (f_X2_lackOf F a0 p1 w) := by
  refine Ev.of (own := RX2) (by decide +kernel) rfl (Nat.le_of_ble_eq_true rfl) (fun x hx => ?_)
  show En x (jvI w) 0 0 0 [(0, .ref a0), (1, .int (oI p1))] [] (cm w) _
  unfold f_X2_lackOf
  refine E_aload_n (pc := 0) hx 0 dX2_lackOf_0 rfl rfl ?_
  refine E_getR (pc := 1) hx 4 fc2 h0 (hx.ci h0 (Nat.le_of_ble_eq_true rfl)) rfl ⟨rfl, rfl, rfl⟩ g138 dX2_lackOf_1 ?_
  refine E_aload_n (pc := 4) hx 0 dX2_lackOf_4 rfl rfl ?_
  refine E_getR (pc := 5) hx 6 fc2 h0 (hx.ci h0 (Nat.le_of_ble_eq_true rfl)) rfl ⟨rfl, rfl, rfl⟩ g144 dX2_lackOf_5 ?_
  refine E_iload_n (pc := 8) hx 1 dX2_lackOf_8 rfl rfl ?_
  refine I_iconst (pc := 9) hx 4 dX2_lackOf_9 ?_
  refine I_cVI  (pc := 10) hx [.int (oI p1), .int (oI 4)] [.ref (shR a0 4)] (ev_X7_get F (shR a0 6) (kt_2_6 h0) p1 4 w) vm_X7_get fc6 (kt_2_6 h0) (hx.ci (kt_2_6 h0) (Nat.le_of_ble_eq_true rfl)) g384 dX2_lackOf_10 rfl rfl (Nat.le_of_ble_eq_true rfl) (Nat.le_of_ble_eq_true rfl) (Nat.le_of_ble_eq_true rfl) (fun r1 => ?_)
  refine I_iconst (pc := 13) hx 2 dX2_lackOf_13 ?_
  refine I_cVI  (pc := 14) hx [.int (oI r1), .int (oI 2)] [] (ev_X7_get F (shR a0 4) (kt_2_4 h0) r1 2 w) vm_X7_get fc6 (kt_2_4 h0) (hx.ci (kt_2_4 h0) (Nat.le_of_ble_eq_true rfl)) g384 dX2_lackOf_14 rfl rfl (Nat.le_of_ble_eq_true rfl) (Nat.le_of_ble_eq_true rfl) (Nat.le_of_ble_eq_true rfl) (fun r2 => ?_)
  refine E_aload_n (pc := 17) hx 0 dX2_lackOf_17 rfl rfl ?_
  refine E_getR (pc := 18) hx 6 fc2 h0 (hx.ci h0 (Nat.le_of_ble_eq_true rfl)) rfl ⟨rfl, rfl, rfl⟩ g144 dX2_lackOf_18 ?_
  refine E_iload_n (pc := 21) hx 1 dX2_lackOf_21 rfl rfl ?_
  refine I_iconst (pc := 22) hx 2 dX2_lackOf_22 ?_
  refine I_cVI  (pc := 23) hx [.int (oI p1), .int (oI 2)] [.int (oI r2)] (ev_X7_get F (shR a0 6) (kt_2_6 h0) p1 2 w) vm_X7_get fc6 (kt_2_6 h0) (hx.ci (kt_2_6 h0) (Nat.le_of_ble_eq_true rfl)) g384 dX2_lackOf_23 rfl rfl (Nat.le_of_ble_eq_true rfl) (Nat.le_of_ble_eq_true rfl) (Nat.le_of_ble_eq_true rfl) (fun r3 => ?_)
  refine I_cSI  (pc := 26) hx [.int (oI r3)] [.int (oI r2)] (ev_X2_barsOf F r3 w) sm_X2_barsOf g981 dX2_lackOf_26 rfl rfl (Nat.le_of_ble_eq_true rfl) (Nat.le_of_ble_eq_true rfl) (Nat.le_of_ble_eq_true rfl) (fun r4 => ?_)
  refine I_imul (pc := 29) hx dX2_lackOf_29 ?_
  refine I_ltv (fun v2_5 => ?_)
  refine E_istore_n (pc := 30) hx dX2_lackOf_30 rfl (Nat.le_of_ble_eq_true rfl) rfl ?_
  refine E_iload_n (pc := 31) hx 0 dX2_lackOf_31 rfl rfl ?_
  refine E_aload_n (pc := 32) hx 1 dX2_lackOf_32 rfl rfl ?_
  refine E_getR (pc := 33) hx 4 fc2 h0 (hx.ci h0 (Nat.le_of_ble_eq_true rfl)) rfl ⟨rfl, rfl, rfl⟩ g138 dX2_lackOf_33 ?_
  refine E_aload_n (pc := 36) hx 1 dX2_lackOf_36 rfl rfl ?_
  refine E_getR (pc := 37) hx 6 fc2 h0 (hx.ci h0 (Nat.le_of_ble_eq_true rfl)) rfl ⟨rfl, rfl, rfl⟩ g144 dX2_lackOf_37 ?_
  refine E_iload_n (pc := 40) hx 2 dX2_lackOf_40 rfl rfl ?_
  refine I_iconst (pc := 41) hx 0 dX2_lackOf_41 ?_
  refine I_cVI  (pc := 42) hx [.int (oI p1), .int (oI 0)] [.ref (shR a0 4), .int (oI v2_5)] (ev_X7_get F (shR a0 6) (kt_2_6 h0) p1 0 w) vm_X7_get fc6 (kt_2_6 h0) (hx.ci (kt_2_6 h0) (Nat.le_of_ble_eq_true rfl)) g384 dX2_lackOf_42 rfl rfl (Nat.le_of_ble_eq_true rfl) (Nat.le_of_ble_eq_true rfl) (Nat.le_of_ble_eq_true rfl) (fun r6 => ?_)
  refine I_iconst (pc := 45) hx 3 dX2_lackOf_45 ?_
  refine I_cVI  (pc := 46) hx [.int (oI r6), .int (oI 3)] [.int (oI v2_5)] (ev_X7_get F (shR a0 4) (kt_2_4 h0) r6 3 w) vm_X7_get fc6 (kt_2_4 h0) (hx.ci (kt_2_4 h0) (Nat.le_of_ble_eq_true rfl)) g384 dX2_lackOf_46 rfl rfl (Nat.le_of_ble_eq_true rfl) (Nat.le_of_ble_eq_true rfl) (Nat.le_of_ble_eq_true rfl) (fun r7 => ?_)
  refine I_isub (pc := 49) hx dX2_lackOf_49 ?_
  exact E_iret (pc := 50) hx dX2_lackOf_50 rfl rfl (Nat.le_of_ble_eq_true rfl)
set_option maxHeartbeats 4000000 in
set_option maxRecDepth 100000 in
theorem l_X2_firstToGoFrom_b4_b {x : Cx} (F : Nat) (a0 : Nat) (h0 : shK a0 = 10 + 2) (p1 : Int) (w : aI) (hx : CxOK x RX2 cX2_firstToGoFrom 4 2 0 (some .int))  (k4 : Int → Int → Option Int) (hk4 : ∀ (v2 : Int) (v3 : Int), En x (jvI w) 0 0 4 [(0, .ref a0), (1, .int (oI p1)), (2, .int (oI v2)), (3, .int (oI v3))] [] (cm w) (k4 v2 v3)) (v2 : Int) (v3 : Int)  : En x (jvI w) 0 0 4 [(0, .ref a0), (1, .int (oI p1)), (2, .int (oI v2)), (3, .int (oI v3))] [] (cm w) (f_X2_firstToGoFrom_b4_b F a0 p1 w  k4 v2 v3) := by
  unfold f_X2_firstToGoFrom_b4_b
  refine E_iload_n (pc := 4) hx 3 dX2_firstToGoFrom_4 rfl rfl ?_
  refine E_aload_n (pc := 5) hx 0 dX2_firstToGoFrom_5 rfl rfl ?_
  refine I_getI (pc := 6) hx 3 3 rfl fc2 h0 (hx.ci h0 (Nat.le_of_ble_eq_true rfl)) rfl ⟨rfl, rfl, rfl⟩ g134 dX2_firstToGoFrom_6 ?_
  refine E_gd (fun hr1 => ?_)
  refine I_icmp_ge (pc := 9) hx 64 dX2_firstToGoFrom_9 rfl ⟨hr1.1, hr1.2⟩ ?_ ?_
  · refine E_iload_n (pc := 64) hx 2 dX2_firstToGoFrom_64 rfl rfl ?_
    exact E_iret (pc := 65) hx dX2_firstToGoFrom_65 rfl rfl (Nat.le_of_ble_eq_true rfl)
  refine E_aload_n (pc := 12) hx 0 dX2_firstToGoFrom_12 rfl rfl ?_
  refine E_iload_n (pc := 13) hx 3 dX2_firstToGoFrom_13 rfl rfl ?_
  refine E_iload_n (pc := 14) hx 1 dX2_firstToGoFrom_14 rfl rfl ?_
  refine I_cVB  (pc := 15) hx [.int (oI v3), .int (oI p1)] [] (ev_X2_isWaitingAt F a0 h0 v3 p1 w) vm_X2_isWaitingAt fc2 h0 (hx.ci h0 (Nat.le_of_ble_eq_true rfl)) g969 dX2_firstToGoFrom_15 rfl rfl (Nat.le_of_ble_eq_true rfl) (Nat.le_of_ble_eq_true rfl) (Nat.le_of_ble_eq_true rfl) (fun r2 => ?_)
  refine I_ifB_eq (pc := 18) hx 58 dX2_firstToGoFrom_18 rfl ?_ ?_
  · refine I_iinc (pc := 58) hx 1 3 dX2_firstToGoFrom_58 rfl (Nat.le_of_ble_eq_true rfl) rfl ?_
    refine E_goto (pc := 61) hx 4 dX2_firstToGoFrom_61 rfl ?_
    refine En.sub [1, 2, 3, 0] rfl ?_
    exact hk4 v2 (v3 + 1)
  refine E_aload_n (pc := 21) hx 0 dX2_firstToGoFrom_21 rfl rfl ?_
  refine E_iload_n (pc := 22) hx 3 dX2_firstToGoFrom_22 rfl rfl ?_
  refine I_cVI  (pc := 23) hx [.int (oI v3)] [] (ev_X2_nextOf F a0 h0 v3 w) vm_X2_nextOf fc2 h0 (hx.ci h0 (Nat.le_of_ble_eq_true rfl)) g973 dX2_firstToGoFrom_23 rfl rfl (Nat.le_of_ble_eq_true rfl) (Nat.le_of_ble_eq_true rfl) (Nat.le_of_ble_eq_true rfl) (fun r3 => ?_)
  refine I_iconst (pc := 26) hx (-1) dX2_firstToGoFrom_26 ?_
  refine E_gd (fun hr4 => ?_)
  refine I_icmp_eq (pc := 27) hx 58 dX2_firstToGoFrom_27 rfl ⟨hr4, (by decide)⟩ ?_ ?_
  · refine I_iinc (pc := 58) hx 1 3 dX2_firstToGoFrom_58 rfl (Nat.le_of_ble_eq_true rfl) rfl ?_
    refine E_goto (pc := 61) hx 4 dX2_firstToGoFrom_61 rfl ?_
    refine En.sub [1, 2, 3, 0] rfl ?_
    exact hk4 v2 (v3 + 1)
  refine E_aload_n (pc := 30) hx 0 dX2_firstToGoFrom_30 rfl rfl ?_
  refine E_iload_n (pc := 31) hx 3 dX2_firstToGoFrom_31 rfl rfl ?_
  refine I_cVI  (pc := 32) hx [.int (oI v3)] [] (ev_X2_lackOf F a0 h0 v3 w) vm_X2_lackOf fc2 h0 (hx.ci h0 (Nat.le_of_ble_eq_true rfl)) g977 dX2_firstToGoFrom_32 rfl rfl (Nat.le_of_ble_eq_true rfl) (Nat.le_of_ble_eq_true rfl) (Nat.le_of_ble_eq_true rfl) (fun r5 => ?_)
  refine E_gd (fun hr6 => ?_)
  refine I_if_gt (pc := 35) hx 58 dX2_firstToGoFrom_35 rfl hr6 ?_ ?_
  · refine I_iinc (pc := 58) hx 1 3 dX2_firstToGoFrom_58 rfl (Nat.le_of_ble_eq_true rfl) rfl ?_
    refine E_goto (pc := 61) hx 4 dX2_firstToGoFrom_61 rfl ?_
    refine En.sub [1, 2, 3, 0] rfl ?_
    exact hk4 v2 (v3 + 1)
  refine E_iload_n (pc := 38) hx 2 dX2_firstToGoFrom_38 rfl rfl ?_
  refine I_iconst (pc := 39) hx (-1) dX2_firstToGoFrom_39 ?_
  refine E_gd (fun hr7 => ?_)
  refine I_icmp_eq (pc := 40) hx 56 dX2_firstToGoFrom_40 rfl ⟨hr7, (by decide)⟩ ?_ ?_
  · refine E_iload_n (pc := 56) hx 3 dX2_firstToGoFrom_56 rfl rfl ?_
    refine E_istore_n (pc := 57) hx dX2_firstToGoFrom_57 rfl (Nat.le_of_ble_eq_true rfl) rfl ?_
    refine I_iinc (pc := 58) hx 1 3 dX2_firstToGoFrom_58 rfl (Nat.le_of_ble_eq_true rfl) rfl ?_
    refine E_goto (pc := 61) hx 4 dX2_firstToGoFrom_61 rfl ?_
    refine En.sub [2, 3, 1, 0] rfl ?_
    exact hk4 v3 (v3 + 1)
  refine E_aload_n (pc := 43) hx 0 dX2_firstToGoFrom_43 rfl rfl ?_
  refine E_iload_n (pc := 44) hx 3 dX2_firstToGoFrom_44 rfl rfl ?_
  refine I_cVI  (pc := 45) hx [.int (oI v3)] [] (ev_X2_barsOfTune F a0 h0 v3 w) vm_X2_barsOfTune fc2 h0 (hx.ci h0 (Nat.le_of_ble_eq_true rfl)) g984 dX2_firstToGoFrom_45 rfl rfl (Nat.le_of_ble_eq_true rfl) (Nat.le_of_ble_eq_true rfl) (Nat.le_of_ble_eq_true rfl) (fun r8 => ?_)
  refine E_aload_n (pc := 48) hx 0 dX2_firstToGoFrom_48 rfl rfl ?_
  refine E_iload_n (pc := 49) hx 2 dX2_firstToGoFrom_49 rfl rfl ?_
  refine I_cVI  (pc := 50) hx [.int (oI v2)] [.int (oI r8)] (ev_X2_barsOfTune F a0 h0 v2 w) vm_X2_barsOfTune fc2 h0 (hx.ci h0 (Nat.le_of_ble_eq_true rfl)) g984 dX2_firstToGoFrom_50 rfl rfl (Nat.le_of_ble_eq_true rfl) (Nat.le_of_ble_eq_true rfl) (Nat.le_of_ble_eq_true rfl) (fun r9 => ?_)
  refine E_gd (fun hr10 => ?_)
  refine I_icmp_le (pc := 53) hx 58 dX2_firstToGoFrom_53 rfl ⟨hr10.1, hr10.2⟩ ?_ ?_
  · refine I_iinc (pc := 58) hx 1 3 dX2_firstToGoFrom_58 rfl (Nat.le_of_ble_eq_true rfl) rfl ?_
    refine E_goto (pc := 61) hx 4 dX2_firstToGoFrom_61 rfl ?_
    refine En.sub [1, 2, 3, 0] rfl ?_
    exact hk4 v2 (v3 + 1)
  refine E_iload_n (pc := 56) hx 3 dX2_firstToGoFrom_56 rfl rfl ?_
  refine E_istore_n (pc := 57) hx dX2_firstToGoFrom_57 rfl (Nat.le_of_ble_eq_true rfl) rfl ?_
  refine I_iinc (pc := 58) hx 1 3 dX2_firstToGoFrom_58 rfl (Nat.le_of_ble_eq_true rfl) rfl ?_
  refine E_goto (pc := 61) hx 4 dX2_firstToGoFrom_61 rfl ?_
  refine En.sub [2, 3, 1, 0] rfl ?_
  exact hk4 v3 (v3 + 1)
theorem l_X2_firstToGoFrom_b4 {x : Cx} (F : Nat) (a0 : Nat) (h0 : shK a0 = 10 + 2) (p1 : Int) (w : aI) (hx : CxOK x RX2 cX2_firstToGoFrom 4 2 0 (some .int))  : ∀ (n : Nat) (v2 : Int) (v3 : Int), En x (jvI w) 0 0 4 [(0, .ref a0), (1, .int (oI p1)), (2, .int (oI v2)), (3, .int (oI v3))] [] (cm w) (f_X2_firstToGoFrom_b4 F a0 p1 w  n v2 v3) := by
  intro n
  induction n with
  | zero => intro v2 v3; exact E_none
  | succ n ih => intro v2 v3; exact l_X2_firstToGoFrom_b4_b F a0 h0 p1 w hx  _ ih v2 v3
set_option maxHeartbeats 4000000 in
set_option maxRecDepth 100000 in
theorem ev_X2_firstToGoFrom (F : Nat) (a0 : Nat) (h0 : shK a0 = 10 + 2) (p1 : Int) (w : aI) : Ev yX2_firstToGoFrom cX2_firstToGoFrom 4 (some .int) 2 0 (jvI w) [.ref a0, .int (oI p1)] (cm w) (f_X2_firstToGoFrom F a0 p1 w) := by
  refine Ev.of (own := RX2) (by decide +kernel) rfl (Nat.le_of_ble_eq_true rfl) (fun x hx => ?_)
  show En x (jvI w) 0 0 0 [(0, .ref a0), (1, .int (oI p1))] [] (cm w) _
  unfold f_X2_firstToGoFrom
  refine I_iconst (pc := 0) hx (-1) dX2_firstToGoFrom_0 ?_
  refine E_istore_n (pc := 1) hx dX2_firstToGoFrom_1 rfl (Nat.le_of_ble_eq_true rfl) rfl ?_
  refine I_iconst (pc := 2) hx 0 dX2_firstToGoFrom_2 ?_
  refine E_istore_n (pc := 3) hx dX2_firstToGoFrom_3 rfl (Nat.le_of_ble_eq_true rfl) rfl ?_
  refine En.sub [2, 3, 1, 0] rfl ?_
  exact l_X2_firstToGoFrom_b4 F a0 h0 p1 w hx F (-1) 0
set_option maxHeartbeats 4000000 in
set_option maxRecDepth 100000 in
theorem ev_X2_wrongOf (F : Nat) (a0 : Nat) (h0 : shK a0 = 10 + 2) (p1 : Int) (p2 : Int) (p3 : Int) (p4 : Int) (w : aI) : Ev yX2_wrongOf cX2_wrongOf 6 (some .int) 1 0 (jvI w) [.ref a0, .int (oI p1), .int (oI p2), .int (oI p3), .int (oI p4)] (cm w) (f_X2_wrongOf F a0 p1 p2 p3 p4 w) := by
  refine Ev.of (own := RX2) (by decide +kernel) rfl (Nat.le_of_ble_eq_true rfl) (fun x hx => ?_)
  show En x (jvI w) 0 0 0 [(0, .ref a0), (1, .int (oI p1)), (2, .int (oI p2)), (3, .int (oI p3)), (4, .int (oI p4))] [] (cm w) _
  unfold f_X2_wrongOf
  refine I_iconst (pc := 0) hx 0 dX2_wrongOf_0 ?_
  refine E_iload (pc := 1) hx 4 dX2_wrongOf_1 rfl ?_
  refine E_iload_n (pc := 3) hx 1 dX2_wrongOf_3 rfl rfl ?_
  refine I_imul (pc := 4) hx dX2_wrongOf_4 ?_
  refine I_iconst (pc := 5) hx 3 dX2_wrongOf_5 ?_
  refine E_aload_n (pc := 6) hx 0 dX2_wrongOf_6 rfl rfl ?_
  refine E_getR (pc := 7) hx 4 fc2 h0 (hx.ci h0 (Nat.le_of_ble_eq_true rfl)) rfl ⟨rfl, rfl, rfl⟩ g138 dX2_wrongOf_7 ?_
  refine E_iload_n (pc := 10) hx 2 dX2_wrongOf_10 rfl rfl ?_
  refine I_iconst (pc := 11) hx 1 dX2_wrongOf_11 ?_
  refine I_cVI  (pc := 12) hx [.int (oI p2), .int (oI 1)] [.int (oI 3), .int (oI (p4 * p1)), .int (oI 0)] (ev_X7_get F (shR a0 4) (kt_2_4 h0) p2 1 w) vm_X7_get fc6 (kt_2_4 h0) (hx.ci (kt_2_4 h0) (Nat.le_of_ble_eq_true rfl)) g384 dX2_wrongOf_12 rfl rfl (Nat.le_of_ble_eq_true rfl) (Nat.le_of_ble_eq_true rfl) (Nat.le_of_ble_eq_true rfl) (fun r1 => ?_)
  refine I_imul (pc := 15) hx dX2_wrongOf_15 ?_
  refine I_isub (pc := 16) hx dX2_wrongOf_16 ?_
  refine E_gd (fun hr2 => ?_)
  refine I_mmax (pc := 17) hx ⟨(by decide), hr2⟩ g938 g895 g40 g896 (Nat.le_of_ble_eq_true rfl) (Nat.le_of_ble_eq_true rfl) (Nat.le_of_ble_eq_true rfl) dX2_wrongOf_17 ?_
  refine I_ltv (fun v5_3 => ?_)
  refine E_istore (pc := 20) hx dX2_wrongOf_20 (Nat.le_of_ble_eq_true rfl) rfl ?_
  refine E_iload (pc := 22) hx 0 dX2_wrongOf_22 rfl ?_
  refine I_bipush (pc := 24) hx 10 dX2_wrongOf_24 rfl ?_
  refine E_gd (fun hr4 => ?_)
  refine I_idiv (pc := 26) hx dX2_wrongOf_26 ⟨hr4, (by decide), (by decide)⟩ ?_
  refine E_iload_n (pc := 27) hx 4 dX2_wrongOf_27 rfl rfl ?_
  refine E_gd (fun hr5 => ?_)
  refine I_mmin (pc := 28) hx ⟨hr5.1, hr5.2⟩ g939 g482 g40 g483 (Nat.le_of_ble_eq_true rfl) (Nat.le_of_ble_eq_true rfl) (Nat.le_of_ble_eq_true rfl) dX2_wrongOf_28 ?_
  exact E_iret (pc := 31) hx dX2_wrongOf_31 rfl rfl (Nat.le_of_ble_eq_true rfl)
set_option maxHeartbeats 4000000 in
set_option maxRecDepth 100000 in
theorem l_X3_sumByWays_b61_b {x : Cx} (F : Nat) (a0 : Nat) (h0 : shK a0 = 10 + 3) (a1 : Nat) (h1 : shK a1 = 10 + 2)  (hx : CxOK x RX3 cX3_sumByWays 8 2 0 none) (k7 : Int → aI → Option aI) (hk7 : ∀ (v2 : Int) (w : aI), En x jvV 0 0 7 [(0, .ref a0), (1, .ref a1), (2, .int (oI v2))] [] (cm w) (k7 v2 w)) (k17 : Int → Int → aI → Option aI) (hk17 : ∀ (v2 : Int) (v3 : Int) (w : aI), En x jvV 0 0 17 [(0, .ref a0), (1, .ref a1), (2, .int (oI v2)), (3, .int (oI v3))] [] (cm w) (k17 v2 v3 w)) (k61 : Int → Int → Int → Int → Int → Int → aI → Option aI) (hk61 : ∀ (v2 : Int) (v3 : Int) (v4 : Int) (v5 : Int) (v6 : Int) (v7 : Int) (w : aI), En x jvV 0 0 61 [(0, .ref a0), (1, .ref a1), (2, .int (oI v2)), (3, .int (oI v3)), (4, .int (oI v4)), (5, .int (oI v5)), (6, .int (oI v6)), (7, .int (oI v7))] [] (cm w) (k61 v2 v3 v4 v5 v6 v7 w)) (v2 : Int) (v3 : Int) (v4 : Int) (v5 : Int) (v6 : Int) (v7 : Int) (w : aI) : En x jvV 0 0 61 [(0, .ref a0), (1, .ref a1), (2, .int (oI v2)), (3, .int (oI v3)), (4, .int (oI v4)), (5, .int (oI v5)), (6, .int (oI v6)), (7, .int (oI v7))] [] (cm w) (f_X3_sumByWays_b61_b F a0 a1  k7 k17 k61 v2 v3 v4 v5 v6 v7 w) := by
  unfold f_X3_sumByWays_b61_b
  refine E_iload (pc := 61) hx 7 dX3_sumByWays_61 rfl ?_
  refine E_aload_n (pc := 63) hx 1 dX3_sumByWays_63 rfl rfl ?_
  refine I_getI (pc := 64) hx 1 1 rfl fc2 h1 (hx.ci h1 (Nat.le_of_ble_eq_true rfl)) rfl ⟨rfl, rfl, rfl⟩ g126 dX3_sumByWays_64 ?_
  refine E_gd (fun hr7 => ?_)
  refine I_icmp_ge (pc := 67) hx 120 dX3_sumByWays_67 rfl ⟨hr7.1, hr7.2⟩ ?_ ?_
  · refine I_iinc (pc := 120) hx 1 3 dX3_sumByWays_120 rfl (Nat.le_of_ble_eq_true rfl) rfl ?_
    refine E_goto (pc := 123) hx 17 dX3_sumByWays_123 rfl ?_
    refine En.sub [1, 2, 3, 0] rfl ?_
    exact hk17 v2 (v3 + 1) w
  refine E_aload_n (pc := 70) hx 0 dX3_sumByWays_70 rfl rfl ?_
  refine E_iload (pc := 71) hx 7 dX3_sumByWays_71 rfl ?_
  refine E_iload (pc := 73) hx 4 dX3_sumByWays_73 rfl ?_
  refine E_aload_n (pc := 75) hx 0 dX3_sumByWays_75 rfl rfl ?_
  refine E_getR (pc := 76) hx 1 fc3 h0 (hx.ci h0 (Nat.le_of_ble_eq_true rfl)) rfl ⟨rfl, rfl, rfl⟩ g110 dX3_sumByWays_76 ?_
  refine E_iload (pc := 79) hx 7 dX3_sumByWays_79 rfl ?_
  refine E_iload (pc := 81) hx 5 dX3_sumByWays_81 rfl ?_
  refine I_cVI  (pc := 83) hx [.int (oI v7), .int (oI v5)] [.int (oI v4), .int (oI v7), .ref a0] (ev_X7_get F (shR a0 1) (kt_3_1 h0) v7 v5 w) vm_X7_get fc6 (kt_3_1 h0) (hx.ci (kt_3_1 h0) (Nat.le_of_ble_eq_true rfl)) g456 dX3_sumByWays_83 rfl rfl (Nat.le_of_ble_eq_true rfl) (Nat.le_of_ble_eq_true rfl) (Nat.le_of_ble_eq_true rfl) (fun r8 => ?_)
  refine E_iload (pc := 86) hx 6 dX3_sumByWays_86 rfl ?_
  refine I_iadd (pc := 88) hx dX3_sumByWays_88 ?_
  refine I_cVV  (pc := 89) hx [.int (oI v7), .int (oI v4), .int (oI (r8 + v6))] [] (ev_X3_shorten F a0 h0 v7 v4 (r8 + v6) w) vm_X3_shorten fc3 h0 (hx.ci h0 (Nat.le_of_ble_eq_true rfl)) g461 dX3_sumByWays_89 rfl rfl (Nat.le_of_ble_eq_true rfl) (Nat.le_of_ble_eq_true rfl) (Nat.le_of_ble_eq_true rfl) (fun w9 => ?_)
  refine E_aload_n (pc := 92) hx 0 dX3_sumByWays_92 rfl rfl ?_
  refine E_iload (pc := 93) hx 7 dX3_sumByWays_93 rfl ?_
  refine E_iload (pc := 95) hx 5 dX3_sumByWays_95 rfl ?_
  refine E_aload_n (pc := 97) hx 0 dX3_sumByWays_97 rfl rfl ?_
  refine E_getR (pc := 98) hx 1 fc3 h0 (hx.ci h0 (Nat.le_of_ble_eq_true rfl)) rfl ⟨rfl, rfl, rfl⟩ g110 dX3_sumByWays_98 ?_
  refine E_iload (pc := 101) hx 7 dX3_sumByWays_101 rfl ?_
  refine E_iload (pc := 103) hx 4 dX3_sumByWays_103 rfl ?_
  refine I_cVI  (pc := 105) hx [.int (oI v7), .int (oI v4)] [.int (oI v5), .int (oI v7), .ref a0] (ev_X7_get F (shR a0 1) (kt_3_1 h0) v7 v4 w9) vm_X7_get fc6 (kt_3_1 h0) (hx.ci (kt_3_1 h0) (Nat.le_of_ble_eq_true rfl)) g456 dX3_sumByWays_105 rfl rfl (Nat.le_of_ble_eq_true rfl) (Nat.le_of_ble_eq_true rfl) (Nat.le_of_ble_eq_true rfl) (fun r10 => ?_)
  refine E_iload (pc := 108) hx 6 dX3_sumByWays_108 rfl ?_
  refine I_iadd (pc := 110) hx dX3_sumByWays_110 ?_
  refine I_cVV  (pc := 111) hx [.int (oI v7), .int (oI v5), .int (oI (r10 + v6))] [] (ev_X3_shorten F a0 h0 v7 v5 (r10 + v6) w9) vm_X3_shorten fc3 h0 (hx.ci h0 (Nat.le_of_ble_eq_true rfl)) g461 dX3_sumByWays_111 rfl rfl (Nat.le_of_ble_eq_true rfl) (Nat.le_of_ble_eq_true rfl) (Nat.le_of_ble_eq_true rfl) (fun w11 => ?_)
  refine I_iinc (pc := 114) hx 1 7 dX3_sumByWays_114 rfl (Nat.le_of_ble_eq_true rfl) rfl ?_
  refine E_goto (pc := 117) hx 61 dX3_sumByWays_117 rfl ?_
  refine En.sub [1, 2, 3, 4, 5, 6, 7, 0] rfl ?_
  exact hk61 v2 v3 v4 v5 v6 (v7 + 1) w11
theorem l_X3_sumByWays_b61 {x : Cx} (F : Nat) (a0 : Nat) (h0 : shK a0 = 10 + 3) (a1 : Nat) (h1 : shK a1 = 10 + 2)  (hx : CxOK x RX3 cX3_sumByWays 8 2 0 none) (k7 : Int → aI → Option aI) (hk7 : ∀ (v2 : Int) (w : aI), En x jvV 0 0 7 [(0, .ref a0), (1, .ref a1), (2, .int (oI v2))] [] (cm w) (k7 v2 w)) (k17 : Int → Int → aI → Option aI) (hk17 : ∀ (v2 : Int) (v3 : Int) (w : aI), En x jvV 0 0 17 [(0, .ref a0), (1, .ref a1), (2, .int (oI v2)), (3, .int (oI v3))] [] (cm w) (k17 v2 v3 w)) : ∀ (n : Nat) (v2 : Int) (v3 : Int) (v4 : Int) (v5 : Int) (v6 : Int) (v7 : Int) (w : aI), En x jvV 0 0 61 [(0, .ref a0), (1, .ref a1), (2, .int (oI v2)), (3, .int (oI v3)), (4, .int (oI v4)), (5, .int (oI v5)), (6, .int (oI v6)), (7, .int (oI v7))] [] (cm w) (f_X3_sumByWays_b61 F a0 a1  k7 k17 n v2 v3 v4 v5 v6 v7 w) := by
  intro n
  induction n with
  | zero => intro v2 v3 v4 v5 v6 v7 w; exact E_none
  | succ n ih => intro v2 v3 v4 v5 v6 v7 w; exact l_X3_sumByWays_b61_b F a0 h0 a1 h1  hx k7 hk7 k17 hk17 _ ih v2 v3 v4 v5 v6 v7 w
set_option maxHeartbeats 4000000 in
set_option maxRecDepth 100000 in
theorem l_X3_sumByWays_b17_b {x : Cx} (F : Nat) (a0 : Nat) (h0 : shK a0 = 10 + 3) (a1 : Nat) (h1 : shK a1 = 10 + 2)  (hx : CxOK x RX3 cX3_sumByWays 8 2 0 none) (k7 : Int → aI → Option aI) (hk7 : ∀ (v2 : Int) (w : aI), En x jvV 0 0 7 [(0, .ref a0), (1, .ref a1), (2, .int (oI v2))] [] (cm w) (k7 v2 w)) (k17 : Int → Int → aI → Option aI) (hk17 : ∀ (v2 : Int) (v3 : Int) (w : aI), En x jvV 0 0 17 [(0, .ref a0), (1, .ref a1), (2, .int (oI v2)), (3, .int (oI v3))] [] (cm w) (k17 v2 v3 w)) (v2 : Int) (v3 : Int) (w : aI) : En x jvV 0 0 17 [(0, .ref a0), (1, .ref a1), (2, .int (oI v2)), (3, .int (oI v3))] [] (cm w) (f_X3_sumByWays_b17_b F a0 a1  k7 k17 v2 v3 w) := by
  unfold f_X3_sumByWays_b17_b
  refine E_iload_n (pc := 17) hx 3 dX3_sumByWays_17 rfl rfl ?_
  refine E_aload_n (pc := 18) hx 1 dX3_sumByWays_18 rfl rfl ?_
  refine I_getI (pc := 19) hx 2 2 rfl fc2 h1 (hx.ci h1 (Nat.le_of_ble_eq_true rfl)) rfl ⟨rfl, rfl, rfl⟩ g131 dX3_sumByWays_19 ?_
  refine E_gd (fun hr3 => ?_)
  refine I_icmp_ge (pc := 22) hx 126 dX3_sumByWays_22 rfl ⟨hr3.1, hr3.2⟩ ?_ ?_
  · refine I_iinc (pc := 126) hx 1 2 dX3_sumByWays_126 rfl (Nat.le_of_ble_eq_true rfl) rfl ?_
    refine E_goto (pc := 129) hx 7 dX3_sumByWays_129 rfl ?_
    refine En.sub [1, 2, 0] rfl ?_
    exact hk7 (v2 + 1) w
  refine E_aload_n (pc := 25) hx 1 dX3_sumByWays_25 rfl rfl ?_
  refine E_getR (pc := 26) hx 5 fc2 h1 (hx.ci h1 (Nat.le_of_ble_eq_true rfl)) rfl ⟨rfl, rfl, rfl⟩ g143 dX3_sumByWays_26 ?_
  refine E_iload_n (pc := 29) hx 3 dX3_sumByWays_29 rfl rfl ?_
  refine I_iconst (pc := 30) hx 0 dX3_sumByWays_30 ?_
  refine I_cVI  (pc := 31) hx [.int (oI v3), .int (oI 0)] [] (ev_X7_get F (shR a1 5) (kt_2_5 h1) v3 0 w) vm_X7_get fc6 (kt_2_5 h1) (hx.ci (kt_2_5 h1) (Nat.le_of_ble_eq_true rfl)) g456 dX3_sumByWays_31 rfl rfl (Nat.le_of_ble_eq_true rfl) (Nat.le_of_ble_eq_true rfl) (Nat.le_of_ble_eq_true rfl) (fun r4 => ?_)
  refine E_istore (pc := 34) hx dX3_sumByWays_34 (Nat.le_of_ble_eq_true rfl) rfl ?_
  refine E_aload_n (pc := 36) hx 2 dX3_sumByWays_36 rfl rfl ?_
  refine E_getR (pc := 37) hx 5 fc2 h1 (hx.ci h1 (Nat.le_of_ble_eq_true rfl)) rfl ⟨rfl, rfl, rfl⟩ g143 dX3_sumByWays_37 ?_
  refine E_iload_n (pc := 40) hx 4 dX3_sumByWays_40 rfl rfl ?_
  refine I_iconst (pc := 41) hx 1 dX3_sumByWays_41 ?_
  refine I_cVI  (pc := 42) hx [.int (oI v3), .int (oI 1)] [] (ev_X7_get F (shR a1 5) (kt_2_5 h1) v3 1 w) vm_X7_get fc6 (kt_2_5 h1) (hx.ci (kt_2_5 h1) (Nat.le_of_ble_eq_true rfl)) g456 dX3_sumByWays_42 rfl rfl (Nat.le_of_ble_eq_true rfl) (Nat.le_of_ble_eq_true rfl) (Nat.le_of_ble_eq_true rfl) (fun r5 => ?_)
  refine E_istore (pc := 45) hx dX3_sumByWays_45 (Nat.le_of_ble_eq_true rfl) rfl ?_
  refine E_aload_n (pc := 47) hx 3 dX3_sumByWays_47 rfl rfl ?_
  refine E_getR (pc := 48) hx 5 fc2 h1 (hx.ci h1 (Nat.le_of_ble_eq_true rfl)) rfl ⟨rfl, rfl, rfl⟩ g143 dX3_sumByWays_48 ?_
  refine E_iload_n (pc := 51) hx 5 dX3_sumByWays_51 rfl rfl ?_
  refine I_iconst (pc := 52) hx 2 dX3_sumByWays_52 ?_
  refine I_cVI  (pc := 53) hx [.int (oI v3), .int (oI 2)] [] (ev_X7_get F (shR a1 5) (kt_2_5 h1) v3 2 w) vm_X7_get fc6 (kt_2_5 h1) (hx.ci (kt_2_5 h1) (Nat.le_of_ble_eq_true rfl)) g456 dX3_sumByWays_53 rfl rfl (Nat.le_of_ble_eq_true rfl) (Nat.le_of_ble_eq_true rfl) (Nat.le_of_ble_eq_true rfl) (fun r6 => ?_)
  refine E_istore (pc := 56) hx dX3_sumByWays_56 (Nat.le_of_ble_eq_true rfl) rfl ?_
  refine I_iconst (pc := 58) hx 0 dX3_sumByWays_58 ?_
  refine E_istore (pc := 59) hx dX3_sumByWays_59 (Nat.le_of_ble_eq_true rfl) rfl ?_
  refine En.sub [4, 5, 6, 7, 3, 2, 1, 0] rfl ?_
  exact l_X3_sumByWays_b61 F a0 h0 a1 h1 hx k7 hk7 k17 hk17 F v2 v3 r4 r5 r6 0 w
theorem l_X3_sumByWays_b17 {x : Cx} (F : Nat) (a0 : Nat) (h0 : shK a0 = 10 + 3) (a1 : Nat) (h1 : shK a1 = 10 + 2)  (hx : CxOK x RX3 cX3_sumByWays 8 2 0 none) (k7 : Int → aI → Option aI) (hk7 : ∀ (v2 : Int) (w : aI), En x jvV 0 0 7 [(0, .ref a0), (1, .ref a1), (2, .int (oI v2))] [] (cm w) (k7 v2 w)) : ∀ (n : Nat) (v2 : Int) (v3 : Int) (w : aI), En x jvV 0 0 17 [(0, .ref a0), (1, .ref a1), (2, .int (oI v2)), (3, .int (oI v3))] [] (cm w) (f_X3_sumByWays_b17 F a0 a1  k7 n v2 v3 w) := by
  intro n
  induction n with
  | zero => intro v2 v3 w; exact E_none
  | succ n ih => intro v2 v3 w; exact l_X3_sumByWays_b17_b F a0 h0 a1 h1  hx k7 hk7 _ ih v2 v3 w
set_option maxHeartbeats 4000000 in
set_option maxRecDepth 100000 in
theorem l_X3_sumByWays_b7_b {x : Cx} (F : Nat) (a0 : Nat) (h0 : shK a0 = 10 + 3) (a1 : Nat) (h1 : shK a1 = 10 + 2)  (hx : CxOK x RX3 cX3_sumByWays 8 2 0 none)  (k7 : Int → aI → Option aI) (hk7 : ∀ (v2 : Int) (w : aI), En x jvV 0 0 7 [(0, .ref a0), (1, .ref a1), (2, .int (oI v2))] [] (cm w) (k7 v2 w)) (v2 : Int) (w : aI) : En x jvV 0 0 7 [(0, .ref a0), (1, .ref a1), (2, .int (oI v2))] [] (cm w) (f_X3_sumByWays_b7_b F a0 a1   k7 v2 w) := by
  unfold f_X3_sumByWays_b7_b
  refine E_iload_n (pc := 7) hx 2 dX3_sumByWays_7 rfl rfl ?_
  refine E_aload_n (pc := 8) hx 1 dX3_sumByWays_8 rfl rfl ?_
  refine I_getI (pc := 9) hx 1 1 rfl fc2 h1 (hx.ci h1 (Nat.le_of_ble_eq_true rfl)) rfl ⟨rfl, rfl, rfl⟩ g126 dX3_sumByWays_9 ?_
  refine E_gd (fun hr2 => ?_)
  refine I_icmp_ge (pc := 12) hx 132 dX3_sumByWays_12 rfl ⟨hr2.1, hr2.2⟩ ?_ ?_
  · exact E_vret (pc := 132) hx dX3_sumByWays_132 rfl rfl (Nat.le_of_ble_eq_true rfl)
  refine I_iconst (pc := 15) hx 0 dX3_sumByWays_15 ?_
  refine E_istore_n (pc := 16) hx dX3_sumByWays_16 rfl (Nat.le_of_ble_eq_true rfl) rfl ?_
  refine En.sub [1, 2, 3, 0] rfl ?_
  exact l_X3_sumByWays_b17 F a0 h0 a1 h1 hx k7 hk7 F v2 0 w
theorem l_X3_sumByWays_b7 {x : Cx} (F : Nat) (a0 : Nat) (h0 : shK a0 = 10 + 3) (a1 : Nat) (h1 : shK a1 = 10 + 2)  (hx : CxOK x RX3 cX3_sumByWays 8 2 0 none)  : ∀ (n : Nat) (v2 : Int) (w : aI), En x jvV 0 0 7 [(0, .ref a0), (1, .ref a1), (2, .int (oI v2))] [] (cm w) (f_X3_sumByWays_b7 F a0 a1   n v2 w) := by
  intro n
  induction n with
  | zero => intro v2 w; exact E_none
  | succ n ih => intro v2 w; exact l_X3_sumByWays_b7_b F a0 h0 a1 h1  hx  _ ih v2 w
set_option maxHeartbeats 4000000 in
set_option maxRecDepth 100000 in
theorem ev_X3_sumByWays (F : Nat) (a0 : Nat) (h0 : shK a0 = 10 + 3) (a1 : Nat) (h1 : shK a1 = 10 + 2) (w : aI) : Ev yX3_sumByWays cX3_sumByWays 8 none 2 0 jvV [.ref a0, .ref a1] (cm w) (f_X3_sumByWays F a0 a1 w) := by
  refine Ev.of (own := RX3) (by decide +kernel) rfl (Nat.le_of_ble_eq_true rfl) (fun x hx => ?_)
  show En x jvV 0 0 0 [(0, .ref a0), (1, .ref a1)] [] (cm w) _
  unfold f_X3_sumByWays
  refine E_aload_n (pc := 0) hx 0 dX3_sumByWays_0 rfl rfl ?_
  refine E_aload_n (pc := 1) hx 1 dX3_sumByWays_1 rfl rfl ?_
  refine I_cVV  (pc := 2) hx [.ref a1] [] (ev_X3_layNone F a0 h0 a1 h1 w) vm_X3_layNone fc3 h0 (hx.ci h0 (Nat.le_of_ble_eq_true rfl)) g450 dX3_sumByWays_2 rfl rfl (Nat.le_of_ble_eq_true rfl) (Nat.le_of_ble_eq_true rfl) (Nat.le_of_ble_eq_true rfl) (fun w1 => ?_)
  refine I_iconst (pc := 5) hx 1 dX3_sumByWays_5 ?_
  refine E_istore_n (pc := 6) hx dX3_sumByWays_6 rfl (Nat.le_of_ble_eq_true rfl) rfl ?_
  refine En.sub [1, 2, 0] rfl ?_
  exact l_X3_sumByWays_b7 F a0 h0 a1 h1 hx F 1 w1
set_option maxHeartbeats 4000000 in
set_option maxRecDepth 100000 in
theorem l_X3_hasSameSums_b10_b {x : Cx} (F : Nat) (a0 : Nat) (h0 : shK a0 = 10 + 3) (a1 : Nat) (h1 : shK a1 = 10 + 3) (p2 : Int) (w : aI) (hx : CxOK x RX3 cX3_hasSameSums 5 1 0 (some .boolean)) (k2 : Int → Option Bool) (hk2 : ∀ (v3 : Int), En x (jvB w) 0 0 2 [(0, .ref a0), (1, .ref a1), (2, .int (oI p2)), (3, .int (oI v3))] [] (cm w) (k2 v3)) (k10 : Int → Int → Option Bool) (hk10 : ∀ (v3 : Int) (v4 : Int), En x (jvB w) 0 0 10 [(0, .ref a0), (1, .ref a1), (2, .int (oI p2)), (3, .int (oI v3)), (4, .int (oI v4))] [] (cm w) (k10 v3 v4)) (v3 : Int) (v4 : Int)  : En x (jvB w) 0 0 10 [(0, .ref a0), (1, .ref a1), (2, .int (oI p2)), (3, .int (oI v3)), (4, .int (oI v4))] [] (cm w) (f_X3_hasSameSums_b10_b F a0 a1 p2 w k2 k10 v3 v4) := by
  unfold f_X3_hasSameSums_b10_b
  refine E_iload (pc := 10) hx 4 dX3_hasSameSums_10 rfl ?_
  refine E_iload_n (pc := 12) hx 2 dX3_hasSameSums_12 rfl rfl ?_
  refine E_gd (fun hr2 => ?_)
  refine I_icmp_ge (pc := 13) hx 47 dX3_hasSameSums_13 rfl ⟨hr2.1, hr2.2⟩ ?_ ?_
  · refine I_iinc (pc := 47) hx 1 3 dX3_hasSameSums_47 rfl (Nat.le_of_ble_eq_true rfl) rfl ?_
    refine E_goto (pc := 50) hx 2 dX3_hasSameSums_50 rfl ?_
    refine En.sub [1, 2, 3, 0] rfl ?_
    exact hk2 (v3 + 1)
  refine E_aload_n (pc := 16) hx 0 dX3_hasSameSums_16 rfl rfl ?_
  refine E_getR (pc := 17) hx 1 fc3 h0 (hx.ci h0 (Nat.le_of_ble_eq_true rfl)) rfl ⟨rfl, rfl, rfl⟩ g110 dX3_hasSameSums_17 ?_
  refine E_iload_n (pc := 20) hx 3 dX3_hasSameSums_20 rfl rfl ?_
  refine E_iload (pc := 21) hx 4 dX3_hasSameSums_21 rfl ?_
  refine I_cVI  (pc := 23) hx [.int (oI v3), .int (oI v4)] [] (ev_X7_get F (shR a0 1) (kt_3_1 h0) v3 v4 w) vm_X7_get fc6 (kt_3_1 h0) (hx.ci (kt_3_1 h0) (Nat.le_of_ble_eq_true rfl)) g456 dX3_hasSameSums_23 rfl rfl (Nat.le_of_ble_eq_true rfl) (Nat.le_of_ble_eq_true rfl) (Nat.le_of_ble_eq_true rfl) (fun r3 => ?_)
  refine E_aload_n (pc := 26) hx 1 dX3_hasSameSums_26 rfl rfl ?_
  refine E_getR (pc := 27) hx 1 fc3 h1 (hx.ci h1 (Nat.le_of_ble_eq_true rfl)) rfl ⟨rfl, rfl, rfl⟩ g110 dX3_hasSameSums_27 ?_
  refine E_iload_n (pc := 30) hx 3 dX3_hasSameSums_30 rfl rfl ?_
  refine E_iload (pc := 31) hx 4 dX3_hasSameSums_31 rfl ?_
  refine I_cVI  (pc := 33) hx [.int (oI v3), .int (oI v4)] [.int (oI r3)] (ev_X7_get F (shR a1 1) (kt_3_1 h1) v3 v4 w) vm_X7_get fc6 (kt_3_1 h1) (hx.ci (kt_3_1 h1) (Nat.le_of_ble_eq_true rfl)) g456 dX3_hasSameSums_33 rfl rfl (Nat.le_of_ble_eq_true rfl) (Nat.le_of_ble_eq_true rfl) (Nat.le_of_ble_eq_true rfl) (fun r4 => ?_)
  refine E_gd (fun hr5 => ?_)
  refine I_icmp_eq (pc := 36) hx 41 dX3_hasSameSums_36 rfl ⟨hr5.1, hr5.2⟩ ?_ ?_
  · refine I_iinc (pc := 41) hx 1 4 dX3_hasSameSums_41 rfl (Nat.le_of_ble_eq_true rfl) rfl ?_
    refine E_goto (pc := 44) hx 10 dX3_hasSameSums_44 rfl ?_
    refine En.sub [1, 2, 3, 4, 0] rfl ?_
    exact hk10 v3 (v4 + 1)
  refine I_iconst (pc := 39) hx 0 dX3_hasSameSums_39 ?_
  exact E_zret (pc := 40) hx dX3_hasSameSums_40 rfl rfl rfl (Nat.le_of_ble_eq_true rfl)
theorem l_X3_hasSameSums_b10 {x : Cx} (F : Nat) (a0 : Nat) (h0 : shK a0 = 10 + 3) (a1 : Nat) (h1 : shK a1 = 10 + 3) (p2 : Int) (w : aI) (hx : CxOK x RX3 cX3_hasSameSums 5 1 0 (some .boolean)) (k2 : Int → Option Bool) (hk2 : ∀ (v3 : Int), En x (jvB w) 0 0 2 [(0, .ref a0), (1, .ref a1), (2, .int (oI p2)), (3, .int (oI v3))] [] (cm w) (k2 v3)) : ∀ (n : Nat) (v3 : Int) (v4 : Int), En x (jvB w) 0 0 10 [(0, .ref a0), (1, .ref a1), (2, .int (oI p2)), (3, .int (oI v3)), (4, .int (oI v4))] [] (cm w) (f_X3_hasSameSums_b10 F a0 a1 p2 w k2 n v3 v4) := by
  intro n
  induction n with
  | zero => intro v3 v4; exact E_none
  | succ n ih => intro v3 v4; exact l_X3_hasSameSums_b10_b F a0 h0 a1 h1 p2 w hx k2 hk2 _ ih v3 v4
set_option maxHeartbeats 4000000 in
set_option maxRecDepth 100000 in
theorem l_X3_hasSameSums_b2_b {x : Cx} (F : Nat) (a0 : Nat) (h0 : shK a0 = 10 + 3) (a1 : Nat) (h1 : shK a1 = 10 + 3) (p2 : Int) (w : aI) (hx : CxOK x RX3 cX3_hasSameSums 5 1 0 (some .boolean))  (k2 : Int → Option Bool) (hk2 : ∀ (v3 : Int), En x (jvB w) 0 0 2 [(0, .ref a0), (1, .ref a1), (2, .int (oI p2)), (3, .int (oI v3))] [] (cm w) (k2 v3)) (v3 : Int)  : En x (jvB w) 0 0 2 [(0, .ref a0), (1, .ref a1), (2, .int (oI p2)), (3, .int (oI v3))] [] (cm w) (f_X3_hasSameSums_b2_b F a0 a1 p2 w  k2 v3) := by
  unfold f_X3_hasSameSums_b2_b
  refine E_iload_n (pc := 2) hx 3 dX3_hasSameSums_2 rfl rfl ?_
  refine E_iload_n (pc := 3) hx 2 dX3_hasSameSums_3 rfl rfl ?_
  refine E_gd (fun hr1 => ?_)
  refine I_icmp_ge (pc := 4) hx 53 dX3_hasSameSums_4 rfl ⟨hr1.1, hr1.2⟩ ?_ ?_
  · refine I_iconst (pc := 53) hx 1 dX3_hasSameSums_53 ?_
    exact E_zret (pc := 54) hx dX3_hasSameSums_54 rfl rfl rfl (Nat.le_of_ble_eq_true rfl)
  refine I_iconst (pc := 7) hx 0 dX3_hasSameSums_7 ?_
  refine E_istore (pc := 8) hx dX3_hasSameSums_8 (Nat.le_of_ble_eq_true rfl) rfl ?_
  refine En.sub [1, 2, 3, 4, 0] rfl ?_
  exact l_X3_hasSameSums_b10 F a0 h0 a1 h1 p2 w hx k2 hk2 F v3 0
theorem l_X3_hasSameSums_b2 {x : Cx} (F : Nat) (a0 : Nat) (h0 : shK a0 = 10 + 3) (a1 : Nat) (h1 : shK a1 = 10 + 3) (p2 : Int) (w : aI) (hx : CxOK x RX3 cX3_hasSameSums 5 1 0 (some .boolean))  : ∀ (n : Nat) (v3 : Int), En x (jvB w) 0 0 2 [(0, .ref a0), (1, .ref a1), (2, .int (oI p2)), (3, .int (oI v3))] [] (cm w) (f_X3_hasSameSums_b2 F a0 a1 p2 w  n v3) := by
  intro n
  induction n with
  | zero => intro v3; exact E_none
  | succ n ih => intro v3; exact l_X3_hasSameSums_b2_b F a0 h0 a1 h1 p2 w hx  _ ih v3
set_option maxHeartbeats 4000000 in
set_option maxRecDepth 100000 in
theorem ev_X3_hasSameSums (F : Nat) (a0 : Nat) (h0 : shK a0 = 10 + 3) (a1 : Nat) (h1 : shK a1 = 10 + 3) (p2 : Int) (w : aI) : Ev yX3_hasSameSums cX3_hasSameSums 5 (some .boolean) 1 0 (jvB w) [.ref a0, .ref a1, .int (oI p2)] (cm w) (f_X3_hasSameSums F a0 a1 p2 w) := by
  refine Ev.of (own := RX3) (by decide +kernel) rfl (Nat.le_of_ble_eq_true rfl) (fun x hx => ?_)
  show En x (jvB w) 0 0 0 [(0, .ref a0), (1, .ref a1), (2, .int (oI p2))] [] (cm w) _
  unfold f_X3_hasSameSums
  refine I_iconst (pc := 0) hx 0 dX3_hasSameSums_0 ?_
  refine E_istore_n (pc := 1) hx dX3_hasSameSums_1 rfl (Nat.le_of_ble_eq_true rfl) rfl ?_
  refine En.sub [1, 2, 3, 0] rfl ?_
  exact l_X3_hasSameSums_b2 F a0 h0 a1 h1 p2 w hx F 0
set_option maxHeartbeats 4000000 in
set_option maxRecDepth 100000 in
theorem l_X9_kindOf_b28 {x : Cx} (F : Nat) (p0 : Int) (w : aI) (hx : CxOK x RX9 cX9_kindOf 1 0 0 (some .int))     : En x (jvI w) 0 0 28 [(0, .int (oI p0))] [] (cm w) (f_X9_kindOf_b28 F p0 w   ) := by
  unfold f_X9_kindOf_b28
  refine E_iload_n (pc := 28) hx 0 dX9_kindOf_28 rfl rfl ?_
  refine E_gd (fun hr3 => ?_)
  refine E_case (fun hc4 => ?_) (fun hc4 => ?_)
  · refine E_lsw (pc := 29) hx (off := 47) 76 dX9_kindOf_29 (by decide) (by rw [hc4]; rfl) rfl ?_
    refine I_iconst (pc := 76) hx 0 dX9_kindOf_76 ?_
    exact E_iret (pc := 77) hx dX9_kindOf_77 rfl rfl (Nat.le_of_ble_eq_true rfl)
  refine E_case (fun hc5 => ?_) (fun hc5 => ?_)
  · refine E_lsw (pc := 29) hx (off := 45) 74 dX9_kindOf_29 (by decide) (by rw [hc5]; rfl) rfl ?_
    refine I_iconst (pc := 74) hx 5 dX9_kindOf_74 ?_
    exact E_iret (pc := 75) hx dX9_kindOf_75 rfl rfl (Nat.le_of_ble_eq_true rfl)
  refine E_case (fun hc6 => ?_) (fun hc6 => ?_)
  · refine E_lsw (pc := 29) hx (off := 45) 74 dX9_kindOf_29 (by decide) (by rw [hc6]; rfl) rfl ?_
    refine I_iconst (pc := 74) hx 5 dX9_kindOf_74 ?_
    exact E_iret (pc := 75) hx dX9_kindOf_75 rfl rfl (Nat.le_of_ble_eq_true rfl)
  refine E_case (fun hc7 => ?_) (fun hc7 => ?_)
  · refine E_lsw (pc := 29) hx (off := 43) 72 dX9_kindOf_29 (by decide) (by rw [hc7]; rfl) rfl ?_
    refine I_iconst (pc := 72) hx 3 dX9_kindOf_72 ?_
    exact E_iret (pc := 73) hx dX9_kindOf_73 rfl rfl (Nat.le_of_ble_eq_true rfl)
  refine E_lsw (pc := 29) hx (off := 49) 78 dX9_kindOf_29 (by decide) (lswI_out _ hr3 _ (by simp only [List.forall_mem_cons, List.not_mem_nil, false_imp_iff, implies_true, and_true]; exact ⟨hc4, hc5, hc6, hc7⟩)) rfl ?_
  refine I_iconst (pc := 78) hx 4 dX9_kindOf_78 ?_
  exact E_iret (pc := 79) hx dX9_kindOf_79 rfl rfl (Nat.le_of_ble_eq_true rfl)
set_option maxHeartbeats 4000000 in
set_option maxRecDepth 100000 in
theorem l_X9_kindOf_b14 {x : Cx} (F : Nat) (p0 : Int) (w : aI) (hx : CxOK x RX9 cX9_kindOf 1 0 0 (some .int))     : En x (jvI w) 0 0 14 [(0, .int (oI p0))] [] (cm w) (f_X9_kindOf_b14 F p0 w   ) := by
  unfold f_X9_kindOf_b14
  refine E_iload_n (pc := 14) hx 0 dX9_kindOf_14 rfl rfl ?_
  refine I_bipush (pc := 15) hx 48 dX9_kindOf_15 rfl ?_
  refine E_gd (fun hr2 => ?_)
  refine I_icmp_lt (pc := 17) hx 28 dX9_kindOf_17 rfl ⟨hr2, (by decide)⟩ ?_ ?_
  · exact l_X9_kindOf_b28 F p0 w hx 
  refine E_iload_n (pc := 20) hx 0 dX9_kindOf_20 rfl rfl ?_
  refine I_bipush (pc := 21) hx 57 dX9_kindOf_21 rfl ?_
  refine I_icmp_gt (pc := 23) hx 28 dX9_kindOf_23 rfl ⟨hr2, (by decide)⟩ ?_ ?_
  · exact l_X9_kindOf_b28 F p0 w hx 
  refine I_iconst (pc := 26) hx 2 dX9_kindOf_26 ?_
  exact E_iret (pc := 27) hx dX9_kindOf_27 rfl rfl (Nat.le_of_ble_eq_true rfl)
set_option maxHeartbeats 4000000 in
set_option maxRecDepth 100000 in
theorem ev_X9_kindOf (F : Nat) (p0 : Int) (w : aI) : Ev yX9_kindOf cX9_kindOf 1 (some .int) 0 0 (jvI w) [.int (oI p0)] (cm w) (f_X9_kindOf F p0 w) := by
  refine Ev.of (own := RX9) (by decide +kernel) rfl (Nat.le_of_ble_eq_true rfl) (fun x hx => ?_)
  show En x (jvI w) 0 0 0 [(0, .int (oI p0))] [] (cm w) _
  unfold f_X9_kindOf
  refine E_iload_n (pc := 0) hx 0 dX9_kindOf_0 rfl rfl ?_
  refine I_bipush (pc := 1) hx 97 dX9_kindOf_1 rfl ?_
  refine E_gd (fun hr1 => ?_)
  refine I_icmp_lt (pc := 3) hx 14 dX9_kindOf_3 rfl ⟨hr1, (by decide)⟩ ?_ ?_
  · exact l_X9_kindOf_b14 F p0 w hx 
  refine E_iload_n (pc := 6) hx 0 dX9_kindOf_6 rfl rfl ?_
  refine I_bipush (pc := 7) hx 122 dX9_kindOf_7 rfl ?_
  refine I_icmp_gt (pc := 9) hx 14 dX9_kindOf_9 rfl ⟨hr1, (by decide)⟩ ?_ ?_
  · exact l_X9_kindOf_b14 F p0 w hx 
  refine I_iconst (pc := 12) hx 1 dX9_kindOf_12 ?_
  exact E_iret (pc := 13) hx dX9_kindOf_13 rfl rfl (Nat.le_of_ble_eq_true rfl)
set_option maxHeartbeats 4000000 in
set_option maxRecDepth 100000 in
theorem l_X9_step_b214_b {x : Cx} (F : Nat) (a0 : Nat) (h0 : shK a0 = 10 + 7)  (hx : CxOK x RX9 cX9_step 3 1 0 none)  (k214 : Int → aI → Option aI) (hk214 : ∀ (v2 : Int) (w : aI), En x jvV 0 0 214 [(0, .ref a0), (2, .int (oI v2))] [] (cm w) (k214 v2 w)) (v2 : Int) (w : aI) : En x jvV 0 0 214 [(0, .ref a0), (2, .int (oI v2))] [] (cm w) (f_X9_step_b214_b F a0   k214 v2 w) := by
  unfold f_X9_step_b214_b
  refine E_iload_n (pc := 214) hx 1 dX9_step_214 rfl rfl ?_
  refine E_aload_n (pc := 215) hx 0 dX9_step_215 rfl rfl ?_
  refine I_getI (pc := 216) hx 2 2 rfl fc7 h0 (hx.ci h0 (Nat.le_of_ble_eq_true rfl)) rfl ⟨rfl, rfl, rfl⟩ g204 dX9_step_216 ?_
  refine E_gd (fun hr14 => ?_)
  refine I_icmp_ge (pc := 219) hx 259 dX9_step_219 rfl ⟨hr14.1, hr14.2⟩ ?_ ?_
  · exact E_vret (pc := 259) hx dX9_step_259 rfl rfl (Nat.le_of_ble_eq_true rfl)
  refine E_aload_n (pc := 222) hx 0 dX9_step_222 rfl rfl ?_
  refine I_getI (pc := 223) hx 3 3 rfl fc7 h0 (hx.ci h0 (Nat.le_of_ble_eq_true rfl)) rfl ⟨rfl, rfl, rfl⟩ g206 dX9_step_223 ?_
  refine I_iconst (pc := 226) hx 2 dX9_step_226 ?_
  refine E_gd (fun hr15 => ?_)
  refine I_icmp_ne (pc := 227) hx 259 dX9_step_227 rfl ⟨hr15, (by decide)⟩ ?_ ?_
  · exact E_vret (pc := 259) hx dX9_step_259 rfl rfl (Nat.le_of_ble_eq_true rfl)
  refine E_aload_n (pc := 230) hx 0 dX9_step_230 rfl rfl ?_
  refine E_aload_n (pc := 231) hx 0 dX9_step_231 rfl rfl ?_
  refine I_getI (pc := 232) hx 4 4 rfl fc7 h0 (hx.ci h0 (Nat.le_of_ble_eq_true rfl)) rfl ⟨rfl, rfl, rfl⟩ g207 dX9_step_232 ?_
  refine I_bipush (pc := 235) hx 10 dX9_step_235 rfl ?_
  refine I_imul (pc := 237) hx dX9_step_237 ?_
  refine E_aload_n (pc := 238) hx 0 dX9_step_238 rfl rfl ?_
  refine E_getR (pc := 239) hx 0 fc7 h0 (hx.ci h0 (Nat.le_of_ble_eq_true rfl)) rfl ⟨rfl, rfl, rfl⟩ g202 dX9_step_239 ?_
  refine E_iload_n (pc := 242) hx 1 dX9_step_242 rfl rfl ?_
  refine I_cVI  (pc := 243) hx [.int (oI v2)] [.int (oI ((w a0 4) * 10)), .ref a0] (ev_X0_get F (shR a0 0) (kt_7_0 h0) v2 w) vm_X0_get fc0 (kt_7_0 h0) (hx.ci (kt_7_0 h0) (Nat.le_of_ble_eq_true rfl)) g348 dX9_step_243 rfl rfl (Nat.le_of_ble_eq_true rfl) (Nat.le_of_ble_eq_true rfl) (Nat.le_of_ble_eq_true rfl) (fun r16 => ?_)
  refine I_iadd (pc := 246) hx dX9_step_246 ?_
  refine I_bipush (pc := 247) hx 48 dX9_step_247 rfl ?_
  refine I_isub (pc := 249) hx dX9_step_249 ?_
  refine I_put (pc := 250) hx 4 4 rfl .int tyX9 fc7 tyX9_ok h0 (hx.ci h0 (Nat.le_of_ble_eq_true rfl)) rfl ⟨rfl, rfl, rfl, rfl, pfd_I⟩ rfl rfl g207 dX9_step_250 (fun w17 => ?_)
  refine I_iinc (pc := 253) hx 1 1 dX9_step_253 rfl (Nat.le_of_ble_eq_true rfl) rfl ?_
  refine E_goto (pc := 256) hx 214 dX9_step_256 rfl ?_
  refine En.sub [1, 0] rfl ?_
  exact hk214 (v2 + 1) w17
theorem l_X9_step_b214 {x : Cx} (F : Nat) (a0 : Nat) (h0 : shK a0 = 10 + 7)  (hx : CxOK x RX9 cX9_step 3 1 0 none)  : ∀ (n : Nat) (v2 : Int) (w : aI), En x jvV 0 0 214 [(0, .ref a0), (2, .int (oI v2))] [] (cm w) (f_X9_step_b214 F a0   n v2 w) := by
  intro n
  induction n with
  | zero => intro v2 w; exact E_none
  | succ n ih => intro v2 w; exact l_X9_step_b214_b F a0 h0  hx  _ ih v2 w
set_option maxHeartbeats 4000000 in
set_option maxRecDepth 100000 in
theorem l_X9_step_b196 {x : Cx} (F : Nat) (a0 : Nat) (h0 : shK a0 = 10 + 7)  (hx : CxOK x RX9 cX9_step 3 1 0 none)   (z0 : Int) (z1 : Int) (w : aI) : En x jvV 0 0 196 [(0, .ref a0)] [.int (oI z0), .int (oI z1)] (cm w) (f_X9_step_b196 F a0    z0 z1 w) := by
  unfold f_X9_step_b196
  refine E_gd (fun hr19 => ?_)
  refine I_icmp_le (pc := 196) hx 204 dX9_step_196 rfl ⟨hr19.1, hr19.2⟩ ?_ ?_
  · refine E_aload_n (pc := 204) hx 0 dX9_step_204 rfl rfl ?_
    refine I_iconst (pc := 205) hx 0 dX9_step_205 ?_
    refine I_put (pc := 206) hx 4 4 rfl .int tyX9 fc7 tyX9_ok h0 (hx.ci h0 (Nat.le_of_ble_eq_true rfl)) rfl ⟨rfl, rfl, rfl, rfl, pfd_I⟩ rfl rfl g207 dX9_step_206 (fun w20 => ?_)
    refine E_aload_n (pc := 209) hx 0 dX9_step_209 rfl rfl ?_
    refine I_getI (pc := 210) hx 1 1 rfl fc7 h0 (hx.ci h0 (Nat.le_of_ble_eq_true rfl)) rfl ⟨rfl, rfl, rfl⟩ g203 dX9_step_210 ?_
    refine I_ltv (fun v2_21 => ?_)
    refine E_istore_n (pc := 213) hx dX9_step_213 rfl (Nat.le_of_ble_eq_true rfl) rfl ?_
    refine En.sub [1, 0] rfl ?_
    exact l_X9_step_b214 F a0 h0 hx F v2_21 w20
  refine E_aload_n (pc := 199) hx 0 dX9_step_199 rfl rfl ?_
  refine I_iconst (pc := 200) hx 4 dX9_step_200 ?_
  refine I_put (pc := 201) hx 3 3 rfl .int tyX9 fc7 tyX9_ok h0 (hx.ci h0 (Nat.le_of_ble_eq_true rfl)) rfl ⟨rfl, rfl, rfl, rfl, pfd_I⟩ rfl rfl g206 dX9_step_201 (fun w22 => ?_)
  refine E_aload_n (pc := 204) hx 0 dX9_step_204 rfl rfl ?_
  refine I_iconst (pc := 205) hx 0 dX9_step_205 ?_
  refine I_put (pc := 206) hx 4 4 rfl .int tyX9 fc7 tyX9_ok h0 (hx.ci h0 (Nat.le_of_ble_eq_true rfl)) rfl ⟨rfl, rfl, rfl, rfl, pfd_I⟩ rfl rfl g207 dX9_step_206 (fun w23 => ?_)
  refine E_aload_n (pc := 209) hx 0 dX9_step_209 rfl rfl ?_
  refine I_getI (pc := 210) hx 1 1 rfl fc7 h0 (hx.ci h0 (Nat.le_of_ble_eq_true rfl)) rfl ⟨rfl, rfl, rfl⟩ g203 dX9_step_210 ?_
  refine I_ltv (fun v2_24 => ?_)
  refine E_istore_n (pc := 213) hx dX9_step_213 rfl (Nat.le_of_ble_eq_true rfl) rfl ?_
  refine En.sub [1, 0] rfl ?_
  exact l_X9_step_b214 F a0 h0 hx F v2_24 w23
set_option maxHeartbeats 4000000 in
set_option maxRecDepth 100000 in
theorem l_X9_step_b169 {x : Cx} (F : Nat) (a0 : Nat) (h0 : shK a0 = 10 + 7)  (hx : CxOK x RX9 cX9_step 3 1 0 none)   (v1 : Int) (w : aI) : En x jvV 0 0 169 [(0, .ref a0), (1, .int (oI v1))] [] (cm w) (f_X9_step_b169 F a0    v1 w) := by
  unfold f_X9_step_b169
  refine E_iload_n (pc := 169) hx 1 dX9_step_169 rfl rfl ?_
  refine E_gd (fun hr11 => ?_)
  refine I_if_eq (pc := 170) hx 204 dX9_step_170 rfl hr11 ?_ ?_
  · refine E_aload_n (pc := 204) hx 0 dX9_step_204 rfl rfl ?_
    refine I_iconst (pc := 205) hx 0 dX9_step_205 ?_
    refine I_put (pc := 206) hx 4 4 rfl .int tyX9 fc7 tyX9_ok h0 (hx.ci h0 (Nat.le_of_ble_eq_true rfl)) rfl ⟨rfl, rfl, rfl, rfl, pfd_I⟩ rfl rfl g207 dX9_step_206 (fun w12 => ?_)
    refine E_aload_n (pc := 209) hx 0 dX9_step_209 rfl rfl ?_
    refine I_getI (pc := 210) hx 1 1 rfl fc7 h0 (hx.ci h0 (Nat.le_of_ble_eq_true rfl)) rfl ⟨rfl, rfl, rfl⟩ g203 dX9_step_210 ?_
    refine I_ltv (fun v2_13 => ?_)
    refine E_istore_n (pc := 213) hx dX9_step_213 rfl (Nat.le_of_ble_eq_true rfl) rfl ?_
    refine En.sub [1, 0] rfl ?_
    exact l_X9_step_b214 F a0 h0 hx F v2_13 w12
  refine E_aload_n (pc := 173) hx 0 dX9_step_173 rfl rfl ?_
  refine I_getI (pc := 174) hx 2 2 rfl fc7 h0 (hx.ci h0 (Nat.le_of_ble_eq_true rfl)) rfl ⟨rfl, rfl, rfl⟩ g204 dX9_step_174 ?_
  refine E_aload_n (pc := 177) hx 0 dX9_step_177 rfl rfl ?_
  refine I_getI (pc := 178) hx 1 1 rfl fc7 h0 (hx.ci h0 (Nat.le_of_ble_eq_true rfl)) rfl ⟨rfl, rfl, rfl⟩ g203 dX9_step_178 ?_
  refine I_isub (pc := 181) hx dX9_step_181 ?_
  refine E_aload_n (pc := 182) hx 0 dX9_step_182 rfl rfl ?_
  refine I_getI (pc := 183) hx 3 3 rfl fc7 h0 (hx.ci h0 (Nat.le_of_ble_eq_true rfl)) rfl ⟨rfl, rfl, rfl⟩ g206 dX9_step_183 ?_
  refine I_iconst (pc := 186) hx 1 dX9_step_186 ?_
  refine E_gd (fun hr18 => ?_)
  refine I_icmp_ne (pc := 187) hx 195 dX9_step_187 rfl ⟨hr18, (by decide)⟩ ?_ ?_
  · refine I_iconst (pc := 195) hx 3 dX9_step_195 ?_
    refine En.sub [0] rfl ?_
    exact l_X9_step_b196 F a0 h0 hx 3 ((w a0 2) - (w a0 1)) w
  refine I_bipush (pc := 190) hx 8 dX9_step_190 rfl ?_
  refine E_goto (pc := 192) hx 196 dX9_step_192 rfl ?_
  refine En.sub [0] rfl ?_
  exact l_X9_step_b196 F a0 h0 hx 8 ((w a0 2) - (w a0 1)) w
set_option maxHeartbeats 4000000 in
set_option maxRecDepth 100000 in
theorem l_X9_step_b117_b {x : Cx} (F : Nat) (a0 : Nat) (h0 : shK a0 = 10 + 7)  (hx : CxOK x RX9 cX9_step 3 1 0 none)  (k117 : Int → aI → Option aI) (hk117 : ∀ (v1 : Int) (w : aI), En x jvV 0 0 117 [(0, .ref a0), (1, .int (oI v1))] [] (cm w) (k117 v1 w)) (v1 : Int) (w : aI) : En x jvV 0 0 117 [(0, .ref a0), (1, .int (oI v1))] [] (cm w) (f_X9_step_b117_b F a0   k117 v1 w) := by
  unfold f_X9_step_b117_b
  refine E_iload_n (pc := 117) hx 1 dX9_step_117 rfl rfl ?_
  refine E_gd (fun hr10 => ?_)
  refine I_if_eq (pc := 118) hx 169 dX9_step_118 rfl hr10 ?_ ?_
  · exact l_X9_step_b169 F a0 h0 hx v1 w
  refine E_aload_n (pc := 121) hx 0 dX9_step_121 rfl rfl ?_
  refine I_getI (pc := 122) hx 2 2 rfl fc7 h0 (hx.ci h0 (Nat.le_of_ble_eq_true rfl)) rfl ⟨rfl, rfl, rfl⟩ g204 dX9_step_122 ?_
  refine E_aload_n (pc := 125) hx 0 dX9_step_125 rfl rfl ?_
  refine E_getR (pc := 126) hx 0 fc7 h0 (hx.ci h0 (Nat.le_of_ble_eq_true rfl)) rfl ⟨rfl, rfl, rfl⟩ g202 dX9_step_126 ?_
  refine I_cVI  (pc := 129) hx [] [.int (oI (w a0 2))] (ev_X0_size F (shR a0 0) (kt_7_0 h0) w) vm_X0_size fc0 (kt_7_0 h0) (hx.ci (kt_7_0 h0) (Nat.le_of_ble_eq_true rfl)) g344 dX9_step_129 rfl rfl (Nat.le_of_ble_eq_true rfl) (Nat.le_of_ble_eq_true rfl) (Nat.le_of_ble_eq_true rfl) (fun r25 => ?_)
  refine E_gd (fun hr26 => ?_)
  refine I_icmp_ge (pc := 132) hx 169 dX9_step_132 rfl ⟨hr26.1, hr26.2⟩ ?_ ?_
  · exact l_X9_step_b169 F a0 h0 hx v1 w
  refine E_aload_n (pc := 135) hx 0 dX9_step_135 rfl rfl ?_
  refine E_getR (pc := 136) hx 0 fc7 h0 (hx.ci h0 (Nat.le_of_ble_eq_true rfl)) rfl ⟨rfl, rfl, rfl⟩ g202 dX9_step_136 ?_
  refine E_aload_n (pc := 139) hx 0 dX9_step_139 rfl rfl ?_
  refine I_getI (pc := 140) hx 2 2 rfl fc7 h0 (hx.ci h0 (Nat.le_of_ble_eq_true rfl)) rfl ⟨rfl, rfl, rfl⟩ g204 dX9_step_140 ?_
  refine I_cVI  (pc := 143) hx [.int (oI (w a0 2))] [] (ev_X0_get F (shR a0 0) (kt_7_0 h0) (w a0 2) w) vm_X0_get fc0 (kt_7_0 h0) (hx.ci (kt_7_0 h0) (Nat.le_of_ble_eq_true rfl)) g348 dX9_step_143 rfl rfl (Nat.le_of_ble_eq_true rfl) (Nat.le_of_ble_eq_true rfl) (Nat.le_of_ble_eq_true rfl) (fun r27 => ?_)
  refine I_cSI  (pc := 146) hx [.int (oI r27)] [] (ev_X9_kindOf F r27 w) sm_X9_kindOf g352 dX9_step_146 rfl rfl (Nat.le_of_ble_eq_true rfl) (Nat.le_of_ble_eq_true rfl) (Nat.le_of_ble_eq_true rfl) (fun r28 => ?_)
  refine E_aload_n (pc := 149) hx 0 dX9_step_149 rfl rfl ?_
  refine I_getI (pc := 150) hx 3 3 rfl fc7 h0 (hx.ci h0 (Nat.le_of_ble_eq_true rfl)) rfl ⟨rfl, rfl, rfl⟩ g206 dX9_step_150 ?_
  refine E_gd (fun hr29 => ?_)
  refine I_icmp_ne (pc := 153) hx 169 dX9_step_153 rfl ⟨hr29.1, hr29.2⟩ ?_ ?_
  · exact l_X9_step_b169 F a0 h0 hx v1 w
  refine E_aload_n (pc := 156) hx 0 dX9_step_156 rfl rfl ?_
  refine E_dup (pc := 157) hx dX9_step_157 rfl ?_
  refine I_getI (pc := 158) hx 2 2 rfl fc7 h0 (hx.ci h0 (Nat.le_of_ble_eq_true rfl)) rfl ⟨rfl, rfl, rfl⟩ g204 dX9_step_158 ?_
  refine I_iconst (pc := 161) hx 1 dX9_step_161 ?_
  refine I_iadd (pc := 162) hx dX9_step_162 ?_
  refine I_put (pc := 163) hx 2 2 rfl .int tyX9 fc7 tyX9_ok h0 (hx.ci h0 (Nat.le_of_ble_eq_true rfl)) rfl ⟨rfl, rfl, rfl, rfl, pfd_I⟩ rfl rfl g204 dX9_step_163 (fun w30 => ?_)
  refine E_goto (pc := 166) hx 117 dX9_step_166 rfl ?_
  exact hk117 v1 w30
theorem l_X9_step_b117 {x : Cx} (F : Nat) (a0 : Nat) (h0 : shK a0 = 10 + 7)  (hx : CxOK x RX9 cX9_step 3 1 0 none)  : ∀ (n : Nat) (v1 : Int) (w : aI), En x jvV 0 0 117 [(0, .ref a0), (1, .int (oI v1))] [] (cm w) (f_X9_step_b117 F a0   n v1 w) := by
  intro n
  induction n with
  | zero => intro v1 w; exact E_none
  | succ n ih => intro v1 w; exact l_X9_step_b117_b F a0 h0  hx  _ ih v1 w
set_option maxHeartbeats 4000000 in
set_option maxRecDepth 100000 in
theorem l_X9_step_b92 {x : Cx} (F : Nat) (a0 : Nat) (h0 : shK a0 = 10 + 7)  (hx : CxOK x RX9 cX9_step 3 1 0 none)   (z0 : Int) (z1 : Nat) (hz1 : shK z1 = 10 + 7) (w : aI) : En x jvV 0 0 92 [(0, .ref a0)] [.int (oI z0), .ref z1] (cm w) (f_X9_step_b92 F a0    z0 z1 w) := by
  unfold f_X9_step_b92
  refine I_put (pc := 92) hx 2 2 rfl .int tyX9 fc7 tyX9_ok hz1 (hx.ci hz1 (Nat.le_of_ble_eq_true rfl)) rfl ⟨rfl, rfl, rfl, rfl, pfd_I⟩ rfl rfl g204 dX9_step_92 (fun w8 => ?_)
  refine E_aload_n (pc := 95) hx 0 dX9_step_95 rfl rfl ?_
  refine I_getI (pc := 96) hx 3 3 rfl fc7 h0 (hx.ci h0 (Nat.le_of_ble_eq_true rfl)) rfl ⟨rfl, rfl, rfl⟩ g206 dX9_step_96 ?_
  refine I_iconst (pc := 99) hx 1 dX9_step_99 ?_
  refine E_gd (fun hr9 => ?_)
  refine I_icmp_eq (pc := 100) hx 111 dX9_step_100 rfl ⟨hr9, (by decide)⟩ ?_ ?_
  · refine I_iconst (pc := 111) hx 1 dX9_step_111 ?_
    refine E_goto (pc := 112) hx 116 dX9_step_112 rfl ?_
    refine E_istore_n (pc := 116) hx dX9_step_116 rfl (Nat.le_of_ble_eq_true rfl) rfl ?_
    refine En.sub [1, 0] rfl ?_
    exact l_X9_step_b117 F a0 h0 hx F 1 w8
  refine E_aload_n (pc := 103) hx 0 dX9_step_103 rfl rfl ?_
  refine I_getI (pc := 104) hx 3 3 rfl fc7 h0 (hx.ci h0 (Nat.le_of_ble_eq_true rfl)) rfl ⟨rfl, rfl, rfl⟩ g206 dX9_step_104 ?_
  refine I_iconst (pc := 107) hx 2 dX9_step_107 ?_
  refine I_icmp_ne (pc := 108) hx 115 dX9_step_108 rfl ⟨hr9, (by decide)⟩ ?_ ?_
  · refine I_iconst (pc := 115) hx 0 dX9_step_115 ?_
    refine E_istore_n (pc := 116) hx dX9_step_116 rfl (Nat.le_of_ble_eq_true rfl) rfl ?_
    refine En.sub [1, 0] rfl ?_
    exact l_X9_step_b117 F a0 h0 hx F 0 w8
  refine I_iconst (pc := 111) hx 1 dX9_step_111 ?_
  refine E_goto (pc := 112) hx 116 dX9_step_112 rfl ?_
  refine E_istore_n (pc := 116) hx dX9_step_116 rfl (Nat.le_of_ble_eq_true rfl) rfl ?_
  refine En.sub [1, 0] rfl ?_
  exact l_X9_step_b117 F a0 h0 hx F 1 w8
set_option maxHeartbeats 4000000 in
set_option maxRecDepth 100000 in
theorem l_X9_step_b53 {x : Cx} (F : Nat) (a0 : Nat) (h0 : shK a0 = 10 + 7)  (hx : CxOK x RX9 cX9_step 3 1 0 none)    (w : aI) : En x jvV 0 0 53 [(0, .ref a0)] [] (cm w) (f_X9_step_b53 F a0    w) := by
  unfold f_X9_step_b53
  refine E_aload_n (pc := 53) hx 0 dX9_step_53 rfl rfl ?_
  refine E_aload_n (pc := 54) hx 0 dX9_step_54 rfl rfl ?_
  refine E_getR (pc := 55) hx 0 fc7 h0 (hx.ci h0 (Nat.le_of_ble_eq_true rfl)) rfl ⟨rfl, rfl, rfl⟩ g202 dX9_step_55 ?_
  refine E_aload_n (pc := 58) hx 0 dX9_step_58 rfl rfl ?_
  refine I_getI (pc := 59) hx 1 1 rfl fc7 h0 (hx.ci h0 (Nat.le_of_ble_eq_true rfl)) rfl ⟨rfl, rfl, rfl⟩ g203 dX9_step_59 ?_
  refine I_cVI  (pc := 62) hx [.int (oI (w a0 1))] [.ref a0] (ev_X0_get F (shR a0 0) (kt_7_0 h0) (w a0 1) w) vm_X0_get fc0 (kt_7_0 h0) (hx.ci (kt_7_0 h0) (Nat.le_of_ble_eq_true rfl)) g348 dX9_step_62 rfl rfl (Nat.le_of_ble_eq_true rfl) (Nat.le_of_ble_eq_true rfl) (Nat.le_of_ble_eq_true rfl) (fun r4 => ?_)
  refine I_cSI  (pc := 65) hx [.int (oI r4)] [.ref a0] (ev_X9_kindOf F r4 w) sm_X9_kindOf g352 dX9_step_65 rfl rfl (Nat.le_of_ble_eq_true rfl) (Nat.le_of_ble_eq_true rfl) (Nat.le_of_ble_eq_true rfl) (fun r5 => ?_)
  refine I_put (pc := 68) hx 3 3 rfl .int tyX9 fc7 tyX9_ok h0 (hx.ci h0 (Nat.le_of_ble_eq_true rfl)) rfl ⟨rfl, rfl, rfl, rfl, pfd_I⟩ rfl rfl g206 dX9_step_68 (fun w6 => ?_)
  refine E_aload_n (pc := 71) hx 0 dX9_step_71 rfl rfl ?_
  refine E_aload_n (pc := 72) hx 0 dX9_step_72 rfl rfl ?_
  refine I_getI (pc := 73) hx 3 3 rfl fc7 h0 (hx.ci h0 (Nat.le_of_ble_eq_true rfl)) rfl ⟨rfl, rfl, rfl⟩ g206 dX9_step_73 ?_
  refine E_gd (fun hr7 => ?_)
  refine I_if_ne (pc := 76) hx 86 dX9_step_76 rfl hr7 ?_ ?_
  · refine E_aload_n (pc := 86) hx 0 dX9_step_86 rfl rfl ?_
    refine I_getI (pc := 87) hx 1 1 rfl fc7 h0 (hx.ci h0 (Nat.le_of_ble_eq_true rfl)) rfl ⟨rfl, rfl, rfl⟩ g203 dX9_step_87 ?_
    refine I_iconst (pc := 90) hx 1 dX9_step_90 ?_
    refine I_iadd (pc := 91) hx dX9_step_91 ?_
    exact l_X9_step_b92 F a0 h0 hx ((w6 a0 1) + 1) a0 h0 w6
  refine E_aload_n (pc := 79) hx 0 dX9_step_79 rfl rfl ?_
  refine I_getI (pc := 80) hx 1 1 rfl fc7 h0 (hx.ci h0 (Nat.le_of_ble_eq_true rfl)) rfl ⟨rfl, rfl, rfl⟩ g203 dX9_step_80 ?_
  refine E_goto (pc := 83) hx 92 dX9_step_83 rfl ?_
  exact l_X9_step_b92 F a0 h0 hx (w6 a0 1) a0 h0 w6
set_option maxHeartbeats 4000000 in
set_option maxRecDepth 100000 in
theorem l_X9_step_b8_b {x : Cx} (F : Nat) (a0 : Nat) (h0 : shK a0 = 10 + 7)  (hx : CxOK x RX9 cX9_step 3 1 0 none)  (k8 : aI → Option aI) (hk8 : ∀  (w : aI), En x jvV 0 0 8 [(0, .ref a0)] [] (cm w) (k8 w))  (w : aI) : En x jvV 0 0 8 [(0, .ref a0)] [] (cm w) (f_X9_step_b8_b F a0   k8 w) := by
  unfold f_X9_step_b8_b
  refine E_aload_n (pc := 8) hx 0 dX9_step_8 rfl rfl ?_
  refine I_getI (pc := 9) hx 1 1 rfl fc7 h0 (hx.ci h0 (Nat.le_of_ble_eq_true rfl)) rfl ⟨rfl, rfl, rfl⟩ g203 dX9_step_9 ?_
  refine E_aload_n (pc := 12) hx 0 dX9_step_12 rfl rfl ?_
  refine E_getR (pc := 13) hx 0 fc7 h0 (hx.ci h0 (Nat.le_of_ble_eq_true rfl)) rfl ⟨rfl, rfl, rfl⟩ g202 dX9_step_13 ?_
  refine I_cVI  (pc := 16) hx [] [.int (oI (w a0 1))] (ev_X0_size F (shR a0 0) (kt_7_0 h0) w) vm_X0_size fc0 (kt_7_0 h0) (hx.ci (kt_7_0 h0) (Nat.le_of_ble_eq_true rfl)) g344 dX9_step_16 rfl rfl (Nat.le_of_ble_eq_true rfl) (Nat.le_of_ble_eq_true rfl) (Nat.le_of_ble_eq_true rfl) (fun r2 => ?_)
  refine E_gd (fun hr3 => ?_)
  refine I_icmp_ge (pc := 19) hx 53 dX9_step_19 rfl ⟨hr3.1, hr3.2⟩ ?_ ?_
  · exact l_X9_step_b53 F a0 h0 hx w
  refine E_aload_n (pc := 22) hx 0 dX9_step_22 rfl rfl ?_
  refine E_getR (pc := 23) hx 0 fc7 h0 (hx.ci h0 (Nat.le_of_ble_eq_true rfl)) rfl ⟨rfl, rfl, rfl⟩ g202 dX9_step_23 ?_
  refine E_aload_n (pc := 26) hx 0 dX9_step_26 rfl rfl ?_
  refine I_getI (pc := 27) hx 1 1 rfl fc7 h0 (hx.ci h0 (Nat.le_of_ble_eq_true rfl)) rfl ⟨rfl, rfl, rfl⟩ g203 dX9_step_27 ?_
  refine I_cVI  (pc := 30) hx [.int (oI (w a0 1))] [] (ev_X0_get F (shR a0 0) (kt_7_0 h0) (w a0 1) w) vm_X0_get fc0 (kt_7_0 h0) (hx.ci (kt_7_0 h0) (Nat.le_of_ble_eq_true rfl)) g348 dX9_step_30 rfl rfl (Nat.le_of_ble_eq_true rfl) (Nat.le_of_ble_eq_true rfl) (Nat.le_of_ble_eq_true rfl) (fun r31 => ?_)
  refine I_cSI  (pc := 33) hx [.int (oI r31)] [] (ev_X9_kindOf F r31 w) sm_X9_kindOf g352 dX9_step_33 rfl rfl (Nat.le_of_ble_eq_true rfl) (Nat.le_of_ble_eq_true rfl) (Nat.le_of_ble_eq_true rfl) (fun r32 => ?_)
  refine I_iconst (pc := 36) hx 5 dX9_step_36 ?_
  refine E_gd (fun hr33 => ?_)
  refine I_icmp_ne (pc := 37) hx 53 dX9_step_37 rfl ⟨hr33, (by decide)⟩ ?_ ?_
  · exact l_X9_step_b53 F a0 h0 hx w
  refine E_aload_n (pc := 40) hx 0 dX9_step_40 rfl rfl ?_
  refine E_dup (pc := 41) hx dX9_step_41 rfl ?_
  refine I_getI (pc := 42) hx 1 1 rfl fc7 h0 (hx.ci h0 (Nat.le_of_ble_eq_true rfl)) rfl ⟨rfl, rfl, rfl⟩ g203 dX9_step_42 ?_
  refine I_iconst (pc := 45) hx 1 dX9_step_45 ?_
  refine I_iadd (pc := 46) hx dX9_step_46 ?_
  refine I_put (pc := 47) hx 1 1 rfl .int tyX9 fc7 tyX9_ok h0 (hx.ci h0 (Nat.le_of_ble_eq_true rfl)) rfl ⟨rfl, rfl, rfl, rfl, pfd_I⟩ rfl rfl g203 dX9_step_47 (fun w34 => ?_)
  refine E_goto (pc := 50) hx 8 dX9_step_50 rfl ?_
  exact hk8 w34
theorem l_X9_step_b8 {x : Cx} (F : Nat) (a0 : Nat) (h0 : shK a0 = 10 + 7)  (hx : CxOK x RX9 cX9_step 3 1 0 none)  : ∀ (n : Nat) (w : aI), En x jvV 0 0 8 [(0, .ref a0)] [] (cm w) (f_X9_step_b8 F a0   n w) := by
  intro n
  induction n with
  | zero => intro  w; exact E_none
  | succ n ih => intro  w; exact l_X9_step_b8_b F a0 h0  hx  _ ih  w
set_option maxHeartbeats 4000000 in
set_option maxRecDepth 100000 in
theorem ev_X9_step (F : Nat) (a0 : Nat) (h0 : shK a0 = 10 + 7) (w : aI) : Ev yX9_step cX9_step 3 none 1 0 jvV [.ref a0] (cm w) (f_X9_step F a0 w) := by
  refine Ev.of (own := RX9) (by decide +kernel) rfl (Nat.le_of_ble_eq_true rfl) (fun x hx => ?_)
  show En x jvV 0 0 0 [(0, .ref a0)] [] (cm w) _
  unfold f_X9_step
  refine E_aload_n (pc := 0) hx 0 dX9_step_0 rfl rfl ?_
  refine E_aload_n (pc := 1) hx 0 dX9_step_1 rfl rfl ?_
  refine I_getI (pc := 2) hx 2 2 rfl fc7 h0 (hx.ci h0 (Nat.le_of_ble_eq_true rfl)) rfl ⟨rfl, rfl, rfl⟩ g204 dX9_step_2 ?_
  refine I_put (pc := 5) hx 1 1 rfl .int tyX9 fc7 tyX9_ok h0 (hx.ci h0 (Nat.le_of_ble_eq_true rfl)) rfl ⟨rfl, rfl, rfl, rfl, pfd_I⟩ rfl rfl g203 dX9_step_5 (fun w1 => ?_)
  exact l_X9_step_b8 F a0 h0 hx F w1
set_option maxHeartbeats 4000000 in
set_option maxRecDepth 100000 in
theorem ev_X9_open (F : Nat) (a0 : Nat) (h0 : shK a0 = 10 + 7) (w : aI) : Ev yX9_open cX9_open 1 none 2 0 jvV [.ref a0] (cm w) (f_X9_open F a0 w) := by
  refine Ev.of (own := RX9) (by decide +kernel) rfl (Nat.le_of_ble_eq_true rfl) (fun x hx => ?_)
  show En x jvV 0 0 0 [(0, .ref a0)] [] (cm w) _
  unfold f_X9_open
  refine E_aload_n (pc := 0) hx 0 dX9_open_0 rfl rfl ?_
  refine I_iconst (pc := 1) hx 0 dX9_open_1 ?_
  refine I_put (pc := 2) hx 5 5 rfl .int tyX9 fc7 tyX9_ok h0 (hx.ci h0 (Nat.le_of_ble_eq_true rfl)) rfl ⟨rfl, rfl, rfl, rfl, pfd_I⟩ rfl rfl g208 dX9_open_2 (fun w1 => ?_)
  refine E_aload_n (pc := 5) hx 0 dX9_open_5 rfl rfl ?_
  refine I_iconst (pc := 6) hx (-1) dX9_open_6 ?_
  refine I_put (pc := 7) hx 6 6 rfl .int tyX9 fc7 tyX9_ok h0 (hx.ci h0 (Nat.le_of_ble_eq_true rfl)) rfl ⟨rfl, rfl, rfl, rfl, pfd_I⟩ rfl rfl g209 dX9_open_7 (fun w2 => ?_)
  refine E_aload_n (pc := 10) hx 0 dX9_open_10 rfl rfl ?_
  refine I_iconst (pc := 11) hx 0 dX9_open_11 ?_
  refine I_put (pc := 12) hx 2 2 rfl .int tyX9 fc7 tyX9_ok h0 (hx.ci h0 (Nat.le_of_ble_eq_true rfl)) rfl ⟨rfl, rfl, rfl, rfl, pfd_I⟩ rfl rfl g204 dX9_open_12 (fun w3 => ?_)
  refine E_aload_n (pc := 15) hx 0 dX9_open_15 rfl rfl ?_
  refine I_cVV  (pc := 16) hx [] [] (ev_X9_step F a0 h0 w3) vm_X9_step fc7 h0 (hx.ci h0 (Nat.le_of_ble_eq_true rfl)) g340 dX9_open_16 rfl rfl (Nat.le_of_ble_eq_true rfl) (Nat.le_of_ble_eq_true rfl) (Nat.le_of_ble_eq_true rfl) (fun w4 => ?_)
  exact E_vret (pc := 19) hx dX9_open_19 rfl rfl (Nat.le_of_ble_eq_true rfl)
set_option maxHeartbeats 4000000 in
set_option maxRecDepth 100000 in
theorem l_X9_isWord_b28_b {x : Cx} (F : Nat) (a0 : Nat) (h0 : shK a0 = 10 + 7) (s1 : Nat) (w : aI) (hx : CxOK x RX9 cX9_isWord 3 6 0 (some .boolean))  (k28 : Int → Option Bool) (hk28 : ∀ (v2 : Int), En x (jvB w) 0 0 28 [(0, .ref a0), (1, .ref (sx s1)), (2, .int (oI v2))] [] (cm w) (k28 v2)) (v2 : Int)  : En x (jvB w) 0 0 28 [(0, .ref a0), (1, .ref (sx s1)), (2, .int (oI v2))] [] (cm w) (f_X9_isWord_b28_b F a0 s1 w  k28 v2) := by
  unfold f_X9_isWord_b28_b
  refine E_iload_n (pc := 28) hx 2 dX9_isWord_28 rfl rfl ?_
  refine E_aload_n (pc := 29) hx 1 dX9_isWord_29 rfl rfl ?_
  refine I_strlen (pc := 30) hx [.int (oI v2)] g364 dX9_isWord_30 (Nat.le_of_ble_eq_true rfl) (Nat.le_of_ble_eq_true rfl) (Nat.le_of_ble_eq_true rfl) (fun r4 => ?_)
  refine E_gd (fun hr5 => ?_)
  refine I_icmp_ge (pc := 33) hx 65 dX9_isWord_33 rfl ⟨hr5.1, hr5.2⟩ ?_ ?_
  · refine I_iconst (pc := 65) hx 1 dX9_isWord_65 ?_
    exact E_zret (pc := 66) hx dX9_isWord_66 rfl rfl rfl (Nat.le_of_ble_eq_true rfl)
  refine E_aload_n (pc := 36) hx 0 dX9_isWord_36 rfl rfl ?_
  refine E_getR (pc := 37) hx 0 fc7 h0 (hx.ci h0 (Nat.le_of_ble_eq_true rfl)) rfl ⟨rfl, rfl, rfl⟩ g202 dX9_isWord_37 ?_
  refine E_aload_n (pc := 40) hx 0 dX9_isWord_40 rfl rfl ?_
  refine I_getI (pc := 41) hx 1 1 rfl fc7 h0 (hx.ci h0 (Nat.le_of_ble_eq_true rfl)) rfl ⟨rfl, rfl, rfl⟩ g203 dX9_isWord_41 ?_
  refine E_iload_n (pc := 44) hx 2 dX9_isWord_44 rfl rfl ?_
  refine I_iadd (pc := 45) hx dX9_isWord_45 ?_
  refine I_cVI  (pc := 46) hx [.int (oI ((w a0 1) + v2))] [] (ev_X0_get F (shR a0 0) (kt_7_0 h0) ((w a0 1) + v2) w) vm_X0_get fc0 (kt_7_0 h0) (hx.ci (kt_7_0 h0) (Nat.le_of_ble_eq_true rfl)) g348 dX9_isWord_46 rfl rfl (Nat.le_of_ble_eq_true rfl) (Nat.le_of_ble_eq_true rfl) (Nat.le_of_ble_eq_true rfl) (fun r6 => ?_)
  refine E_aload_n (pc := 49) hx 1 dX9_isWord_49 rfl rfl ?_
  refine E_iload_n (pc := 50) hx 2 dX9_isWord_50 rfl rfl ?_
  refine I_strchr (pc := 51) hx [.int (oI r6)] g365 dX9_isWord_51 (Nat.le_of_ble_eq_true rfl) (Nat.le_of_ble_eq_true rfl) (Nat.le_of_ble_eq_true rfl) (fun r7 => ?_)
  refine E_gd (fun hr8 => ?_)
  refine I_icmp_eq (pc := 54) hx 59 dX9_isWord_54 rfl ⟨hr8.1, hr8.2⟩ ?_ ?_
  · refine I_iinc (pc := 59) hx 1 2 dX9_isWord_59 rfl (Nat.le_of_ble_eq_true rfl) rfl ?_
    refine E_goto (pc := 62) hx 28 dX9_isWord_62 rfl ?_
    refine En.sub [1, 2, 0] rfl ?_
    exact hk28 (v2 + 1)
  refine I_iconst (pc := 57) hx 0 dX9_isWord_57 ?_
  exact E_zret (pc := 58) hx dX9_isWord_58 rfl rfl rfl (Nat.le_of_ble_eq_true rfl)
theorem l_X9_isWord_b28 {x : Cx} (F : Nat) (a0 : Nat) (h0 : shK a0 = 10 + 7) (s1 : Nat) (w : aI) (hx : CxOK x RX9 cX9_isWord 3 6 0 (some .boolean))  : ∀ (n : Nat) (v2 : Int), En x (jvB w) 0 0 28 [(0, .ref a0), (1, .ref (sx s1)), (2, .int (oI v2))] [] (cm w) (f_X9_isWord_b28 F a0 s1 w  n v2) := by
  intro n
  induction n with
  | zero => intro v2; exact E_none
  | succ n ih => intro v2; exact l_X9_isWord_b28_b F a0 h0 s1 w hx  _ ih v2
set_option maxHeartbeats 4000000 in
set_option maxRecDepth 100000 in
theorem ev_X9_isWord (F : Nat) (a0 : Nat) (h0 : shK a0 = 10 + 7) (s1 : Nat) (w : aI) : Ev yX9_isWord cX9_isWord 3 (some .boolean) 6 0 (jvB w) [.ref a0, .ref (sx s1)] (cm w) (f_X9_isWord F a0 s1 w) := by
  refine Ev.of (own := RX9) (by decide +kernel) rfl (Nat.le_of_ble_eq_true rfl) (fun x hx => ?_)
  show En x (jvB w) 0 0 0 [(0, .ref a0), (1, .ref (sx s1))] [] (cm w) _
  unfold f_X9_isWord
  refine E_aload_n (pc := 0) hx 0 dX9_isWord_0 rfl rfl ?_
  refine I_getI (pc := 1) hx 3 3 rfl fc7 h0 (hx.ci h0 (Nat.le_of_ble_eq_true rfl)) rfl ⟨rfl, rfl, rfl⟩ g206 dX9_isWord_1 ?_
  refine I_iconst (pc := 4) hx 1 dX9_isWord_4 ?_
  refine E_gd (fun hr1 => ?_)
  refine I_icmp_ne (pc := 5) hx 24 dX9_isWord_5 rfl ⟨hr1, (by decide)⟩ ?_ ?_
  · refine I_iconst (pc := 24) hx 0 dX9_isWord_24 ?_
    exact E_zret (pc := 25) hx dX9_isWord_25 rfl rfl rfl (Nat.le_of_ble_eq_true rfl)
  refine E_aload_n (pc := 8) hx 0 dX9_isWord_8 rfl rfl ?_
  refine I_getI (pc := 9) hx 2 2 rfl fc7 h0 (hx.ci h0 (Nat.le_of_ble_eq_true rfl)) rfl ⟨rfl, rfl, rfl⟩ g204 dX9_isWord_9 ?_
  refine E_aload_n (pc := 12) hx 0 dX9_isWord_12 rfl rfl ?_
  refine I_getI (pc := 13) hx 1 1 rfl fc7 h0 (hx.ci h0 (Nat.le_of_ble_eq_true rfl)) rfl ⟨rfl, rfl, rfl⟩ g203 dX9_isWord_13 ?_
  refine I_isub (pc := 16) hx dX9_isWord_16 ?_
  refine E_aload_n (pc := 17) hx 1 dX9_isWord_17 rfl rfl ?_
  refine I_strlen (pc := 18) hx [.int (oI ((w a0 2) - (w a0 1)))] g364 dX9_isWord_18 (Nat.le_of_ble_eq_true rfl) (Nat.le_of_ble_eq_true rfl) (Nat.le_of_ble_eq_true rfl) (fun r2 => ?_)
  refine E_gd (fun hr3 => ?_)
  refine I_icmp_eq (pc := 21) hx 26 dX9_isWord_21 rfl ⟨hr3.1, hr3.2⟩ ?_ ?_
  · refine I_iconst (pc := 26) hx 0 dX9_isWord_26 ?_
    refine E_istore_n (pc := 27) hx dX9_isWord_27 rfl (Nat.le_of_ble_eq_true rfl) rfl ?_
    refine En.sub [1, 2, 0] rfl ?_
    exact l_X9_isWord_b28 F a0 h0 s1 w hx F 0
  refine I_iconst (pc := 24) hx 0 dX9_isWord_24 ?_
  exact E_zret (pc := 25) hx dX9_isWord_25 rfl rfl rfl (Nat.le_of_ble_eq_true rfl)
set_option maxHeartbeats 4000000 in
set_option maxRecDepth 100000 in
theorem ev_X9_fail (F : Nat) (a0 : Nat) (h0 : shK a0 = 10 + 7) (p1 : Int) (w : aI) : Ev yX9_fail cX9_fail 2 (some .boolean) 0 0 jvBW [.ref a0, .int (oI p1)] (cm w) (f_X9_fail F a0 p1 w) := by
  refine Ev.of (own := RX9) (by decide +kernel) rfl (Nat.le_of_ble_eq_true rfl) (fun x hx => ?_)
  show En x jvBW 0 0 0 [(0, .ref a0), (1, .int (oI p1))] [] (cm w) _
  unfold f_X9_fail
  refine E_aload_n (pc := 0) hx 0 dX9_fail_0 rfl rfl ?_
  refine E_iload_n (pc := 1) hx 1 dX9_fail_1 rfl rfl ?_
  refine I_put (pc := 2) hx 5 5 rfl .int tyX9 fc7 tyX9_ok h0 (hx.ci h0 (Nat.le_of_ble_eq_true rfl)) rfl ⟨rfl, rfl, rfl, rfl, pfd_I⟩ rfl rfl g208 dX9_fail_2 (fun w1 => ?_)
  refine E_aload_n (pc := 5) hx 0 dX9_fail_5 rfl rfl ?_
  refine E_aload_n (pc := 6) hx 0 dX9_fail_6 rfl rfl ?_
  refine I_getI (pc := 7) hx 1 1 rfl fc7 h0 (hx.ci h0 (Nat.le_of_ble_eq_true rfl)) rfl ⟨rfl, rfl, rfl⟩ g203 dX9_fail_7 ?_
  refine I_put (pc := 10) hx 6 6 rfl .int tyX9 fc7 tyX9_ok h0 (hx.ci h0 (Nat.le_of_ble_eq_true rfl)) rfl ⟨rfl, rfl, rfl, rfl, pfd_I⟩ rfl rfl g209 dX9_fail_10 (fun w2 => ?_)
  refine I_iconst (pc := 13) hx 0 dX9_fail_13 ?_
  exact E_zret (pc := 14) hx dX9_fail_14 rfl rfl rfl (Nat.le_of_ble_eq_true rfl)
set_option maxHeartbeats 4000000 in
set_option maxRecDepth 100000 in
theorem l_X9_nameHere_b39_b {x : Cx} (F : Nat) (a0 : Nat) (h0 : shK a0 = 10 + 7)  (hx : CxOK x RX9 cX9_nameHere 3 1 0 (some .int))  (k39 : Int → Int → aI → Option (Int × aI)) (hk39 : ∀ (v1 : Int) (v2 : Int) (w : aI), En x jvIW 0 0 39 [(0, .ref a0), (1, .int (oI v1)), (2, .int (oI v2))] [] (cm w) (k39 v1 v2 w)) (v1 : Int) (v2 : Int) (w : aI) : En x jvIW 0 0 39 [(0, .ref a0), (1, .int (oI v1)), (2, .int (oI v2))] [] (cm w) (f_X9_nameHere_b39_b F a0   k39 v1 v2 w) := by
  unfold f_X9_nameHere_b39_b
  refine E_iload_n (pc := 39) hx 2 dX9_nameHere_39 rfl rfl ?_
  refine E_aload_n (pc := 40) hx 0 dX9_nameHere_40 rfl rfl ?_
  refine I_getI (pc := 41) hx 1 1 rfl fc7 h0 (hx.ci h0 (Nat.le_of_ble_eq_true rfl)) rfl ⟨rfl, rfl, rfl⟩ g203 dX9_nameHere_41 ?_
  refine E_gd (fun hr6 => ?_)
  refine I_icmp_lt (pc := 44) hx 71 dX9_nameHere_44 rfl ⟨hr6.1, hr6.2⟩ ?_ ?_
  · refine E_iload_n (pc := 71) hx 1 dX9_nameHere_71 rfl rfl ?_
    exact E_iret (pc := 72) hx dX9_nameHere_72 rfl rfl (Nat.le_of_ble_eq_true rfl)
  refine E_iload_n (pc := 47) hx 1 dX9_nameHere_47 rfl rfl ?_
  refine I_iconst (pc := 48) hx 5 dX9_nameHere_48 ?_
  refine I_ishl (pc := 49) hx dX9_nameHere_49 (by decide) ?_
  refine E_aload_n (pc := 50) hx 0 dX9_nameHere_50 rfl rfl ?_
  refine E_getR (pc := 51) hx 0 fc7 h0 (hx.ci h0 (Nat.le_of_ble_eq_true rfl)) rfl ⟨rfl, rfl, rfl⟩ g202 dX9_nameHere_51 ?_
  refine E_iload_n (pc := 54) hx 2 dX9_nameHere_54 rfl rfl ?_
  refine I_cVI  (pc := 55) hx [.int (oI v2)] [.int (oI (shl v1 5))] (ev_X0_get F (shR a0 0) (kt_7_0 h0) v2 w) vm_X0_get fc0 (kt_7_0 h0) (hx.ci (kt_7_0 h0) (Nat.le_of_ble_eq_true rfl)) g348 dX9_nameHere_55 rfl rfl (Nat.le_of_ble_eq_true rfl) (Nat.le_of_ble_eq_true rfl) (Nat.le_of_ble_eq_true rfl) (fun r7 => ?_)
  refine I_bipush (pc := 58) hx 97 dX9_nameHere_58 rfl ?_
  refine I_isub (pc := 60) hx dX9_nameHere_60 ?_
  refine I_iconst (pc := 61) hx 1 dX9_nameHere_61 ?_
  refine I_iadd (pc := 62) hx dX9_nameHere_62 ?_
  refine I_ior (pc := 63) hx dX9_nameHere_63 ?_
  refine I_ltv (fun v1_8 => ?_)
  refine E_istore_n (pc := 64) hx dX9_nameHere_64 rfl (Nat.le_of_ble_eq_true rfl) rfl ?_
  refine I_iinc (pc := 65) hx (-1) 2 dX9_nameHere_65 rfl (Nat.le_of_ble_eq_true rfl) rfl ?_
  refine E_goto (pc := 68) hx 39 dX9_nameHere_68 rfl ?_
  refine En.sub [2, 1, 0] rfl ?_
  exact hk39 v1_8 (v2 + (-1)) w
theorem l_X9_nameHere_b39 {x : Cx} (F : Nat) (a0 : Nat) (h0 : shK a0 = 10 + 7)  (hx : CxOK x RX9 cX9_nameHere 3 1 0 (some .int))  : ∀ (n : Nat) (v1 : Int) (v2 : Int) (w : aI), En x jvIW 0 0 39 [(0, .ref a0), (1, .int (oI v1)), (2, .int (oI v2))] [] (cm w) (f_X9_nameHere_b39 F a0   n v1 v2 w) := by
  intro n
  induction n with
  | zero => intro v1 v2 w; exact E_none
  | succ n ih => intro v1 v2 w; exact l_X9_nameHere_b39_b F a0 h0  hx  _ ih v1 v2 w
set_option maxHeartbeats 4000000 in
set_option maxRecDepth 100000 in
theorem ev_X9_nameHere (F : Nat) (a0 : Nat) (h0 : shK a0 = 10 + 7) (w : aI) : Ev yX9_nameHere cX9_nameHere 3 (some .int) 1 0 jvIW [.ref a0] (cm w) (f_X9_nameHere F a0 w) := by
  refine Ev.of (own := RX9) (by decide +kernel) rfl (Nat.le_of_ble_eq_true rfl) (fun x hx => ?_)
  show En x jvIW 0 0 0 [(0, .ref a0)] [] (cm w) _
  unfold f_X9_nameHere
  refine E_aload_n (pc := 0) hx 0 dX9_nameHere_0 rfl rfl ?_
  refine I_getI (pc := 1) hx 3 3 rfl fc7 h0 (hx.ci h0 (Nat.le_of_ble_eq_true rfl)) rfl ⟨rfl, rfl, rfl⟩ g206 dX9_nameHere_1 ?_
  refine I_iconst (pc := 4) hx 1 dX9_nameHere_4 ?_
  refine E_gd (fun hr1 => ?_)
  refine I_icmp_ne (pc := 5) hx 22 dX9_nameHere_5 rfl ⟨hr1, (by decide)⟩ ?_ ?_
  · refine E_aload_n (pc := 22) hx 0 dX9_nameHere_22 rfl rfl ?_
    refine I_iconst (pc := 23) hx 1 dX9_nameHere_23 ?_
    refine I_cVBW  (pc := 24) hx [.int (oI 1)] [] (ev_X9_fail F a0 h0 1 w) vm_X9_fail fc7 h0 (hx.ci h0 (Nat.le_of_ble_eq_true rfl)) g379 dX9_nameHere_24 rfl rfl (Nat.le_of_ble_eq_true rfl) (Nat.le_of_ble_eq_true rfl) (Nat.le_of_ble_eq_true rfl) (fun r2 w3 => ?_)
    refine E_pop (pc := 27) hx dX9_nameHere_27 rfl ?_
    refine I_iconst (pc := 28) hx (-1) dX9_nameHere_28 ?_
    exact E_iret (pc := 29) hx dX9_nameHere_29 rfl rfl (Nat.le_of_ble_eq_true rfl)
  refine E_aload_n (pc := 8) hx 0 dX9_nameHere_8 rfl rfl ?_
  refine I_getI (pc := 9) hx 2 2 rfl fc7 h0 (hx.ci h0 (Nat.le_of_ble_eq_true rfl)) rfl ⟨rfl, rfl, rfl⟩ g204 dX9_nameHere_9 ?_
  refine E_aload_n (pc := 12) hx 0 dX9_nameHere_12 rfl rfl ?_
  refine I_getI (pc := 13) hx 1 1 rfl fc7 h0 (hx.ci h0 (Nat.le_of_ble_eq_true rfl)) rfl ⟨rfl, rfl, rfl⟩ g203 dX9_nameHere_13 ?_
  refine I_isub (pc := 16) hx dX9_nameHere_16 ?_
  refine I_bipush (pc := 17) hx 6 dX9_nameHere_17 rfl ?_
  refine E_gd (fun hr4 => ?_)
  refine I_icmp_le (pc := 19) hx 30 dX9_nameHere_19 rfl ⟨hr4, (by decide)⟩ ?_ ?_
  · refine I_iconst (pc := 30) hx 0 dX9_nameHere_30 ?_
    refine E_istore_n (pc := 31) hx dX9_nameHere_31 rfl (Nat.le_of_ble_eq_true rfl) rfl ?_
    refine E_aload_n (pc := 32) hx 1 dX9_nameHere_32 rfl rfl ?_
    refine I_getI (pc := 33) hx 2 2 rfl fc7 h0 (hx.ci h0 (Nat.le_of_ble_eq_true rfl)) rfl ⟨rfl, rfl, rfl⟩ g204 dX9_nameHere_33 ?_
    refine I_iconst (pc := 36) hx 1 dX9_nameHere_36 ?_
    refine I_isub (pc := 37) hx dX9_nameHere_37 ?_
    refine I_ltv (fun v2_5 => ?_)
    refine E_istore_n (pc := 38) hx dX9_nameHere_38 rfl (Nat.le_of_ble_eq_true rfl) rfl ?_
    refine En.sub [2, 1, 0] rfl ?_
    exact l_X9_nameHere_b39 F a0 h0 hx F 0 v2_5 w
  refine E_aload_n (pc := 22) hx 0 dX9_nameHere_22 rfl rfl ?_
  refine I_iconst (pc := 23) hx 1 dX9_nameHere_23 ?_
  refine I_cVBW  (pc := 24) hx [.int (oI 1)] [] (ev_X9_fail F a0 h0 1 w) vm_X9_fail fc7 h0 (hx.ci h0 (Nat.le_of_ble_eq_true rfl)) g379 dX9_nameHere_24 rfl rfl (Nat.le_of_ble_eq_true rfl) (Nat.le_of_ble_eq_true rfl) (Nat.le_of_ble_eq_true rfl) (fun r9 w10 => ?_)
  refine E_pop (pc := 27) hx dX9_nameHere_27 rfl ?_
  refine I_iconst (pc := 28) hx (-1) dX9_nameHere_28 ?_
  exact E_iret (pc := 29) hx dX9_nameHere_29 rfl rfl (Nat.le_of_ble_eq_true rfl)
set_option maxHeartbeats 4000000 in
set_option maxRecDepth 100000 in
theorem l_X9_isNumberHere_b30 {x : Cx} (F : Nat) (a0 : Nat) (h0 : shK a0 = 10 + 7) (p1 : Int) (p2 : Int)  (hx : CxOK x RX9 cX9_isNumberHere 3 1 0 (some .boolean))    (w : aI) : En x jvBW 0 0 30 [(0, .ref a0)] [] (cm w) (f_X9_isNumberHere_b30 F a0 p1 p2    w) := by
  unfold f_X9_isNumberHere_b30
  refine E_aload_n (pc := 30) hx 0 dX9_isNumberHere_30 rfl rfl ?_
  refine I_iconst (pc := 31) hx 2 dX9_isNumberHere_31 ?_
  refine I_cVBW  (pc := 32) hx [.int (oI 2)] [] (ev_X9_fail F a0 h0 2 w) vm_X9_fail fc7 h0 (hx.ci h0 (Nat.le_of_ble_eq_true rfl)) g379 dX9_isNumberHere_32 rfl rfl (Nat.le_of_ble_eq_true rfl) (Nat.le_of_ble_eq_true rfl) (Nat.le_of_ble_eq_true rfl) (fun r3 w4 => ?_)
  refine I_ifB_eq (pc := 35) hx 42 dX9_isNumberHere_35 rfl ?_ ?_
  · refine I_iconst (pc := 42) hx 0 dX9_isNumberHere_42 ?_
    exact E_zret (pc := 43) hx dX9_isNumberHere_43 rfl rfl rfl (Nat.le_of_ble_eq_true rfl)
  refine I_iconst (pc := 38) hx 1 dX9_isNumberHere_38 ?_
  refine E_goto (pc := 39) hx 43 dX9_isNumberHere_39 rfl ?_
  exact E_zret (pc := 43) hx dX9_isNumberHere_43 rfl rfl rfl (Nat.le_of_ble_eq_true rfl)
set_option maxHeartbeats 4000000 in
set_option maxRecDepth 100000 in
theorem ev_X9_isNumberHere (F : Nat) (a0 : Nat) (h0 : shK a0 = 10 + 7) (p1 : Int) (p2 : Int) (w : aI) : Ev yX9_isNumberHere cX9_isNumberHere 3 (some .boolean) 1 0 jvBW [.ref a0, .int (oI p1), .int (oI p2)] (cm w) (f_X9_isNumberHere F a0 p1 p2 w) := by
  refine Ev.of (own := RX9) (by decide +kernel) rfl (Nat.le_of_ble_eq_true rfl) (fun x hx => ?_)
  show En x jvBW 0 0 0 [(0, .ref a0), (1, .int (oI p1)), (2, .int (oI p2))] [] (cm w) _
  unfold f_X9_isNumberHere
  refine E_aload_n (pc := 0) hx 0 dX9_isNumberHere_0 rfl rfl ?_
  refine I_getI (pc := 1) hx 3 3 rfl fc7 h0 (hx.ci h0 (Nat.le_of_ble_eq_true rfl)) rfl ⟨rfl, rfl, rfl⟩ g206 dX9_isNumberHere_1 ?_
  refine I_iconst (pc := 4) hx 2 dX9_isNumberHere_4 ?_
  refine E_gd (fun hr1 => ?_)
  refine I_icmp_eq (pc := 5) hx 14 dX9_isNumberHere_5 rfl ⟨hr1, (by decide)⟩ ?_ ?_
  · refine E_aload_n (pc := 14) hx 0 dX9_isNumberHere_14 rfl rfl ?_
    refine I_getI (pc := 15) hx 4 4 rfl fc7 h0 (hx.ci h0 (Nat.le_of_ble_eq_true rfl)) rfl ⟨rfl, rfl, rfl⟩ g207 dX9_isNumberHere_15 ?_
    refine E_iload_n (pc := 18) hx 1 dX9_isNumberHere_18 rfl rfl ?_
    refine E_gd (fun hr2 => ?_)
    refine I_icmp_lt (pc := 19) hx 30 dX9_isNumberHere_19 rfl ⟨hr2.1, hr2.2⟩ ?_ ?_
    · refine En.sub [0] rfl ?_
      exact l_X9_isNumberHere_b30 F a0 h0 p1 p2 hx w
    refine E_aload_n (pc := 22) hx 0 dX9_isNumberHere_22 rfl rfl ?_
    refine I_getI (pc := 23) hx 4 4 rfl fc7 h0 (hx.ci h0 (Nat.le_of_ble_eq_true rfl)) rfl ⟨rfl, rfl, rfl⟩ g207 dX9_isNumberHere_23 ?_
    refine E_iload_n (pc := 26) hx 2 dX9_isNumberHere_26 rfl rfl ?_
    refine E_gd (fun hr5 => ?_)
    refine I_icmp_le (pc := 27) hx 38 dX9_isNumberHere_27 rfl ⟨hr2.1, hr5⟩ ?_ ?_
    · refine I_iconst (pc := 38) hx 1 dX9_isNumberHere_38 ?_
      refine E_goto (pc := 39) hx 43 dX9_isNumberHere_39 rfl ?_
      exact E_zret (pc := 43) hx dX9_isNumberHere_43 rfl rfl rfl (Nat.le_of_ble_eq_true rfl)
    refine En.sub [0] rfl ?_
    exact l_X9_isNumberHere_b30 F a0 h0 p1 p2 hx w
  refine E_aload_n (pc := 8) hx 0 dX9_isNumberHere_8 rfl rfl ?_
  refine I_iconst (pc := 9) hx 1 dX9_isNumberHere_9 ?_
  refine I_cVBW  (pc := 10) hx [.int (oI 1)] [] (ev_X9_fail F a0 h0 1 w) vm_X9_fail fc7 h0 (hx.ci h0 (Nat.le_of_ble_eq_true rfl)) g379 dX9_isNumberHere_10 rfl rfl (Nat.le_of_ble_eq_true rfl) (Nat.le_of_ble_eq_true rfl) (Nat.le_of_ble_eq_true rfl) (fun r6 w7 => ?_)
  exact E_zret (pc := 13) hx dX9_isNumberHere_13 rfl (bI_nar _) rfl (Nat.le_of_ble_eq_true rfl)
set_option maxHeartbeats 4000000 in
set_option maxRecDepth 100000 in
theorem ev_X9_takeNumber (F : Nat) (a0 : Nat) (h0 : shK a0 = 10 + 7) (p1 : Int) (p2 : Int) (w : aI) : Ev yX9_takeNumber cX9_takeNumber 4 (some .int) 2 0 jvIW [.ref a0, .int (oI p1), .int (oI p2)] (cm w) (f_X9_takeNumber F a0 p1 p2 w) := by
  refine Ev.of (own := RX9) (by decide +kernel) rfl (Nat.le_of_ble_eq_true rfl) (fun x hx => ?_)
  show En x jvIW 0 0 0 [(0, .ref a0), (1, .int (oI p1)), (2, .int (oI p2))] [] (cm w) _
  unfold f_X9_takeNumber
  refine E_aload_n (pc := 0) hx 0 dX9_takeNumber_0 rfl rfl ?_
  refine E_iload_n (pc := 1) hx 1 dX9_takeNumber_1 rfl rfl ?_
  refine E_iload_n (pc := 2) hx 2 dX9_takeNumber_2 rfl rfl ?_
  refine I_cVBW  (pc := 3) hx [.int (oI p1), .int (oI p2)] [] (ev_X9_isNumberHere F a0 h0 p1 p2 w) vm_X9_isNumberHere fc7 h0 (hx.ci h0 (Nat.le_of_ble_eq_true rfl)) g392 dX9_takeNumber_3 rfl rfl (Nat.le_of_ble_eq_true rfl) (Nat.le_of_ble_eq_true rfl) (Nat.le_of_ble_eq_true rfl) (fun r1 w2 => ?_)
  refine I_ifB_ne (pc := 6) hx 11 dX9_takeNumber_6 rfl ?_ ?_
  · refine E_aload_n (pc := 11) hx 0 dX9_takeNumber_11 rfl rfl ?_
    refine I_getI (pc := 12) hx 4 4 rfl fc7 h0 (hx.ci h0 (Nat.le_of_ble_eq_true rfl)) rfl ⟨rfl, rfl, rfl⟩ g207 dX9_takeNumber_12 ?_
    refine I_ltv (fun v3_3 => ?_)
    refine E_istore_n (pc := 15) hx dX9_takeNumber_15 rfl (Nat.le_of_ble_eq_true rfl) rfl ?_
    refine E_aload_n (pc := 16) hx 1 dX9_takeNumber_16 rfl rfl ?_
    refine I_cVV  (pc := 17) hx [] [] (ev_X9_step F a0 h0 w2) vm_X9_step fc7 h0 (hx.ci h0 (Nat.le_of_ble_eq_true rfl)) g340 dX9_takeNumber_17 rfl rfl (Nat.le_of_ble_eq_true rfl) (Nat.le_of_ble_eq_true rfl) (Nat.le_of_ble_eq_true rfl) (fun w4 => ?_)
    refine E_iload_n (pc := 20) hx 0 dX9_takeNumber_20 rfl rfl ?_
    exact E_iret (pc := 21) hx dX9_takeNumber_21 rfl rfl (Nat.le_of_ble_eq_true rfl)
  refine I_iconst (pc := 9) hx (-1) dX9_takeNumber_9 ?_
  exact E_iret (pc := 10) hx dX9_takeNumber_10 rfl rfl (Nat.le_of_ble_eq_true rfl)
set_option maxHeartbeats 4000000 in
set_option maxRecDepth 100000 in
theorem ev_X9_isSemicolonTaken (F : Nat) (a0 : Nat) (h0 : shK a0 = 10 + 7) (w : aI) : Ev yX9_isSemicolonTaken cX9_isSemicolonTaken 1 (some .boolean) 2 0 jvBW [.ref a0] (cm w) (f_X9_isSemicolonTaken F a0 w) := by
  refine Ev.of (own := RX9) (by decide +kernel) rfl (Nat.le_of_ble_eq_true rfl) (fun x hx => ?_)
  show En x jvBW 0 0 0 [(0, .ref a0)] [] (cm w) _
  unfold f_X9_isSemicolonTaken
  refine E_aload_n (pc := 0) hx 0 dX9_isSemicolonTaken_0 rfl rfl ?_
  refine I_getI (pc := 1) hx 3 3 rfl fc7 h0 (hx.ci h0 (Nat.le_of_ble_eq_true rfl)) rfl ⟨rfl, rfl, rfl⟩ g206 dX9_isSemicolonTaken_1 ?_
  refine I_iconst (pc := 4) hx 3 dX9_isSemicolonTaken_4 ?_
  refine E_gd (fun hr1 => ?_)
  refine I_icmp_eq (pc := 5) hx 14 dX9_isSemicolonTaken_5 rfl ⟨hr1, (by decide)⟩ ?_ ?_
  · refine E_aload_n (pc := 14) hx 0 dX9_isSemicolonTaken_14 rfl rfl ?_
    refine I_cVV  (pc := 15) hx [] [] (ev_X9_step F a0 h0 w) vm_X9_step fc7 h0 (hx.ci h0 (Nat.le_of_ble_eq_true rfl)) g340 dX9_isSemicolonTaken_15 rfl rfl (Nat.le_of_ble_eq_true rfl) (Nat.le_of_ble_eq_true rfl) (Nat.le_of_ble_eq_true rfl) (fun w2 => ?_)
    refine I_iconst (pc := 18) hx 1 dX9_isSemicolonTaken_18 ?_
    exact E_zret (pc := 19) hx dX9_isSemicolonTaken_19 rfl rfl rfl (Nat.le_of_ble_eq_true rfl)
  refine E_aload_n (pc := 8) hx 0 dX9_isSemicolonTaken_8 rfl rfl ?_
  refine I_iconst (pc := 9) hx 1 dX9_isSemicolonTaken_9 ?_
  refine I_cVBW  (pc := 10) hx [.int (oI 1)] [] (ev_X9_fail F a0 h0 1 w) vm_X9_fail fc7 h0 (hx.ci h0 (Nat.le_of_ble_eq_true rfl)) g379 dX9_isSemicolonTaken_10 rfl rfl (Nat.le_of_ble_eq_true rfl) (Nat.le_of_ble_eq_true rfl) (Nat.le_of_ble_eq_true rfl) (fun r3 w4 => ?_)
  exact E_zret (pc := 13) hx dX9_isSemicolonTaken_13 rfl (bI_nar _) rfl (Nat.le_of_ble_eq_true rfl)
set_option maxHeartbeats 4000000 in
set_option maxRecDepth 100000 in
theorem l_X5_isRoofRead_b144 {x : Cx} (F : Nat) (a0 : Nat) (h0 : shK a0 = 10 + 5)  (hx : CxOK x RX5 cX5_isRoofRead 6 3 0 (some .boolean))   (v1 : Int) (v2 : Int) (v3 : Int) (v4 : Int) (z0 : Int) (w : aI) : En x jvBW 0 0 144 [(0, .ref a0), (1, .int (oI v1)), (2, .int (oI v2)), (3, .int (oI v3)), (4, .int (oI v4))] [.int (oI z0)] (cm w) (f_X5_isRoofRead_b144 F a0    v1 v2 v3 v4 z0 w) := by
  unfold f_X5_isRoofRead_b144
  refine E_istore (pc := 144) hx dX5_isRoofRead_144 (Nat.le_of_ble_eq_true rfl) rfl ?_
  refine E_iload (pc := 146) hx 0 dX5_isRoofRead_146 rfl ?_
  refine I_iconst (pc := 148) hx (-1) dX5_isRoofRead_148 ?_
  refine E_gd (fun hr20 => ?_)
  refine I_icmp_eq (pc := 149) hx 162 dX5_isRoofRead_149 rfl ⟨hr20, (by decide)⟩ ?_ ?_
  · refine I_iconst (pc := 162) hx 0 dX5_isRoofRead_162 ?_
    exact E_zret (pc := 163) hx dX5_isRoofRead_163 rfl rfl rfl (Nat.le_of_ble_eq_true rfl)
  refine E_aload_n (pc := 152) hx 1 dX5_isRoofRead_152 rfl rfl ?_
  refine E_getR (pc := 153) hx 0 fc5 h0 (hx.ci h0 (Nat.le_of_ble_eq_true rfl)) rfl ⟨rfl, rfl, rfl⟩ g231 dX5_isRoofRead_153 ?_
  refine I_cVBW  (pc := 156) hx [] [] (ev_X9_isSemicolonTaken F (shR a0 0) (kt_5_0 h0) w) vm_X9_isSemicolonTaken fc7 (kt_5_0 h0) (hx.ci (kt_5_0 h0) (Nat.le_of_ble_eq_true rfl)) g396 dX5_isRoofRead_156 rfl rfl (Nat.le_of_ble_eq_true rfl) (Nat.le_of_ble_eq_true rfl) (Nat.le_of_ble_eq_true rfl) (fun r21 w22 => ?_)
  refine I_ifB_ne (pc := 159) hx 164 dX5_isRoofRead_159 rfl ?_ ?_
  · refine E_aload_n (pc := 164) hx 1 dX5_isRoofRead_164 rfl rfl ?_
    refine E_getR (pc := 165) hx 1 fc5 h0 (hx.ci h0 (Nat.le_of_ble_eq_true rfl)) rfl ⟨rfl, rfl, rfl⟩ g232 dX5_isRoofRead_165 ?_
    refine E_iload_n (pc := 168) hx 2 dX5_isRoofRead_168 rfl rfl ?_
    refine E_iload_n (pc := 169) hx 3 dX5_isRoofRead_169 rfl rfl ?_
    refine E_iload_n (pc := 170) hx 4 dX5_isRoofRead_170 rfl rfl ?_
    refine E_iload (pc := 171) hx 5 dX5_isRoofRead_171 rfl ?_
    refine E_iload (pc := 173) hx 0 dX5_isRoofRead_173 rfl ?_
    refine I_cVV  (pc := 175) hx [.int (oI v1), .int (oI v2), .int (oI v3), .int (oI v4), .int (oI z0)] [] (ev_X2_addRoof F (shR a0 1) (kt_5_1 h0) v1 v2 v3 v4 z0 w22) vm_X2_addRoof fc2 (kt_5_1 h0) (hx.ci (kt_5_1 h0) (Nat.le_of_ble_eq_true rfl)) g400 dX5_isRoofRead_175 rfl rfl (Nat.le_of_ble_eq_true rfl) (Nat.le_of_ble_eq_true rfl) (Nat.le_of_ble_eq_true rfl) (fun w23 => ?_)
    refine I_iconst (pc := 178) hx 1 dX5_isRoofRead_178 ?_
    exact E_zret (pc := 179) hx dX5_isRoofRead_179 rfl rfl rfl (Nat.le_of_ble_eq_true rfl)
  refine I_iconst (pc := 162) hx 0 dX5_isRoofRead_162 ?_
  exact E_zret (pc := 163) hx dX5_isRoofRead_163 rfl rfl rfl (Nat.le_of_ble_eq_true rfl)
set_option maxHeartbeats 4000000 in
set_option maxRecDepth 100000 in
theorem l_X5_isRoofRead_b121 {x : Cx} (F : Nat) (a0 : Nat) (h0 : shK a0 = 10 + 5)  (hx : CxOK x RX5 cX5_isRoofRead 6 3 0 (some .boolean))   (v1 : Int) (v2 : Int) (v3 : Int) (z0 : Int) (w : aI) : En x jvBW 0 0 121 [(0, .ref a0), (1, .int (oI v1)), (2, .int (oI v2)), (3, .int (oI v3))] [.int (oI z0)] (cm w) (f_X5_isRoofRead_b121 F a0    v1 v2 v3 z0 w) := by
  unfold f_X5_isRoofRead_b121
  refine E_istore (pc := 121) hx dX5_isRoofRead_121 (Nat.le_of_ble_eq_true rfl) rfl ?_
  refine E_iload (pc := 123) hx 0 dX5_isRoofRead_123 rfl ?_
  refine I_iconst (pc := 125) hx (-1) dX5_isRoofRead_125 ?_
  refine E_gd (fun hr17 => ?_)
  refine I_icmp_ne (pc := 126) hx 133 dX5_isRoofRead_126 rfl ⟨hr17, (by decide)⟩ ?_ ?_
  · refine E_aload_n (pc := 133) hx 1 dX5_isRoofRead_133 rfl rfl ?_
    refine E_getR (pc := 134) hx 0 fc5 h0 (hx.ci h0 (Nat.le_of_ble_eq_true rfl)) rfl ⟨rfl, rfl, rfl⟩ g231 dX5_isRoofRead_134 ?_
    refine I_iconst (pc := 137) hx 0 dX5_isRoofRead_137 ?_
    refine I_sipush (pc := 138) hx 999 dX5_isRoofRead_138 rfl ?_
    refine I_cVIW  (pc := 141) hx [.int (oI 0), .int (oI 999)] [] (ev_X9_takeNumber F (shR a0 0) (kt_5_0 h0) 0 999 w) vm_X9_takeNumber fc7 (kt_5_0 h0) (hx.ci (kt_5_0 h0) (Nat.le_of_ble_eq_true rfl)) g388 dX5_isRoofRead_141 rfl rfl (Nat.le_of_ble_eq_true rfl) (Nat.le_of_ble_eq_true rfl) (Nat.le_of_ble_eq_true rfl) (fun r18 w19 => ?_)
    refine En.sub [1, 2, 3, 4, 0] rfl ?_
    exact l_X5_isRoofRead_b144 F a0 h0 hx v1 v2 v3 z0 r18 w19
  refine I_iconst (pc := 129) hx (-1) dX5_isRoofRead_129 ?_
  refine E_goto (pc := 130) hx 144 dX5_isRoofRead_130 rfl ?_
  refine En.sub [1, 2, 3, 4, 0] rfl ?_
  exact l_X5_isRoofRead_b144 F a0 h0 hx v1 v2 v3 z0 (-1) w
set_option maxHeartbeats 4000000 in
set_option maxRecDepth 100000 in
theorem l_X5_isRoofRead_b101 {x : Cx} (F : Nat) (a0 : Nat) (h0 : shK a0 = 10 + 5)  (hx : CxOK x RX5 cX5_isRoofRead 6 3 0 (some .boolean))   (v1 : Int) (v2 : Int) (z0 : Int) (w : aI) : En x jvBW 0 0 101 [(0, .ref a0), (1, .int (oI v1)), (2, .int (oI v2))] [.int (oI z0)] (cm w) (f_X5_isRoofRead_b101 F a0    v1 v2 z0 w) := by
  unfold f_X5_isRoofRead_b101
  refine E_istore_n (pc := 101) hx dX5_isRoofRead_101 rfl (Nat.le_of_ble_eq_true rfl) rfl ?_
  refine E_iload_n (pc := 102) hx 0 dX5_isRoofRead_102 rfl rfl ?_
  refine I_iconst (pc := 103) hx (-1) dX5_isRoofRead_103 ?_
  refine E_gd (fun hr14 => ?_)
  refine I_icmp_ne (pc := 104) hx 111 dX5_isRoofRead_104 rfl ⟨hr14, (by decide)⟩ ?_ ?_
  · refine E_aload_n (pc := 111) hx 1 dX5_isRoofRead_111 rfl rfl ?_
    refine E_getR (pc := 112) hx 0 fc5 h0 (hx.ci h0 (Nat.le_of_ble_eq_true rfl)) rfl ⟨rfl, rfl, rfl⟩ g231 dX5_isRoofRead_112 ?_
    refine I_iconst (pc := 115) hx 0 dX5_isRoofRead_115 ?_
    refine I_bipush (pc := 116) hx 9 dX5_isRoofRead_116 rfl ?_
    refine I_cVIW  (pc := 118) hx [.int (oI 0), .int (oI 9)] [] (ev_X9_takeNumber F (shR a0 0) (kt_5_0 h0) 0 9 w) vm_X9_takeNumber fc7 (kt_5_0 h0) (hx.ci (kt_5_0 h0) (Nat.le_of_ble_eq_true rfl)) g388 dX5_isRoofRead_118 rfl rfl (Nat.le_of_ble_eq_true rfl) (Nat.le_of_ble_eq_true rfl) (Nat.le_of_ble_eq_true rfl) (fun r15 w16 => ?_)
    refine En.sub [1, 2, 3, 0] rfl ?_
    exact l_X5_isRoofRead_b121 F a0 h0 hx v1 v2 z0 r15 w16
  refine I_iconst (pc := 107) hx (-1) dX5_isRoofRead_107 ?_
  refine E_goto (pc := 108) hx 121 dX5_isRoofRead_108 rfl ?_
  refine En.sub [1, 2, 3, 0] rfl ?_
  exact l_X5_isRoofRead_b121 F a0 h0 hx v1 v2 z0 (-1) w
set_option maxHeartbeats 4000000 in
set_option maxRecDepth 100000 in
theorem ev_X5_isRoofRead (F : Nat) (a0 : Nat) (h0 : shK a0 = 10 + 5) (w : aI) : Ev yX5_isRoofRead cX5_isRoofRead 6 (some .boolean) 3 0 jvBW [.ref a0] (cm w) (f_X5_isRoofRead F a0 w) := by
  refine Ev.of (own := RX5) (by decide +kernel) rfl (Nat.le_of_ble_eq_true rfl) (fun x hx => ?_)
  show En x jvBW 0 0 0 [(0, .ref a0)] [] (cm w) _
  unfold f_X5_isRoofRead
  refine E_aload_n (pc := 0) hx 0 dX5_isRoofRead_0 rfl rfl ?_
  refine E_getR (pc := 1) hx 1 fc5 h0 (hx.ci h0 (Nat.le_of_ble_eq_true rfl)) rfl ⟨rfl, rfl, rfl⟩ g232 dX5_isRoofRead_1 ?_
  refine I_getI (pc := 4) hx 1 1 rfl fc2 (kt_5_1 h0) (hx.ci (kt_5_1 h0) (Nat.le_of_ble_eq_true rfl)) rfl ⟨rfl, rfl, rfl⟩ g125 dX5_isRoofRead_4 ?_
  refine I_bipush (pc := 7) hx 10 dX5_isRoofRead_7 rfl ?_
  refine E_gd (fun hr1 => ?_)
  refine I_icmp_lt (pc := 9) hx 21 dX5_isRoofRead_9 rfl ⟨hr1, (by decide)⟩ ?_ ?_
  · refine E_aload_n (pc := 21) hx 0 dX5_isRoofRead_21 rfl rfl ?_
    refine E_getR (pc := 22) hx 0 fc5 h0 (hx.ci h0 (Nat.le_of_ble_eq_true rfl)) rfl ⟨rfl, rfl, rfl⟩ g231 dX5_isRoofRead_22 ?_
    refine I_cVV  (pc := 25) hx [] [] (ev_X9_step F (shR a0 0) (kt_5_0 h0) w) vm_X9_step fc7 (kt_5_0 h0) (hx.ci (kt_5_0 h0) (Nat.le_of_ble_eq_true rfl)) g374 dX5_isRoofRead_25 rfl rfl (Nat.le_of_ble_eq_true rfl) (Nat.le_of_ble_eq_true rfl) (Nat.le_of_ble_eq_true rfl) (fun w2 => ?_)
    refine E_aload_n (pc := 28) hx 0 dX5_isRoofRead_28 rfl rfl ?_
    refine E_getR (pc := 29) hx 0 fc5 h0 (hx.ci h0 (Nat.le_of_ble_eq_true rfl)) rfl ⟨rfl, rfl, rfl⟩ g231 dX5_isRoofRead_29 ?_
    refine I_cVIW  (pc := 32) hx [] [] (ev_X9_nameHere F (shR a0 0) (kt_5_0 h0) w2) vm_X9_nameHere fc7 (kt_5_0 h0) (hx.ci (kt_5_0 h0) (Nat.le_of_ble_eq_true rfl)) g375 dX5_isRoofRead_32 rfl rfl (Nat.le_of_ble_eq_true rfl) (Nat.le_of_ble_eq_true rfl) (Nat.le_of_ble_eq_true rfl) (fun r3 w4 => ?_)
    refine E_istore_n (pc := 35) hx dX5_isRoofRead_35 rfl (Nat.le_of_ble_eq_true rfl) rfl ?_
    refine E_iload_n (pc := 36) hx 0 dX5_isRoofRead_36 rfl rfl ?_
    refine I_iconst (pc := 37) hx (-1) dX5_isRoofRead_37 ?_
    refine E_gd (fun hr5 => ?_)
    refine I_icmp_ne (pc := 38) hx 43 dX5_isRoofRead_38 rfl ⟨hr5, (by decide)⟩ ?_ ?_
    · refine E_aload_n (pc := 43) hx 1 dX5_isRoofRead_43 rfl rfl ?_
      refine E_getR (pc := 44) hx 1 fc5 h0 (hx.ci h0 (Nat.le_of_ble_eq_true rfl)) rfl ⟨rfl, rfl, rfl⟩ g232 dX5_isRoofRead_44 ?_
      refine E_iload_n (pc := 47) hx 0 dX5_isRoofRead_47 rfl rfl ?_
      refine I_cVI  (pc := 48) hx [.int (oI r3)] [] (ev_X2_roofNamed F (shR a0 1) (kt_5_1 h0) r3 w4) vm_X2_roofNamed fc2 (kt_5_1 h0) (hx.ci (kt_5_1 h0) (Nat.le_of_ble_eq_true rfl)) g380 dX5_isRoofRead_48 rfl rfl (Nat.le_of_ble_eq_true rfl) (Nat.le_of_ble_eq_true rfl) (Nat.le_of_ble_eq_true rfl) (fun r6 => ?_)
      refine I_iconst (pc := 51) hx (-1) dX5_isRoofRead_51 ?_
      refine E_gd (fun hr7 => ?_)
      refine I_icmp_eq (pc := 52) hx 64 dX5_isRoofRead_52 rfl ⟨hr7, (by decide)⟩ ?_ ?_
      · refine E_aload_n (pc := 64) hx 1 dX5_isRoofRead_64 rfl rfl ?_
        refine E_getR (pc := 65) hx 0 fc5 h0 (hx.ci h0 (Nat.le_of_ble_eq_true rfl)) rfl ⟨rfl, rfl, rfl⟩ g231 dX5_isRoofRead_65 ?_
        refine I_cVV  (pc := 68) hx [] [] (ev_X9_step F (shR a0 0) (kt_5_0 h0) w4) vm_X9_step fc7 (kt_5_0 h0) (hx.ci (kt_5_0 h0) (Nat.le_of_ble_eq_true rfl)) g374 dX5_isRoofRead_68 rfl rfl (Nat.le_of_ble_eq_true rfl) (Nat.le_of_ble_eq_true rfl) (Nat.le_of_ble_eq_true rfl) (fun w8 => ?_)
        refine E_aload_n (pc := 71) hx 1 dX5_isRoofRead_71 rfl rfl ?_
        refine E_getR (pc := 72) hx 0 fc5 h0 (hx.ci h0 (Nat.le_of_ble_eq_true rfl)) rfl ⟨rfl, rfl, rfl⟩ g231 dX5_isRoofRead_72 ?_
        refine I_iconst (pc := 75) hx 1 dX5_isRoofRead_75 ?_
        refine I_bipush (pc := 76) hx 8 dX5_isRoofRead_76 rfl ?_
        refine I_cVIW  (pc := 78) hx [.int (oI 1), .int (oI 8)] [] (ev_X9_takeNumber F (shR a0 0) (kt_5_0 h0) 1 8 w8) vm_X9_takeNumber fc7 (kt_5_0 h0) (hx.ci (kt_5_0 h0) (Nat.le_of_ble_eq_true rfl)) g388 dX5_isRoofRead_78 rfl rfl (Nat.le_of_ble_eq_true rfl) (Nat.le_of_ble_eq_true rfl) (Nat.le_of_ble_eq_true rfl) (fun r9 w10 => ?_)
        refine E_istore_n (pc := 81) hx dX5_isRoofRead_81 rfl (Nat.le_of_ble_eq_true rfl) rfl ?_
        refine E_iload_n (pc := 82) hx 0 dX5_isRoofRead_82 rfl rfl ?_
        refine I_iconst (pc := 83) hx (-1) dX5_isRoofRead_83 ?_
        refine E_gd (fun hr11 => ?_)
        refine I_icmp_ne (pc := 84) hx 91 dX5_isRoofRead_84 rfl ⟨hr11, (by decide)⟩ ?_ ?_
        · refine E_aload_n (pc := 91) hx 2 dX5_isRoofRead_91 rfl rfl ?_
          refine E_getR (pc := 92) hx 0 fc5 h0 (hx.ci h0 (Nat.le_of_ble_eq_true rfl)) rfl ⟨rfl, rfl, rfl⟩ g231 dX5_isRoofRead_92 ?_
          refine I_iconst (pc := 95) hx 0 dX5_isRoofRead_95 ?_
          refine I_bipush (pc := 96) hx 9 dX5_isRoofRead_96 rfl ?_
          refine I_cVIW  (pc := 98) hx [.int (oI 0), .int (oI 9)] [] (ev_X9_takeNumber F (shR a0 0) (kt_5_0 h0) 0 9 w10) vm_X9_takeNumber fc7 (kt_5_0 h0) (hx.ci (kt_5_0 h0) (Nat.le_of_ble_eq_true rfl)) g388 dX5_isRoofRead_98 rfl rfl (Nat.le_of_ble_eq_true rfl) (Nat.le_of_ble_eq_true rfl) (Nat.le_of_ble_eq_true rfl) (fun r12 w13 => ?_)
          refine En.sub [2, 1, 0] rfl ?_
          exact l_X5_isRoofRead_b101 F a0 h0 hx r3 r9 r12 w13
        refine I_iconst (pc := 87) hx (-1) dX5_isRoofRead_87 ?_
        refine E_goto (pc := 88) hx 101 dX5_isRoofRead_88 rfl ?_
        refine En.sub [2, 1, 0] rfl ?_
        exact l_X5_isRoofRead_b101 F a0 h0 hx r3 r9 (-1) w10
      refine E_aload_n (pc := 55) hx 1 dX5_isRoofRead_55 rfl rfl ?_
      refine E_getR (pc := 56) hx 0 fc5 h0 (hx.ci h0 (Nat.le_of_ble_eq_true rfl)) rfl ⟨rfl, rfl, rfl⟩ g231 dX5_isRoofRead_56 ?_
      refine I_iconst (pc := 59) hx 3 dX5_isRoofRead_59 ?_
      refine I_cVBW  (pc := 60) hx [.int (oI 3)] [] (ev_X9_fail F (shR a0 0) (kt_5_0 h0) 3 w4) vm_X9_fail fc7 (kt_5_0 h0) (hx.ci (kt_5_0 h0) (Nat.le_of_ble_eq_true rfl)) g370 dX5_isRoofRead_60 rfl rfl (Nat.le_of_ble_eq_true rfl) (Nat.le_of_ble_eq_true rfl) (Nat.le_of_ble_eq_true rfl) (fun r24 w25 => ?_)
      exact E_zret (pc := 63) hx dX5_isRoofRead_63 rfl (bI_nar _) rfl (Nat.le_of_ble_eq_true rfl)
    refine I_iconst (pc := 41) hx 0 dX5_isRoofRead_41 ?_
    exact E_zret (pc := 42) hx dX5_isRoofRead_42 rfl rfl rfl (Nat.le_of_ble_eq_true rfl)
  refine E_aload_n (pc := 12) hx 0 dX5_isRoofRead_12 rfl rfl ?_
  refine E_getR (pc := 13) hx 0 fc5 h0 (hx.ci h0 (Nat.le_of_ble_eq_true rfl)) rfl ⟨rfl, rfl, rfl⟩ g231 dX5_isRoofRead_13 ?_
  refine I_iconst (pc := 16) hx 5 dX5_isRoofRead_16 ?_
  refine I_cVBW  (pc := 17) hx [.int (oI 5)] [] (ev_X9_fail F (shR a0 0) (kt_5_0 h0) 5 w) vm_X9_fail fc7 (kt_5_0 h0) (hx.ci (kt_5_0 h0) (Nat.le_of_ble_eq_true rfl)) g370 dX5_isRoofRead_17 rfl rfl (Nat.le_of_ble_eq_true rfl) (Nat.le_of_ble_eq_true rfl) (Nat.le_of_ble_eq_true rfl) (fun r26 w27 => ?_)
  exact E_zret (pc := 20) hx dX5_isRoofRead_20 rfl (bI_nar _) rfl (Nat.le_of_ble_eq_true rfl)
set_option maxHeartbeats 4000000 in
set_option maxRecDepth 100000 in
theorem ev_X9_roofHere (F : Nat) (a0 : Nat) (h0 : shK a0 = 10 + 7) (a1 : Nat) (h1 : shK a1 = 10 + 2) (p2 : Int) (w : aI) : Ev yX9_roofHere cX9_roofHere 5 (some .int) 2 0 jvIW [.ref a0, .ref a1, .int (oI p2)] (cm w) (f_X9_roofHere F a0 a1 p2 w) := by
  refine Ev.of (own := RX9) (by decide +kernel) rfl (Nat.le_of_ble_eq_true rfl) (fun x hx => ?_)
  show En x jvIW 0 0 0 [(0, .ref a0), (1, .ref a1), (2, .int (oI p2))] [] (cm w) _
  unfold f_X9_roofHere
  refine E_aload_n (pc := 0) hx 0 dX9_roofHere_0 rfl rfl ?_
  refine I_cVIW  (pc := 1) hx [] [] (ev_X9_nameHere F a0 h0 w) vm_X9_nameHere fc7 h0 (hx.ci h0 (Nat.le_of_ble_eq_true rfl)) g413 dX9_roofHere_1 rfl rfl (Nat.le_of_ble_eq_true rfl) (Nat.le_of_ble_eq_true rfl) (Nat.le_of_ble_eq_true rfl) (fun r1 w2 => ?_)
  refine E_istore_n (pc := 4) hx dX9_roofHere_4 rfl (Nat.le_of_ble_eq_true rfl) rfl ?_
  refine E_iload_n (pc := 5) hx 0 dX9_roofHere_5 rfl rfl ?_
  refine I_iconst (pc := 6) hx (-1) dX9_roofHere_6 ?_
  refine E_gd (fun hr3 => ?_)
  refine I_icmp_ne (pc := 7) hx 12 dX9_roofHere_7 rfl ⟨hr3, (by decide)⟩ ?_ ?_
  · refine E_aload_n (pc := 12) hx 2 dX9_roofHere_12 rfl rfl ?_
    refine E_iload_n (pc := 13) hx 0 dX9_roofHere_13 rfl rfl ?_
    refine I_cVI  (pc := 14) hx [.int (oI r1)] [] (ev_X2_roofNamed F a1 h1 r1 w2) vm_X2_roofNamed fc2 h1 (hx.ci h1 (Nat.le_of_ble_eq_true rfl)) g414 dX9_roofHere_14 rfl rfl (Nat.le_of_ble_eq_true rfl) (Nat.le_of_ble_eq_true rfl) (Nat.le_of_ble_eq_true rfl) (fun r4 => ?_)
    refine E_istore (pc := 17) hx dX9_roofHere_17 (Nat.le_of_ble_eq_true rfl) rfl ?_
    refine E_iload (pc := 19) hx 0 dX9_roofHere_19 rfl ?_
    refine I_iconst (pc := 21) hx (-1) dX9_roofHere_21 ?_
    refine E_gd (fun hr5 => ?_)
    refine I_icmp_eq (pc := 22) hx 31 dX9_roofHere_22 rfl ⟨hr5, (by decide)⟩ ?_ ?_
    · refine E_aload_n (pc := 31) hx 2 dX9_roofHere_31 rfl rfl ?_
      refine I_iconst (pc := 32) hx 3 dX9_roofHere_32 ?_
      refine I_cVBW  (pc := 33) hx [.int (oI 3)] [] (ev_X9_fail F a0 h0 3 w2) vm_X9_fail fc7 h0 (hx.ci h0 (Nat.le_of_ble_eq_true rfl)) g379 dX9_roofHere_33 rfl rfl (Nat.le_of_ble_eq_true rfl) (Nat.le_of_ble_eq_true rfl) (Nat.le_of_ble_eq_true rfl) (fun r6 w7 => ?_)
      refine E_pop (pc := 36) hx dX9_roofHere_36 rfl ?_
      refine I_iconst (pc := 37) hx (-1) dX9_roofHere_37 ?_
      exact E_iret (pc := 38) hx dX9_roofHere_38 rfl rfl (Nat.le_of_ble_eq_true rfl)
    refine E_iload (pc := 25) hx 0 dX9_roofHere_25 rfl ?_
    refine E_iload_n (pc := 27) hx 4 dX9_roofHere_27 rfl rfl ?_
    refine E_gd (fun hr8 => ?_)
    refine I_icmp_ne (pc := 28) hx 39 dX9_roofHere_28 rfl ⟨hr5, hr8⟩ ?_ ?_
    · refine E_iload (pc := 39) hx 0 dX9_roofHere_39 rfl ?_
      exact E_iret (pc := 41) hx dX9_roofHere_41 rfl rfl (Nat.le_of_ble_eq_true rfl)
    refine E_aload_n (pc := 31) hx 2 dX9_roofHere_31 rfl rfl ?_
    refine I_iconst (pc := 32) hx 3 dX9_roofHere_32 ?_
    refine I_cVBW  (pc := 33) hx [.int (oI 3)] [] (ev_X9_fail F a0 h0 3 w2) vm_X9_fail fc7 h0 (hx.ci h0 (Nat.le_of_ble_eq_true rfl)) g379 dX9_roofHere_33 rfl rfl (Nat.le_of_ble_eq_true rfl) (Nat.le_of_ble_eq_true rfl) (Nat.le_of_ble_eq_true rfl) (fun r9 w10 => ?_)
    refine E_pop (pc := 36) hx dX9_roofHere_36 rfl ?_
    refine I_iconst (pc := 37) hx (-1) dX9_roofHere_37 ?_
    exact E_iret (pc := 38) hx dX9_roofHere_38 rfl rfl (Nat.le_of_ble_eq_true rfl)
  refine I_iconst (pc := 10) hx (-1) dX9_roofHere_10 ?_
  exact E_iret (pc := 11) hx dX9_roofHere_11 rfl rfl (Nat.le_of_ble_eq_true rfl)
set_option maxHeartbeats 4000000 in
set_option maxRecDepth 100000 in
theorem ev_X5_isWayRead (F : Nat) (a0 : Nat) (h0 : shK a0 = 10 + 5) (w : aI) : Ev yX5_isWayRead cX5_isWayRead 4 (some .boolean) 3 0 jvBW [.ref a0] (cm w) (f_X5_isWayRead F a0 w) := by
  refine Ev.of (own := RX5) (by decide +kernel) rfl (Nat.le_of_ble_eq_true rfl) (fun x hx => ?_)
  show En x jvBW 0 0 0 [(0, .ref a0)] [] (cm w) _
  unfold f_X5_isWayRead
  refine E_aload_n (pc := 0) hx 0 dX5_isWayRead_0 rfl rfl ?_
  refine E_getR (pc := 1) hx 1 fc5 h0 (hx.ci h0 (Nat.le_of_ble_eq_true rfl)) rfl ⟨rfl, rfl, rfl⟩ g232 dX5_isWayRead_1 ?_
  refine I_getI (pc := 4) hx 2 2 rfl fc2 (kt_5_1 h0) (hx.ci (kt_5_1 h0) (Nat.le_of_ble_eq_true rfl)) rfl ⟨rfl, rfl, rfl⟩ g132 dX5_isWayRead_4 ?_
  refine I_bipush (pc := 7) hx 20 dX5_isWayRead_7 rfl ?_
  refine E_gd (fun hr1 => ?_)
  refine I_icmp_lt (pc := 9) hx 21 dX5_isWayRead_9 rfl ⟨hr1, (by decide)⟩ ?_ ?_
  · refine E_aload_n (pc := 21) hx 0 dX5_isWayRead_21 rfl rfl ?_
    refine E_getR (pc := 22) hx 0 fc5 h0 (hx.ci h0 (Nat.le_of_ble_eq_true rfl)) rfl ⟨rfl, rfl, rfl⟩ g231 dX5_isWayRead_22 ?_
    refine I_cVV  (pc := 25) hx [] [] (ev_X9_step F (shR a0 0) (kt_5_0 h0) w) vm_X9_step fc7 (kt_5_0 h0) (hx.ci (kt_5_0 h0) (Nat.le_of_ble_eq_true rfl)) g374 dX5_isWayRead_25 rfl rfl (Nat.le_of_ble_eq_true rfl) (Nat.le_of_ble_eq_true rfl) (Nat.le_of_ble_eq_true rfl) (fun w2 => ?_)
    refine E_aload_n (pc := 28) hx 0 dX5_isWayRead_28 rfl rfl ?_
    refine E_getR (pc := 29) hx 0 fc5 h0 (hx.ci h0 (Nat.le_of_ble_eq_true rfl)) rfl ⟨rfl, rfl, rfl⟩ g231 dX5_isWayRead_29 ?_
    refine E_aload_n (pc := 32) hx 0 dX5_isWayRead_32 rfl rfl ?_
    refine E_getR (pc := 33) hx 1 fc5 h0 (hx.ci h0 (Nat.le_of_ble_eq_true rfl)) rfl ⟨rfl, rfl, rfl⟩ g232 dX5_isWayRead_33 ?_
    refine I_iconst (pc := 36) hx (-1) dX5_isWayRead_36 ?_
    refine I_cVIW  (pc := 37) hx [.ref (shR a0 1), .int (oI (-1))] [] (ev_X9_roofHere F (shR a0 0) (kt_5_0 h0) (shR a0 1) (kt_5_1 h0) (-1) w2) vm_X9_roofHere fc7 (kt_5_0 h0) (hx.ci (kt_5_0 h0) (Nat.le_of_ble_eq_true rfl)) g409 dX5_isWayRead_37 rfl rfl (Nat.le_of_ble_eq_true rfl) (Nat.le_of_ble_eq_true rfl) (Nat.le_of_ble_eq_true rfl) (fun r3 w4 => ?_)
    refine E_istore_n (pc := 40) hx dX5_isWayRead_40 rfl (Nat.le_of_ble_eq_true rfl) rfl ?_
    refine E_iload_n (pc := 41) hx 0 dX5_isWayRead_41 rfl rfl ?_
    refine I_iconst (pc := 42) hx (-1) dX5_isWayRead_42 ?_
    refine E_gd (fun hr5 => ?_)
    refine I_icmp_ne (pc := 43) hx 48 dX5_isWayRead_43 rfl ⟨hr5, (by decide)⟩ ?_ ?_
    · refine E_aload_n (pc := 48) hx 1 dX5_isWayRead_48 rfl rfl ?_
      refine E_getR (pc := 49) hx 0 fc5 h0 (hx.ci h0 (Nat.le_of_ble_eq_true rfl)) rfl ⟨rfl, rfl, rfl⟩ g231 dX5_isWayRead_49 ?_
      refine I_cVV  (pc := 52) hx [] [] (ev_X9_step F (shR a0 0) (kt_5_0 h0) w4) vm_X9_step fc7 (kt_5_0 h0) (hx.ci (kt_5_0 h0) (Nat.le_of_ble_eq_true rfl)) g374 dX5_isWayRead_52 rfl rfl (Nat.le_of_ble_eq_true rfl) (Nat.le_of_ble_eq_true rfl) (Nat.le_of_ble_eq_true rfl) (fun w6 => ?_)
      refine E_aload_n (pc := 55) hx 1 dX5_isWayRead_55 rfl rfl ?_
      refine E_getR (pc := 56) hx 0 fc5 h0 (hx.ci h0 (Nat.le_of_ble_eq_true rfl)) rfl ⟨rfl, rfl, rfl⟩ g231 dX5_isWayRead_56 ?_
      refine E_aload_n (pc := 59) hx 1 dX5_isWayRead_59 rfl rfl ?_
      refine E_getR (pc := 60) hx 1 fc5 h0 (hx.ci h0 (Nat.le_of_ble_eq_true rfl)) rfl ⟨rfl, rfl, rfl⟩ g232 dX5_isWayRead_60 ?_
      refine E_iload_n (pc := 63) hx 0 dX5_isWayRead_63 rfl rfl ?_
      refine I_cVIW  (pc := 64) hx [.ref (shR a0 1), .int (oI r3)] [] (ev_X9_roofHere F (shR a0 0) (kt_5_0 h0) (shR a0 1) (kt_5_1 h0) r3 w6) vm_X9_roofHere fc7 (kt_5_0 h0) (hx.ci (kt_5_0 h0) (Nat.le_of_ble_eq_true rfl)) g409 dX5_isWayRead_64 rfl rfl (Nat.le_of_ble_eq_true rfl) (Nat.le_of_ble_eq_true rfl) (Nat.le_of_ble_eq_true rfl) (fun r7 w8 => ?_)
      refine E_istore_n (pc := 67) hx dX5_isWayRead_67 rfl (Nat.le_of_ble_eq_true rfl) rfl ?_
      refine E_iload_n (pc := 68) hx 0 dX5_isWayRead_68 rfl rfl ?_
      refine I_iconst (pc := 69) hx (-1) dX5_isWayRead_69 ?_
      refine E_gd (fun hr9 => ?_)
      refine I_icmp_ne (pc := 70) hx 75 dX5_isWayRead_70 rfl ⟨hr9, (by decide)⟩ ?_ ?_
      · refine E_aload_n (pc := 75) hx 2 dX5_isWayRead_75 rfl rfl ?_
        refine E_getR (pc := 76) hx 1 fc5 h0 (hx.ci h0 (Nat.le_of_ble_eq_true rfl)) rfl ⟨rfl, rfl, rfl⟩ g232 dX5_isWayRead_76 ?_
        refine E_iload_n (pc := 79) hx 1 dX5_isWayRead_79 rfl rfl ?_
        refine E_iload_n (pc := 80) hx 0 dX5_isWayRead_80 rfl rfl ?_
        refine I_cVI  (pc := 81) hx [.int (oI r3), .int (oI r7)] [] (ev_X2_wayBetween F (shR a0 1) (kt_5_1 h0) r3 r7 w8) vm_X2_wayBetween fc2 (kt_5_1 h0) (hx.ci (kt_5_1 h0) (Nat.le_of_ble_eq_true rfl)) g415 dX5_isWayRead_81 rfl rfl (Nat.le_of_ble_eq_true rfl) (Nat.le_of_ble_eq_true rfl) (Nat.le_of_ble_eq_true rfl) (fun r10 => ?_)
        refine I_iconst (pc := 84) hx (-1) dX5_isWayRead_84 ?_
        refine E_gd (fun hr11 => ?_)
        refine I_icmp_eq (pc := 85) hx 97 dX5_isWayRead_85 rfl ⟨hr11, (by decide)⟩ ?_ ?_
        · refine E_aload_n (pc := 97) hx 2 dX5_isWayRead_97 rfl rfl ?_
          refine E_getR (pc := 98) hx 0 fc5 h0 (hx.ci h0 (Nat.le_of_ble_eq_true rfl)) rfl ⟨rfl, rfl, rfl⟩ g231 dX5_isWayRead_98 ?_
          refine I_cVV  (pc := 101) hx [] [] (ev_X9_step F (shR a0 0) (kt_5_0 h0) w8) vm_X9_step fc7 (kt_5_0 h0) (hx.ci (kt_5_0 h0) (Nat.le_of_ble_eq_true rfl)) g374 dX5_isWayRead_101 rfl rfl (Nat.le_of_ble_eq_true rfl) (Nat.le_of_ble_eq_true rfl) (Nat.le_of_ble_eq_true rfl) (fun w12 => ?_)
          refine E_aload_n (pc := 104) hx 2 dX5_isWayRead_104 rfl rfl ?_
          refine E_getR (pc := 105) hx 0 fc5 h0 (hx.ci h0 (Nat.le_of_ble_eq_true rfl)) rfl ⟨rfl, rfl, rfl⟩ g231 dX5_isWayRead_105 ?_
          refine I_iconst (pc := 108) hx 1 dX5_isWayRead_108 ?_
          refine I_bipush (pc := 109) hx 9 dX5_isWayRead_109 rfl ?_
          refine I_cVIW  (pc := 111) hx [.int (oI 1), .int (oI 9)] [] (ev_X9_takeNumber F (shR a0 0) (kt_5_0 h0) 1 9 w12) vm_X9_takeNumber fc7 (kt_5_0 h0) (hx.ci (kt_5_0 h0) (Nat.le_of_ble_eq_true rfl)) g388 dX5_isWayRead_111 rfl rfl (Nat.le_of_ble_eq_true rfl) (Nat.le_of_ble_eq_true rfl) (Nat.le_of_ble_eq_true rfl) (fun r13 w14 => ?_)
          refine E_istore_n (pc := 114) hx dX5_isWayRead_114 rfl (Nat.le_of_ble_eq_true rfl) rfl ?_
          refine E_iload_n (pc := 115) hx 0 dX5_isWayRead_115 rfl rfl ?_
          refine I_iconst (pc := 116) hx (-1) dX5_isWayRead_116 ?_
          refine E_gd (fun hr15 => ?_)
          refine I_icmp_eq (pc := 117) hx 130 dX5_isWayRead_117 rfl ⟨hr15, (by decide)⟩ ?_ ?_
          · refine I_iconst (pc := 130) hx 0 dX5_isWayRead_130 ?_
            exact E_zret (pc := 131) hx dX5_isWayRead_131 rfl rfl rfl (Nat.le_of_ble_eq_true rfl)
          refine E_aload_n (pc := 120) hx 3 dX5_isWayRead_120 rfl rfl ?_
          refine E_getR (pc := 121) hx 0 fc5 h0 (hx.ci h0 (Nat.le_of_ble_eq_true rfl)) rfl ⟨rfl, rfl, rfl⟩ g231 dX5_isWayRead_121 ?_
          refine I_cVBW  (pc := 124) hx [] [] (ev_X9_isSemicolonTaken F (shR a0 0) (kt_5_0 h0) w14) vm_X9_isSemicolonTaken fc7 (kt_5_0 h0) (hx.ci (kt_5_0 h0) (Nat.le_of_ble_eq_true rfl)) g396 dX5_isWayRead_124 rfl rfl (Nat.le_of_ble_eq_true rfl) (Nat.le_of_ble_eq_true rfl) (Nat.le_of_ble_eq_true rfl) (fun r16 w17 => ?_)
          refine I_ifB_ne (pc := 127) hx 132 dX5_isWayRead_127 rfl ?_ ?_
          · refine E_aload_n (pc := 132) hx 3 dX5_isWayRead_132 rfl rfl ?_
            refine E_getR (pc := 133) hx 1 fc5 h0 (hx.ci h0 (Nat.le_of_ble_eq_true rfl)) rfl ⟨rfl, rfl, rfl⟩ g232 dX5_isWayRead_133 ?_
            refine E_iload_n (pc := 136) hx 2 dX5_isWayRead_136 rfl rfl ?_
            refine E_iload_n (pc := 137) hx 1 dX5_isWayRead_137 rfl rfl ?_
            refine E_iload_n (pc := 138) hx 0 dX5_isWayRead_138 rfl rfl ?_
            refine I_cVV  (pc := 139) hx [.int (oI r3), .int (oI r7), .int (oI r13)] [] (ev_X2_addWay F (shR a0 1) (kt_5_1 h0) r3 r7 r13 w17) vm_X2_addWay fc2 (kt_5_1 h0) (hx.ci (kt_5_1 h0) (Nat.le_of_ble_eq_true rfl)) g423 dX5_isWayRead_139 rfl rfl (Nat.le_of_ble_eq_true rfl) (Nat.le_of_ble_eq_true rfl) (Nat.le_of_ble_eq_true rfl) (fun w18 => ?_)
            refine I_iconst (pc := 142) hx 1 dX5_isWayRead_142 ?_
            exact E_zret (pc := 143) hx dX5_isWayRead_143 rfl rfl rfl (Nat.le_of_ble_eq_true rfl)
          refine I_iconst (pc := 130) hx 0 dX5_isWayRead_130 ?_
          exact E_zret (pc := 131) hx dX5_isWayRead_131 rfl rfl rfl (Nat.le_of_ble_eq_true rfl)
        refine E_aload_n (pc := 88) hx 2 dX5_isWayRead_88 rfl rfl ?_
        refine E_getR (pc := 89) hx 0 fc5 h0 (hx.ci h0 (Nat.le_of_ble_eq_true rfl)) rfl ⟨rfl, rfl, rfl⟩ g231 dX5_isWayRead_89 ?_
        refine I_iconst (pc := 92) hx 4 dX5_isWayRead_92 ?_
        refine I_cVBW  (pc := 93) hx [.int (oI 4)] [] (ev_X9_fail F (shR a0 0) (kt_5_0 h0) 4 w8) vm_X9_fail fc7 (kt_5_0 h0) (hx.ci (kt_5_0 h0) (Nat.le_of_ble_eq_true rfl)) g370 dX5_isWayRead_93 rfl rfl (Nat.le_of_ble_eq_true rfl) (Nat.le_of_ble_eq_true rfl) (Nat.le_of_ble_eq_true rfl) (fun r19 w20 => ?_)
        exact E_zret (pc := 96) hx dX5_isWayRead_96 rfl (bI_nar _) rfl (Nat.le_of_ble_eq_true rfl)
      refine I_iconst (pc := 73) hx 0 dX5_isWayRead_73 ?_
      exact E_zret (pc := 74) hx dX5_isWayRead_74 rfl rfl rfl (Nat.le_of_ble_eq_true rfl)
    refine I_iconst (pc := 46) hx 0 dX5_isWayRead_46 ?_
    exact E_zret (pc := 47) hx dX5_isWayRead_47 rfl rfl rfl (Nat.le_of_ble_eq_true rfl)
  refine E_aload_n (pc := 12) hx 0 dX5_isWayRead_12 rfl rfl ?_
  refine E_getR (pc := 13) hx 0 fc5 h0 (hx.ci h0 (Nat.le_of_ble_eq_true rfl)) rfl ⟨rfl, rfl, rfl⟩ g231 dX5_isWayRead_13 ?_
  refine I_iconst (pc := 16) hx 5 dX5_isWayRead_16 ?_
  refine I_cVBW  (pc := 17) hx [.int (oI 5)] [] (ev_X9_fail F (shR a0 0) (kt_5_0 h0) 5 w) vm_X9_fail fc7 (kt_5_0 h0) (hx.ci (kt_5_0 h0) (Nat.le_of_ble_eq_true rfl)) g370 dX5_isWayRead_17 rfl rfl (Nat.le_of_ble_eq_true rfl) (Nat.le_of_ble_eq_true rfl) (Nat.le_of_ble_eq_true rfl) (fun r21 w22 => ?_)
  exact E_zret (pc := 20) hx dX5_isWayRead_20 rfl (bI_nar _) rfl (Nat.le_of_ble_eq_true rfl)
set_option maxHeartbeats 4000000 in
set_option maxRecDepth 100000 in
theorem ev_X9_settingWord (F : Nat) (a0 : Nat) (h0 : shK a0 = 10 + 7) (w : aI) : Ev yX9_settingWord cX9_settingWord 1 (some .int) 7 0 (jvI w) [.ref a0] (cm w) (f_X9_settingWord F a0 w) := by
  refine Ev.of (own := RX9) (by decide +kernel) rfl (Nat.le_of_ble_eq_true rfl) (fun x hx => ?_)
  show En x (jvI w) 0 0 0 [(0, .ref a0)] [] (cm w) _
  unfold f_X9_settingWord
  refine E_aload_n (pc := 0) hx 0 dX9_settingWord_0 rfl rfl ?_
  refine E_ldcS (pc := 1) hx (tx := xTx.getD 20 "") 20 (by decide +kernel) dX9_settingWord_1 ?_
  refine I_cVB  (pc := 3) hx [.ref (sx 20)] [] (ev_X9_isWord F a0 h0 20 w) vm_X9_isWord fc7 h0 (hx.ci h0 (Nat.le_of_ble_eq_true rfl)) g432 dX9_settingWord_3 rfl rfl (Nat.le_of_ble_eq_true rfl) (Nat.le_of_ble_eq_true rfl) (Nat.le_of_ble_eq_true rfl) (fun r1 => ?_)
  refine I_ifB_eq (pc := 6) hx 12 dX9_settingWord_6 rfl ?_ ?_
  · refine E_aload_n (pc := 12) hx 0 dX9_settingWord_12 rfl rfl ?_
    refine E_ldcS (pc := 13) hx (tx := xTx.getD 21 "") 21 (by decide +kernel) dX9_settingWord_13 ?_
    refine I_cVB  (pc := 15) hx [.ref (sx 21)] [] (ev_X9_isWord F a0 h0 21 w) vm_X9_isWord fc7 h0 (hx.ci h0 (Nat.le_of_ble_eq_true rfl)) g432 dX9_settingWord_15 rfl rfl (Nat.le_of_ble_eq_true rfl) (Nat.le_of_ble_eq_true rfl) (Nat.le_of_ble_eq_true rfl) (fun r2 => ?_)
    refine I_ifB_eq (pc := 18) hx 24 dX9_settingWord_18 rfl ?_ ?_
    · refine E_aload_n (pc := 24) hx 0 dX9_settingWord_24 rfl rfl ?_
      refine E_ldcS (pc := 25) hx (tx := xTx.getD 22 "") 22 (by decide +kernel) dX9_settingWord_25 ?_
      refine I_cVB  (pc := 27) hx [.ref (sx 22)] [] (ev_X9_isWord F a0 h0 22 w) vm_X9_isWord fc7 h0 (hx.ci h0 (Nat.le_of_ble_eq_true rfl)) g432 dX9_settingWord_27 rfl rfl (Nat.le_of_ble_eq_true rfl) (Nat.le_of_ble_eq_true rfl) (Nat.le_of_ble_eq_true rfl) (fun r3 => ?_)
      refine I_ifB_eq (pc := 30) hx 38 dX9_settingWord_30 rfl ?_ ?_
      · refine I_iconst (pc := 38) hx (-1) dX9_settingWord_38 ?_
        exact E_iret (pc := 39) hx dX9_settingWord_39 rfl rfl (Nat.le_of_ble_eq_true rfl)
      refine I_bipush (pc := 33) hx 10 dX9_settingWord_33 rfl ?_
      refine E_goto (pc := 35) hx 39 dX9_settingWord_35 rfl ?_
      exact E_iret (pc := 39) hx dX9_settingWord_39 rfl rfl (Nat.le_of_ble_eq_true rfl)
    refine I_bipush (pc := 21) hx 9 dX9_settingWord_21 rfl ?_
    exact E_iret (pc := 23) hx dX9_settingWord_23 rfl rfl (Nat.le_of_ble_eq_true rfl)
  refine I_bipush (pc := 9) hx 8 dX9_settingWord_9 rfl ?_
  exact E_iret (pc := 11) hx dX9_settingWord_11 rfl rfl (Nat.le_of_ble_eq_true rfl)
set_option maxHeartbeats 4000000 in
set_option maxRecDepth 100000 in
theorem ev_X5_isSettingRead (F : Nat) (a0 : Nat) (h0 : shK a0 = 10 + 5) (p1 : Int) (w : aI) : Ev yX5_isSettingRead cX5_isSettingRead 3 (some .boolean) 3 0 jvBW [.ref a0, .int (oI p1)] (cm w) (f_X5_isSettingRead F a0 p1 w) := by
  refine Ev.of (own := RX5) (by decide +kernel) rfl (Nat.le_of_ble_eq_true rfl) (fun x hx => ?_)
  show En x jvBW 0 0 0 [(0, .ref a0), (1, .int (oI p1))] [] (cm w) _
  unfold f_X5_isSettingRead
  refine E_aload_n (pc := 0) hx 0 dX5_isSettingRead_0 rfl rfl ?_
  refine E_getR (pc := 1) hx 0 fc5 h0 (hx.ci h0 (Nat.le_of_ble_eq_true rfl)) rfl ⟨rfl, rfl, rfl⟩ g231 dX5_isSettingRead_1 ?_
  refine I_cVV  (pc := 4) hx [] [] (ev_X9_step F (shR a0 0) (kt_5_0 h0) w) vm_X9_step fc7 (kt_5_0 h0) (hx.ci (kt_5_0 h0) (Nat.le_of_ble_eq_true rfl)) g374 dX5_isSettingRead_4 rfl rfl (Nat.le_of_ble_eq_true rfl) (Nat.le_of_ble_eq_true rfl) (Nat.le_of_ble_eq_true rfl) (fun w1 => ?_)
  refine E_aload_n (pc := 7) hx 0 dX5_isSettingRead_7 rfl rfl ?_
  refine E_getR (pc := 8) hx 0 fc5 h0 (hx.ci h0 (Nat.le_of_ble_eq_true rfl)) rfl ⟨rfl, rfl, rfl⟩ g231 dX5_isSettingRead_8 ?_
  refine E_iload_n (pc := 11) hx 1 dX5_isSettingRead_11 rfl rfl ?_
  refine I_cSI  (pc := 12) hx [.int (oI p1)] [.ref (shR a0 0)] (ev_X2_leastOf F p1 w1) sm_X2_leastOf g439 dX5_isSettingRead_12 rfl rfl (Nat.le_of_ble_eq_true rfl) (Nat.le_of_ble_eq_true rfl) (Nat.le_of_ble_eq_true rfl) (fun r2 => ?_)
  refine E_iload_n (pc := 15) hx 1 dX5_isSettingRead_15 rfl rfl ?_
  refine I_cSI  (pc := 16) hx [.int (oI p1)] [.int (oI r2), .ref (shR a0 0)] (ev_X2_mostOf F p1 w1) sm_X2_mostOf g442 dX5_isSettingRead_16 rfl rfl (Nat.le_of_ble_eq_true rfl) (Nat.le_of_ble_eq_true rfl) (Nat.le_of_ble_eq_true rfl) (fun r3 => ?_)
  refine I_cVIW  (pc := 19) hx [.int (oI r2), .int (oI r3)] [] (ev_X9_takeNumber F (shR a0 0) (kt_5_0 h0) r2 r3 w1) vm_X9_takeNumber fc7 (kt_5_0 h0) (hx.ci (kt_5_0 h0) (Nat.le_of_ble_eq_true rfl)) g388 dX5_isSettingRead_19 rfl rfl (Nat.le_of_ble_eq_true rfl) (Nat.le_of_ble_eq_true rfl) (Nat.le_of_ble_eq_true rfl) (fun r4 w5 => ?_)
  refine E_istore_n (pc := 22) hx dX5_isSettingRead_22 rfl (Nat.le_of_ble_eq_true rfl) rfl ?_
  refine E_iload_n (pc := 23) hx 0 dX5_isSettingRead_23 rfl rfl ?_
  refine I_iconst (pc := 24) hx (-1) dX5_isSettingRead_24 ?_
  refine E_gd (fun hr6 => ?_)
  refine I_icmp_eq (pc := 25) hx 38 dX5_isSettingRead_25 rfl ⟨hr6, (by decide)⟩ ?_ ?_
  · refine I_iconst (pc := 38) hx 0 dX5_isSettingRead_38 ?_
    exact E_zret (pc := 39) hx dX5_isSettingRead_39 rfl rfl rfl (Nat.le_of_ble_eq_true rfl)
  refine E_aload_n (pc := 28) hx 1 dX5_isSettingRead_28 rfl rfl ?_
  refine E_getR (pc := 29) hx 0 fc5 h0 (hx.ci h0 (Nat.le_of_ble_eq_true rfl)) rfl ⟨rfl, rfl, rfl⟩ g231 dX5_isSettingRead_29 ?_
  refine I_cVBW  (pc := 32) hx [] [] (ev_X9_isSemicolonTaken F (shR a0 0) (kt_5_0 h0) w5) vm_X9_isSemicolonTaken fc7 (kt_5_0 h0) (hx.ci (kt_5_0 h0) (Nat.le_of_ble_eq_true rfl)) g396 dX5_isSettingRead_32 rfl rfl (Nat.le_of_ble_eq_true rfl) (Nat.le_of_ble_eq_true rfl) (Nat.le_of_ble_eq_true rfl) (fun r7 w8 => ?_)
  refine I_ifB_ne (pc := 35) hx 40 dX5_isSettingRead_35 rfl ?_ ?_
  · refine E_aload_n (pc := 40) hx 1 dX5_isSettingRead_40 rfl rfl ?_
    refine E_getR (pc := 41) hx 1 fc5 h0 (hx.ci h0 (Nat.le_of_ble_eq_true rfl)) rfl ⟨rfl, rfl, rfl⟩ g232 dX5_isSettingRead_41 ?_
    refine E_iload_n (pc := 44) hx 2 dX5_isSettingRead_44 rfl rfl ?_
    refine E_iload_n (pc := 45) hx 0 dX5_isSettingRead_45 rfl rfl ?_
    refine I_cVV  (pc := 46) hx [.int (oI p1), .int (oI r4)] [] (ev_X2_settle F (shR a0 1) (kt_5_1 h0) p1 r4 w8) vm_X2_settle fc2 (kt_5_1 h0) (hx.ci (kt_5_1 h0) (Nat.le_of_ble_eq_true rfl)) g445 dX5_isSettingRead_46 rfl rfl (Nat.le_of_ble_eq_true rfl) (Nat.le_of_ble_eq_true rfl) (Nat.le_of_ble_eq_true rfl) (fun w9 => ?_)
    refine I_iconst (pc := 49) hx 1 dX5_isSettingRead_49 ?_
    exact E_zret (pc := 50) hx dX5_isSettingRead_50 rfl rfl rfl (Nat.le_of_ble_eq_true rfl)
  refine I_iconst (pc := 38) hx 0 dX5_isSettingRead_38 ?_
  exact E_zret (pc := 39) hx dX5_isSettingRead_39 rfl rfl rfl (Nat.le_of_ble_eq_true rfl)
