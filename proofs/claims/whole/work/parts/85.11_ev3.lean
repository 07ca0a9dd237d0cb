/-! ===== the same in the world of the class alone: 11.ev3 ===== -/
set_option maxHeartbeats 4000000 in
set_option maxRecDepth 100000 in
theorem l_X5_isRoofRead_b144_k {x : Cx} (F : Nat) (a0 : Nat) (h0 : shK_k a0 = 10 + 5)  (hx : CxOK_k x RX5 cX5_isRoofRead 6 3 0 (some .boolean))   (v1 : Int) (v2 : Int) (v3 : Int) (v4 : Int) (z0 : Int) (w : aI) : En_k x jvBW 0 0 144 [(0, .ref a0), (1, .int (oI v1)), (2, .int (oI v2)), (3, .int (oI v3)), (4, .int (oI v4))] [.int (oI z0)] (cm w) (f_X5_isRoofRead_b144 F a0    v1 v2 v3 v4 z0 w) := by
  unfold f_X5_isRoofRead_b144
  refine E_istore_k (pc := 144) hx dX5_isRoofRead_144 (Nat.le_of_ble_eq_true rfl) rfl ?_
  refine E_iload_k (pc := 146) hx 0 dX5_isRoofRead_146 rfl ?_
  refine I_iconst_k (pc := 148) hx (-1) dX5_isRoofRead_148 ?_
  refine E_gd_k (fun hr20 => ?_)
  refine I_icmp_eq_k (pc := 149) hx 162 dX5_isRoofRead_149 rfl ⟨hr20, (by decide)⟩ ?_ ?_
  · refine I_iconst_k (pc := 162) hx 0 dX5_isRoofRead_162 ?_
    exact E_zret_k (pc := 163) hx dX5_isRoofRead_163 rfl rfl rfl (Nat.le_of_ble_eq_true rfl)
  refine E_aload_n_k (pc := 152) hx 1 dX5_isRoofRead_152 rfl rfl ?_
  refine E_getR_k (pc := 153) hx 0 fc5 h0 rfl ⟨rfl, rfl, rfl⟩ g321 dX5_isRoofRead_153 ?_
  refine I_cVBW_k  (pc := 156) hx [] [] (ev_X9_isSemicolonTaken_k F (shR a0 0) (kt_5_0_k h0) w) vm_X9_isSemicolonTaken fc7 (kt_5_0_k h0) g488 dX5_isRoofRead_156 rfl rfl (Nat.le_of_ble_eq_true rfl) (Nat.le_of_ble_eq_true rfl) (Nat.le_of_ble_eq_true rfl) (fun r21 w22 => ?_)
  refine I_ifB_ne_k (pc := 159) hx 164 dX5_isRoofRead_159 rfl ?_ ?_
  · refine E_aload_n_k (pc := 164) hx 1 dX5_isRoofRead_164 rfl rfl ?_
    refine E_getR_k (pc := 165) hx 1 fc5 h0 rfl ⟨rfl, rfl, rfl⟩ g322 dX5_isRoofRead_165 ?_
    refine E_iload_n_k (pc := 168) hx 2 dX5_isRoofRead_168 rfl rfl ?_
    refine E_iload_n_k (pc := 169) hx 3 dX5_isRoofRead_169 rfl rfl ?_
    refine E_iload_n_k (pc := 170) hx 4 dX5_isRoofRead_170 rfl rfl ?_
    refine E_iload_k (pc := 171) hx 5 dX5_isRoofRead_171 rfl ?_
    refine E_iload_k (pc := 173) hx 0 dX5_isRoofRead_173 rfl ?_
    refine I_cVV_k  (pc := 175) hx [.int (oI v1), .int (oI v2), .int (oI v3), .int (oI v4), .int (oI z0)] [] (ev_X2_addRoof_k F (shR a0 1) (kt_5_1_k h0) v1 v2 v3 v4 z0 w22) vm_X2_addRoof fc2 (kt_5_1_k h0) g492 dX5_isRoofRead_175 rfl rfl (Nat.le_of_ble_eq_true rfl) (Nat.le_of_ble_eq_true rfl) (Nat.le_of_ble_eq_true rfl) (fun w23 => ?_)
    refine I_iconst_k (pc := 178) hx 1 dX5_isRoofRead_178 ?_
    exact E_zret_k (pc := 179) hx dX5_isRoofRead_179 rfl rfl rfl (Nat.le_of_ble_eq_true rfl)
  refine I_iconst_k (pc := 162) hx 0 dX5_isRoofRead_162 ?_
  exact E_zret_k (pc := 163) hx dX5_isRoofRead_163 rfl rfl rfl (Nat.le_of_ble_eq_true rfl)
set_option maxHeartbeats 4000000 in
set_option maxRecDepth 100000 in
theorem l_X5_isRoofRead_b121_k {x : Cx} (F : Nat) (a0 : Nat) (h0 : shK_k a0 = 10 + 5)  (hx : CxOK_k x RX5 cX5_isRoofRead 6 3 0 (some .boolean))   (v1 : Int) (v2 : Int) (v3 : Int) (z0 : Int) (w : aI) : En_k x jvBW 0 0 121 [(0, .ref a0), (1, .int (oI v1)), (2, .int (oI v2)), (3, .int (oI v3))] [.int (oI z0)] (cm w) (f_X5_isRoofRead_b121 F a0    v1 v2 v3 z0 w) := by
  unfold f_X5_isRoofRead_b121
  refine E_istore_k (pc := 121) hx dX5_isRoofRead_121 (Nat.le_of_ble_eq_true rfl) rfl ?_
  refine E_iload_k (pc := 123) hx 0 dX5_isRoofRead_123 rfl ?_
  refine I_iconst_k (pc := 125) hx (-1) dX5_isRoofRead_125 ?_
  refine E_gd_k (fun hr17 => ?_)
  refine I_icmp_ne_k (pc := 126) hx 133 dX5_isRoofRead_126 rfl ⟨hr17, (by decide)⟩ ?_ ?_
  · refine E_aload_n_k (pc := 133) hx 1 dX5_isRoofRead_133 rfl rfl ?_
    refine E_getR_k (pc := 134) hx 0 fc5 h0 rfl ⟨rfl, rfl, rfl⟩ g321 dX5_isRoofRead_134 ?_
    refine I_iconst_k (pc := 137) hx 0 dX5_isRoofRead_137 ?_
    refine I_sipush_k (pc := 138) hx 999 dX5_isRoofRead_138 rfl ?_
    refine I_cVIW_k  (pc := 141) hx [.int (oI 0), .int (oI 999)] [] (ev_X9_takeNumber_k F (shR a0 0) (kt_5_0_k h0) 0 999 w) vm_X9_takeNumber fc7 (kt_5_0_k h0) g480 dX5_isRoofRead_141 rfl rfl (Nat.le_of_ble_eq_true rfl) (Nat.le_of_ble_eq_true rfl) (Nat.le_of_ble_eq_true rfl) (fun r18 w19 => ?_)
    refine En_k.sub [1, 2, 3, 4, 0] rfl ?_
    exact l_X5_isRoofRead_b144_k F a0 h0 hx v1 v2 v3 z0 r18 w19
  refine I_iconst_k (pc := 129) hx (-1) dX5_isRoofRead_129 ?_
  refine E_goto_k (pc := 130) hx 144 dX5_isRoofRead_130 rfl ?_
  refine En_k.sub [1, 2, 3, 4, 0] rfl ?_
  exact l_X5_isRoofRead_b144_k F a0 h0 hx v1 v2 v3 z0 (-1) w
set_option maxHeartbeats 4000000 in
set_option maxRecDepth 100000 in
theorem l_X5_isRoofRead_b101_k {x : Cx} (F : Nat) (a0 : Nat) (h0 : shK_k a0 = 10 + 5)  (hx : CxOK_k x RX5 cX5_isRoofRead 6 3 0 (some .boolean))   (v1 : Int) (v2 : Int) (z0 : Int) (w : aI) : En_k x jvBW 0 0 101 [(0, .ref a0), (1, .int (oI v1)), (2, .int (oI v2))] [.int (oI z0)] (cm w) (f_X5_isRoofRead_b101 F a0    v1 v2 z0 w) := by
  unfold f_X5_isRoofRead_b101
  refine E_istore_n_k (pc := 101) hx dX5_isRoofRead_101 rfl (Nat.le_of_ble_eq_true rfl) rfl ?_
  refine E_iload_n_k (pc := 102) hx 0 dX5_isRoofRead_102 rfl rfl ?_
  refine I_iconst_k (pc := 103) hx (-1) dX5_isRoofRead_103 ?_
  refine E_gd_k (fun hr14 => ?_)
  refine I_icmp_ne_k (pc := 104) hx 111 dX5_isRoofRead_104 rfl ⟨hr14, (by decide)⟩ ?_ ?_
  · refine E_aload_n_k (pc := 111) hx 1 dX5_isRoofRead_111 rfl rfl ?_
    refine E_getR_k (pc := 112) hx 0 fc5 h0 rfl ⟨rfl, rfl, rfl⟩ g321 dX5_isRoofRead_112 ?_
    refine I_iconst_k (pc := 115) hx 0 dX5_isRoofRead_115 ?_
    refine I_bipush_k (pc := 116) hx 9 dX5_isRoofRead_116 rfl ?_
    refine I_cVIW_k  (pc := 118) hx [.int (oI 0), .int (oI 9)] [] (ev_X9_takeNumber_k F (shR a0 0) (kt_5_0_k h0) 0 9 w) vm_X9_takeNumber fc7 (kt_5_0_k h0) g480 dX5_isRoofRead_118 rfl rfl (Nat.le_of_ble_eq_true rfl) (Nat.le_of_ble_eq_true rfl) (Nat.le_of_ble_eq_true rfl) (fun r15 w16 => ?_)
    refine En_k.sub [1, 2, 3, 0] rfl ?_
    exact l_X5_isRoofRead_b121_k F a0 h0 hx v1 v2 z0 r15 w16
  refine I_iconst_k (pc := 107) hx (-1) dX5_isRoofRead_107 ?_
  refine E_goto_k (pc := 108) hx 121 dX5_isRoofRead_108 rfl ?_
  refine En_k.sub [1, 2, 3, 0] rfl ?_
  exact l_X5_isRoofRead_b121_k F a0 h0 hx v1 v2 z0 (-1) w
set_option maxHeartbeats 4000000 in
set_option maxRecDepth 100000 in
theorem ev_X5_isRoofRead_k (F : Nat) (a0 : Nat) (h0 : shK_k a0 = 10 + 5) (w : aI) : Ev_k yX5_isRoofRead cX5_isRoofRead 6 (some .boolean) 3 0 jvBW [.ref a0] (cm w) (f_X5_isRoofRead F a0 w) := by
  refine Ev_k.of (own := RX5) (by decide +kernel) rfl (Nat.le_of_ble_eq_true rfl) (fun x hx => ?_)
  show En_k x jvBW 0 0 0 [(0, .ref a0)] [] (cm w) _
  unfold f_X5_isRoofRead
  refine E_aload_n_k (pc := 0) hx 0 dX5_isRoofRead_0 rfl rfl ?_
  refine E_getR_k (pc := 1) hx 1 fc5 h0 rfl ⟨rfl, rfl, rfl⟩ g322 dX5_isRoofRead_1 ?_
  refine I_getI_k (pc := 4) hx 1 1 rfl fc2 (kt_5_1_k h0) rfl ⟨rfl, rfl, rfl⟩ g207 dX5_isRoofRead_4 ?_
  refine I_bipush_k (pc := 7) hx 10 dX5_isRoofRead_7 rfl ?_
  refine E_gd_k (fun hr1 => ?_)
  refine I_icmp_lt_k (pc := 9) hx 21 dX5_isRoofRead_9 rfl ⟨hr1, (by decide)⟩ ?_ ?_
  · refine E_aload_n_k (pc := 21) hx 0 dX5_isRoofRead_21 rfl rfl ?_
    refine E_getR_k (pc := 22) hx 0 fc5 h0 rfl ⟨rfl, rfl, rfl⟩ g321 dX5_isRoofRead_22 ?_
    refine I_cVV_k  (pc := 25) hx [] [] (ev_X9_step_k F (shR a0 0) (kt_5_0_k h0) w) vm_X9_step fc7 (kt_5_0_k h0) g466 dX5_isRoofRead_25 rfl rfl (Nat.le_of_ble_eq_true rfl) (Nat.le_of_ble_eq_true rfl) (Nat.le_of_ble_eq_true rfl) (fun w2 => ?_)
    refine E_aload_n_k (pc := 28) hx 0 dX5_isRoofRead_28 rfl rfl ?_
    refine E_getR_k (pc := 29) hx 0 fc5 h0 rfl ⟨rfl, rfl, rfl⟩ g321 dX5_isRoofRead_29 ?_
    refine I_cVIW_k  (pc := 32) hx [] [] (ev_X9_nameHere_k F (shR a0 0) (kt_5_0_k h0) w2) vm_X9_nameHere fc7 (kt_5_0_k h0) g467 dX5_isRoofRead_32 rfl rfl (Nat.le_of_ble_eq_true rfl) (Nat.le_of_ble_eq_true rfl) (Nat.le_of_ble_eq_true rfl) (fun r3 w4 => ?_)
    refine E_istore_n_k (pc := 35) hx dX5_isRoofRead_35 rfl (Nat.le_of_ble_eq_true rfl) rfl ?_
    refine E_iload_n_k (pc := 36) hx 0 dX5_isRoofRead_36 rfl rfl ?_
    refine I_iconst_k (pc := 37) hx (-1) dX5_isRoofRead_37 ?_
    refine E_gd_k (fun hr5 => ?_)
    refine I_icmp_ne_k (pc := 38) hx 43 dX5_isRoofRead_38 rfl ⟨hr5, (by decide)⟩ ?_ ?_
    · refine E_aload_n_k (pc := 43) hx 1 dX5_isRoofRead_43 rfl rfl ?_
      refine E_getR_k (pc := 44) hx 1 fc5 h0 rfl ⟨rfl, rfl, rfl⟩ g322 dX5_isRoofRead_44 ?_
      refine E_iload_n_k (pc := 47) hx 0 dX5_isRoofRead_47 rfl rfl ?_
      refine I_cVI_k  (pc := 48) hx [.int (oI r3)] [] (ev_X2_roofNamed_k F (shR a0 1) (kt_5_1_k h0) r3 w4) vm_X2_roofNamed fc2 (kt_5_1_k h0) g472 dX5_isRoofRead_48 rfl rfl (Nat.le_of_ble_eq_true rfl) (Nat.le_of_ble_eq_true rfl) (Nat.le_of_ble_eq_true rfl) (fun r6 => ?_)
      refine I_iconst_k (pc := 51) hx (-1) dX5_isRoofRead_51 ?_
      refine E_gd_k (fun hr7 => ?_)
      refine I_icmp_eq_k (pc := 52) hx 64 dX5_isRoofRead_52 rfl ⟨hr7, (by decide)⟩ ?_ ?_
      · refine E_aload_n_k (pc := 64) hx 1 dX5_isRoofRead_64 rfl rfl ?_
        refine E_getR_k (pc := 65) hx 0 fc5 h0 rfl ⟨rfl, rfl, rfl⟩ g321 dX5_isRoofRead_65 ?_
        refine I_cVV_k  (pc := 68) hx [] [] (ev_X9_step_k F (shR a0 0) (kt_5_0_k h0) w4) vm_X9_step fc7 (kt_5_0_k h0) g466 dX5_isRoofRead_68 rfl rfl (Nat.le_of_ble_eq_true rfl) (Nat.le_of_ble_eq_true rfl) (Nat.le_of_ble_eq_true rfl) (fun w8 => ?_)
        refine E_aload_n_k (pc := 71) hx 1 dX5_isRoofRead_71 rfl rfl ?_
        refine E_getR_k (pc := 72) hx 0 fc5 h0 rfl ⟨rfl, rfl, rfl⟩ g321 dX5_isRoofRead_72 ?_
        refine I_iconst_k (pc := 75) hx 1 dX5_isRoofRead_75 ?_
        refine I_bipush_k (pc := 76) hx 8 dX5_isRoofRead_76 rfl ?_
        refine I_cVIW_k  (pc := 78) hx [.int (oI 1), .int (oI 8)] [] (ev_X9_takeNumber_k F (shR a0 0) (kt_5_0_k h0) 1 8 w8) vm_X9_takeNumber fc7 (kt_5_0_k h0) g480 dX5_isRoofRead_78 rfl rfl (Nat.le_of_ble_eq_true rfl) (Nat.le_of_ble_eq_true rfl) (Nat.le_of_ble_eq_true rfl) (fun r9 w10 => ?_)
        refine E_istore_n_k (pc := 81) hx dX5_isRoofRead_81 rfl (Nat.le_of_ble_eq_true rfl) rfl ?_
        refine E_iload_n_k (pc := 82) hx 0 dX5_isRoofRead_82 rfl rfl ?_
        refine I_iconst_k (pc := 83) hx (-1) dX5_isRoofRead_83 ?_
        refine E_gd_k (fun hr11 => ?_)
        refine I_icmp_ne_k (pc := 84) hx 91 dX5_isRoofRead_84 rfl ⟨hr11, (by decide)⟩ ?_ ?_
        · refine E_aload_n_k (pc := 91) hx 2 dX5_isRoofRead_91 rfl rfl ?_
          refine E_getR_k (pc := 92) hx 0 fc5 h0 rfl ⟨rfl, rfl, rfl⟩ g321 dX5_isRoofRead_92 ?_
          refine I_iconst_k (pc := 95) hx 0 dX5_isRoofRead_95 ?_
          refine I_bipush_k (pc := 96) hx 9 dX5_isRoofRead_96 rfl ?_
          refine I_cVIW_k  (pc := 98) hx [.int (oI 0), .int (oI 9)] [] (ev_X9_takeNumber_k F (shR a0 0) (kt_5_0_k h0) 0 9 w10) vm_X9_takeNumber fc7 (kt_5_0_k h0) g480 dX5_isRoofRead_98 rfl rfl (Nat.le_of_ble_eq_true rfl) (Nat.le_of_ble_eq_true rfl) (Nat.le_of_ble_eq_true rfl) (fun r12 w13 => ?_)
          refine En_k.sub [2, 1, 0] rfl ?_
          exact l_X5_isRoofRead_b101_k F a0 h0 hx r3 r9 r12 w13
        refine I_iconst_k (pc := 87) hx (-1) dX5_isRoofRead_87 ?_
        refine E_goto_k (pc := 88) hx 101 dX5_isRoofRead_88 rfl ?_
        refine En_k.sub [2, 1, 0] rfl ?_
        exact l_X5_isRoofRead_b101_k F a0 h0 hx r3 r9 (-1) w10
      refine E_aload_n_k (pc := 55) hx 1 dX5_isRoofRead_55 rfl rfl ?_
      refine E_getR_k (pc := 56) hx 0 fc5 h0 rfl ⟨rfl, rfl, rfl⟩ g321 dX5_isRoofRead_56 ?_
      refine I_iconst_k (pc := 59) hx 3 dX5_isRoofRead_59 ?_
      refine I_cVBW_k  (pc := 60) hx [.int (oI 3)] [] (ev_X9_fail_k F (shR a0 0) (kt_5_0_k h0) 3 w4) vm_X9_fail fc7 (kt_5_0_k h0) g462 dX5_isRoofRead_60 rfl rfl (Nat.le_of_ble_eq_true rfl) (Nat.le_of_ble_eq_true rfl) (Nat.le_of_ble_eq_true rfl) (fun r24 w25 => ?_)
      exact E_zret_k (pc := 63) hx dX5_isRoofRead_63 rfl (bI_nar _) rfl (Nat.le_of_ble_eq_true rfl)
    refine I_iconst_k (pc := 41) hx 0 dX5_isRoofRead_41 ?_
    exact E_zret_k (pc := 42) hx dX5_isRoofRead_42 rfl rfl rfl (Nat.le_of_ble_eq_true rfl)
  refine E_aload_n_k (pc := 12) hx 0 dX5_isRoofRead_12 rfl rfl ?_
  refine E_getR_k (pc := 13) hx 0 fc5 h0 rfl ⟨rfl, rfl, rfl⟩ g321 dX5_isRoofRead_13 ?_
  refine I_iconst_k (pc := 16) hx 5 dX5_isRoofRead_16 ?_
  refine I_cVBW_k  (pc := 17) hx [.int (oI 5)] [] (ev_X9_fail_k F (shR a0 0) (kt_5_0_k h0) 5 w) vm_X9_fail fc7 (kt_5_0_k h0) g462 dX5_isRoofRead_17 rfl rfl (Nat.le_of_ble_eq_true rfl) (Nat.le_of_ble_eq_true rfl) (Nat.le_of_ble_eq_true rfl) (fun r26 w27 => ?_)
  exact E_zret_k (pc := 20) hx dX5_isRoofRead_20 rfl (bI_nar _) rfl (Nat.le_of_ble_eq_true rfl)
set_option maxHeartbeats 4000000 in
set_option maxRecDepth 100000 in
theorem ev_X5_isWayRead_k (F : Nat) (a0 : Nat) (h0 : shK_k a0 = 10 + 5) (w : aI) : Ev_k yX5_isWayRead cX5_isWayRead 4 (some .boolean) 3 0 jvBW [.ref a0] (cm w) (f_X5_isWayRead F a0 w) := by
  refine Ev_k.of (own := RX5) (by decide +kernel) rfl (Nat.le_of_ble_eq_true rfl) (fun x hx => ?_)
  show En_k x jvBW 0 0 0 [(0, .ref a0)] [] (cm w) _
  unfold f_X5_isWayRead
  refine E_aload_n_k (pc := 0) hx 0 dX5_isWayRead_0 rfl rfl ?_
  refine E_getR_k (pc := 1) hx 1 fc5 h0 rfl ⟨rfl, rfl, rfl⟩ g322 dX5_isWayRead_1 ?_
  refine I_getI_k (pc := 4) hx 2 2 rfl fc2 (kt_5_1_k h0) rfl ⟨rfl, rfl, rfl⟩ g214 dX5_isWayRead_4 ?_
  refine I_bipush_k (pc := 7) hx 20 dX5_isWayRead_7 rfl ?_
  refine E_gd_k (fun hr1 => ?_)
  refine I_icmp_lt_k (pc := 9) hx 21 dX5_isWayRead_9 rfl ⟨hr1, (by decide)⟩ ?_ ?_
  · refine E_aload_n_k (pc := 21) hx 0 dX5_isWayRead_21 rfl rfl ?_
    refine E_getR_k (pc := 22) hx 0 fc5 h0 rfl ⟨rfl, rfl, rfl⟩ g321 dX5_isWayRead_22 ?_
    refine I_cVV_k  (pc := 25) hx [] [] (ev_X9_step_k F (shR a0 0) (kt_5_0_k h0) w) vm_X9_step fc7 (kt_5_0_k h0) g466 dX5_isWayRead_25 rfl rfl (Nat.le_of_ble_eq_true rfl) (Nat.le_of_ble_eq_true rfl) (Nat.le_of_ble_eq_true rfl) (fun w2 => ?_)
    refine E_aload_n_k (pc := 28) hx 0 dX5_isWayRead_28 rfl rfl ?_
    refine E_getR_k (pc := 29) hx 0 fc5 h0 rfl ⟨rfl, rfl, rfl⟩ g321 dX5_isWayRead_29 ?_
    refine E_aload_n_k (pc := 32) hx 0 dX5_isWayRead_32 rfl rfl ?_
    refine E_getR_k (pc := 33) hx 1 fc5 h0 rfl ⟨rfl, rfl, rfl⟩ g322 dX5_isWayRead_33 ?_
    refine I_iconst_k (pc := 36) hx (-1) dX5_isWayRead_36 ?_
    refine I_cVIW_k  (pc := 37) hx [.ref (shR a0 1), .int (oI (-1))] [] (ev_X9_roofHere_k F (shR a0 0) (kt_5_0_k h0) (shR a0 1) (kt_5_1_k h0) (-1) w2) vm_X9_roofHere fc7 (kt_5_0_k h0) g501 dX5_isWayRead_37 rfl rfl (Nat.le_of_ble_eq_true rfl) (Nat.le_of_ble_eq_true rfl) (Nat.le_of_ble_eq_true rfl) (fun r3 w4 => ?_)
    refine E_istore_n_k (pc := 40) hx dX5_isWayRead_40 rfl (Nat.le_of_ble_eq_true rfl) rfl ?_
    refine E_iload_n_k (pc := 41) hx 0 dX5_isWayRead_41 rfl rfl ?_
    refine I_iconst_k (pc := 42) hx (-1) dX5_isWayRead_42 ?_
    refine E_gd_k (fun hr5 => ?_)
    refine I_icmp_ne_k (pc := 43) hx 48 dX5_isWayRead_43 rfl ⟨hr5, (by decide)⟩ ?_ ?_
    · refine E_aload_n_k (pc := 48) hx 1 dX5_isWayRead_48 rfl rfl ?_
      refine E_getR_k (pc := 49) hx 0 fc5 h0 rfl ⟨rfl, rfl, rfl⟩ g321 dX5_isWayRead_49 ?_
      refine I_cVV_k  (pc := 52) hx [] [] (ev_X9_step_k F (shR a0 0) (kt_5_0_k h0) w4) vm_X9_step fc7 (kt_5_0_k h0) g466 dX5_isWayRead_52 rfl rfl (Nat.le_of_ble_eq_true rfl) (Nat.le_of_ble_eq_true rfl) (Nat.le_of_ble_eq_true rfl) (fun w6 => ?_)
      refine E_aload_n_k (pc := 55) hx 1 dX5_isWayRead_55 rfl rfl ?_
      refine E_getR_k (pc := 56) hx 0 fc5 h0 rfl ⟨rfl, rfl, rfl⟩ g321 dX5_isWayRead_56 ?_
      refine E_aload_n_k (pc := 59) hx 1 dX5_isWayRead_59 rfl rfl ?_
      refine E_getR_k (pc := 60) hx 1 fc5 h0 rfl ⟨rfl, rfl, rfl⟩ g322 dX5_isWayRead_60 ?_
      refine E_iload_n_k (pc := 63) hx 0 dX5_isWayRead_63 rfl rfl ?_
      refine I_cVIW_k  (pc := 64) hx [.ref (shR a0 1), .int (oI r3)] [] (ev_X9_roofHere_k F (shR a0 0) (kt_5_0_k h0) (shR a0 1) (kt_5_1_k h0) r3 w6) vm_X9_roofHere fc7 (kt_5_0_k h0) g501 dX5_isWayRead_64 rfl rfl (Nat.le_of_ble_eq_true rfl) (Nat.le_of_ble_eq_true rfl) (Nat.le_of_ble_eq_true rfl) (fun r7 w8 => ?_)
      refine E_istore_n_k (pc := 67) hx dX5_isWayRead_67 rfl (Nat.le_of_ble_eq_true rfl) rfl ?_
      refine E_iload_n_k (pc := 68) hx 0 dX5_isWayRead_68 rfl rfl ?_
      refine I_iconst_k (pc := 69) hx (-1) dX5_isWayRead_69 ?_
      refine E_gd_k (fun hr9 => ?_)
      refine I_icmp_ne_k (pc := 70) hx 75 dX5_isWayRead_70 rfl ⟨hr9, (by decide)⟩ ?_ ?_
      · refine E_aload_n_k (pc := 75) hx 2 dX5_isWayRead_75 rfl rfl ?_
        refine E_getR_k (pc := 76) hx 1 fc5 h0 rfl ⟨rfl, rfl, rfl⟩ g322 dX5_isWayRead_76 ?_
        refine E_iload_n_k (pc := 79) hx 1 dX5_isWayRead_79 rfl rfl ?_
        refine E_iload_n_k (pc := 80) hx 0 dX5_isWayRead_80 rfl rfl ?_
        refine I_cVI_k  (pc := 81) hx [.int (oI r3), .int (oI r7)] [] (ev_X2_wayBetween_k F (shR a0 1) (kt_5_1_k h0) r3 r7 w8) vm_X2_wayBetween fc2 (kt_5_1_k h0) g507 dX5_isWayRead_81 rfl rfl (Nat.le_of_ble_eq_true rfl) (Nat.le_of_ble_eq_true rfl) (Nat.le_of_ble_eq_true rfl) (fun r10 => ?_)
        refine I_iconst_k (pc := 84) hx (-1) dX5_isWayRead_84 ?_
        refine E_gd_k (fun hr11 => ?_)
        refine I_icmp_eq_k (pc := 85) hx 97 dX5_isWayRead_85 rfl ⟨hr11, (by decide)⟩ ?_ ?_
        · refine E_aload_n_k (pc := 97) hx 2 dX5_isWayRead_97 rfl rfl ?_
          refine E_getR_k (pc := 98) hx 0 fc5 h0 rfl ⟨rfl, rfl, rfl⟩ g321 dX5_isWayRead_98 ?_
          refine I_cVV_k  (pc := 101) hx [] [] (ev_X9_step_k F (shR a0 0) (kt_5_0_k h0) w8) vm_X9_step fc7 (kt_5_0_k h0) g466 dX5_isWayRead_101 rfl rfl (Nat.le_of_ble_eq_true rfl) (Nat.le_of_ble_eq_true rfl) (Nat.le_of_ble_eq_true rfl) (fun w12 => ?_)
          refine E_aload_n_k (pc := 104) hx 2 dX5_isWayRead_104 rfl rfl ?_
          refine E_getR_k (pc := 105) hx 0 fc5 h0 rfl ⟨rfl, rfl, rfl⟩ g321 dX5_isWayRead_105 ?_
          refine I_iconst_k (pc := 108) hx 1 dX5_isWayRead_108 ?_
          refine I_bipush_k (pc := 109) hx 9 dX5_isWayRead_109 rfl ?_
          refine I_cVIW_k  (pc := 111) hx [.int (oI 1), .int (oI 9)] [] (ev_X9_takeNumber_k F (shR a0 0) (kt_5_0_k h0) 1 9 w12) vm_X9_takeNumber fc7 (kt_5_0_k h0) g480 dX5_isWayRead_111 rfl rfl (Nat.le_of_ble_eq_true rfl) (Nat.le_of_ble_eq_true rfl) (Nat.le_of_ble_eq_true rfl) (fun r13 w14 => ?_)
          refine E_istore_n_k (pc := 114) hx dX5_isWayRead_114 rfl (Nat.le_of_ble_eq_true rfl) rfl ?_
          refine E_iload_n_k (pc := 115) hx 0 dX5_isWayRead_115 rfl rfl ?_
          refine I_iconst_k (pc := 116) hx (-1) dX5_isWayRead_116 ?_
          refine E_gd_k (fun hr15 => ?_)
          refine I_icmp_eq_k (pc := 117) hx 130 dX5_isWayRead_117 rfl ⟨hr15, (by decide)⟩ ?_ ?_
          · refine I_iconst_k (pc := 130) hx 0 dX5_isWayRead_130 ?_
            exact E_zret_k (pc := 131) hx dX5_isWayRead_131 rfl rfl rfl (Nat.le_of_ble_eq_true rfl)
          refine E_aload_n_k (pc := 120) hx 3 dX5_isWayRead_120 rfl rfl ?_
          refine E_getR_k (pc := 121) hx 0 fc5 h0 rfl ⟨rfl, rfl, rfl⟩ g321 dX5_isWayRead_121 ?_
          refine I_cVBW_k  (pc := 124) hx [] [] (ev_X9_isSemicolonTaken_k F (shR a0 0) (kt_5_0_k h0) w14) vm_X9_isSemicolonTaken fc7 (kt_5_0_k h0) g488 dX5_isWayRead_124 rfl rfl (Nat.le_of_ble_eq_true rfl) (Nat.le_of_ble_eq_true rfl) (Nat.le_of_ble_eq_true rfl) (fun r16 w17 => ?_)
          refine I_ifB_ne_k (pc := 127) hx 132 dX5_isWayRead_127 rfl ?_ ?_
          · refine E_aload_n_k (pc := 132) hx 3 dX5_isWayRead_132 rfl rfl ?_
            refine E_getR_k (pc := 133) hx 1 fc5 h0 rfl ⟨rfl, rfl, rfl⟩ g322 dX5_isWayRead_133 ?_
            refine E_iload_n_k (pc := 136) hx 2 dX5_isWayRead_136 rfl rfl ?_
            refine E_iload_n_k (pc := 137) hx 1 dX5_isWayRead_137 rfl rfl ?_
            refine E_iload_n_k (pc := 138) hx 0 dX5_isWayRead_138 rfl rfl ?_
            refine I_cVV_k  (pc := 139) hx [.int (oI r3), .int (oI r7), .int (oI r13)] [] (ev_X2_addWay_k F (shR a0 1) (kt_5_1_k h0) r3 r7 r13 w17) vm_X2_addWay fc2 (kt_5_1_k h0) g515 dX5_isWayRead_139 rfl rfl (Nat.le_of_ble_eq_true rfl) (Nat.le_of_ble_eq_true rfl) (Nat.le_of_ble_eq_true rfl) (fun w18 => ?_)
            refine I_iconst_k (pc := 142) hx 1 dX5_isWayRead_142 ?_
            exact E_zret_k (pc := 143) hx dX5_isWayRead_143 rfl rfl rfl (Nat.le_of_ble_eq_true rfl)
          refine I_iconst_k (pc := 130) hx 0 dX5_isWayRead_130 ?_
          exact E_zret_k (pc := 131) hx dX5_isWayRead_131 rfl rfl rfl (Nat.le_of_ble_eq_true rfl)
        refine E_aload_n_k (pc := 88) hx 2 dX5_isWayRead_88 rfl rfl ?_
        refine E_getR_k (pc := 89) hx 0 fc5 h0 rfl ⟨rfl, rfl, rfl⟩ g321 dX5_isWayRead_89 ?_
        refine I_iconst_k (pc := 92) hx 4 dX5_isWayRead_92 ?_
        refine I_cVBW_k  (pc := 93) hx [.int (oI 4)] [] (ev_X9_fail_k F (shR a0 0) (kt_5_0_k h0) 4 w8) vm_X9_fail fc7 (kt_5_0_k h0) g462 dX5_isWayRead_93 rfl rfl (Nat.le_of_ble_eq_true rfl) (Nat.le_of_ble_eq_true rfl) (Nat.le_of_ble_eq_true rfl) (fun r19 w20 => ?_)
        exact E_zret_k (pc := 96) hx dX5_isWayRead_96 rfl (bI_nar _) rfl (Nat.le_of_ble_eq_true rfl)
      refine I_iconst_k (pc := 73) hx 0 dX5_isWayRead_73 ?_
      exact E_zret_k (pc := 74) hx dX5_isWayRead_74 rfl rfl rfl (Nat.le_of_ble_eq_true rfl)
    refine I_iconst_k (pc := 46) hx 0 dX5_isWayRead_46 ?_
    exact E_zret_k (pc := 47) hx dX5_isWayRead_47 rfl rfl rfl (Nat.le_of_ble_eq_true rfl)
  refine E_aload_n_k (pc := 12) hx 0 dX5_isWayRead_12 rfl rfl ?_
  refine E_getR_k (pc := 13) hx 0 fc5 h0 rfl ⟨rfl, rfl, rfl⟩ g321 dX5_isWayRead_13 ?_
  refine I_iconst_k (pc := 16) hx 5 dX5_isWayRead_16 ?_
  refine I_cVBW_k  (pc := 17) hx [.int (oI 5)] [] (ev_X9_fail_k F (shR a0 0) (kt_5_0_k h0) 5 w) vm_X9_fail fc7 (kt_5_0_k h0) g462 dX5_isWayRead_17 rfl rfl (Nat.le_of_ble_eq_true rfl) (Nat.le_of_ble_eq_true rfl) (Nat.le_of_ble_eq_true rfl) (fun r21 w22 => ?_)
  exact E_zret_k (pc := 20) hx dX5_isWayRead_20 rfl (bI_nar _) rfl (Nat.le_of_ble_eq_true rfl)
set_option maxHeartbeats 4000000 in
set_option maxRecDepth 100000 in
theorem ev_X5_isSettingRead_k (F : Nat) (a0 : Nat) (h0 : shK_k a0 = 10 + 5) (p1 : Int) (w : aI) : Ev_k yX5_isSettingRead cX5_isSettingRead 3 (some .boolean) 3 0 jvBW [.ref a0, .int (oI p1)] (cm w) (f_X5_isSettingRead F a0 p1 w) := by
  refine Ev_k.of (own := RX5) (by decide +kernel) rfl (Nat.le_of_ble_eq_true rfl) (fun x hx => ?_)
  show En_k x jvBW 0 0 0 [(0, .ref a0), (1, .int (oI p1))] [] (cm w) _
  unfold f_X5_isSettingRead
  refine E_aload_n_k (pc := 0) hx 0 dX5_isSettingRead_0 rfl rfl ?_
  refine E_getR_k (pc := 1) hx 0 fc5 h0 rfl ⟨rfl, rfl, rfl⟩ g321 dX5_isSettingRead_1 ?_
  refine I_cVV_k  (pc := 4) hx [] [] (ev_X9_step_k F (shR a0 0) (kt_5_0_k h0) w) vm_X9_step fc7 (kt_5_0_k h0) g466 dX5_isSettingRead_4 rfl rfl (Nat.le_of_ble_eq_true rfl) (Nat.le_of_ble_eq_true rfl) (Nat.le_of_ble_eq_true rfl) (fun w1 => ?_)
  refine E_aload_n_k (pc := 7) hx 0 dX5_isSettingRead_7 rfl rfl ?_
  refine E_getR_k (pc := 8) hx 0 fc5 h0 rfl ⟨rfl, rfl, rfl⟩ g321 dX5_isSettingRead_8 ?_
  refine E_iload_n_k (pc := 11) hx 1 dX5_isSettingRead_11 rfl rfl ?_
  refine I_cSI_k  (pc := 12) hx [.int (oI p1)] [.ref (shR a0 0)] (ev_X2_leastOf_k F p1 w1) sm_X2_leastOf g531 dX5_isSettingRead_12 rfl rfl (Nat.le_of_ble_eq_true rfl) (Nat.le_of_ble_eq_true rfl) (Nat.le_of_ble_eq_true rfl) (fun r2 => ?_)
  refine E_iload_n_k (pc := 15) hx 1 dX5_isSettingRead_15 rfl rfl ?_
  refine I_cSI_k  (pc := 16) hx [.int (oI p1)] [.int (oI r2), .ref (shR a0 0)] (ev_X2_mostOf_k F p1 w1) sm_X2_mostOf g534 dX5_isSettingRead_16 rfl rfl (Nat.le_of_ble_eq_true rfl) (Nat.le_of_ble_eq_true rfl) (Nat.le_of_ble_eq_true rfl) (fun r3 => ?_)
  refine I_cVIW_k  (pc := 19) hx [.int (oI r2), .int (oI r3)] [] (ev_X9_takeNumber_k F (shR a0 0) (kt_5_0_k h0) r2 r3 w1) vm_X9_takeNumber fc7 (kt_5_0_k h0) g480 dX5_isSettingRead_19 rfl rfl (Nat.le_of_ble_eq_true rfl) (Nat.le_of_ble_eq_true rfl) (Nat.le_of_ble_eq_true rfl) (fun r4 w5 => ?_)
  refine E_istore_n_k (pc := 22) hx dX5_isSettingRead_22 rfl (Nat.le_of_ble_eq_true rfl) rfl ?_
  refine E_iload_n_k (pc := 23) hx 0 dX5_isSettingRead_23 rfl rfl ?_
  refine I_iconst_k (pc := 24) hx (-1) dX5_isSettingRead_24 ?_
  refine E_gd_k (fun hr6 => ?_)
  refine I_icmp_eq_k (pc := 25) hx 38 dX5_isSettingRead_25 rfl ⟨hr6, (by decide)⟩ ?_ ?_
  · refine I_iconst_k (pc := 38) hx 0 dX5_isSettingRead_38 ?_
    exact E_zret_k (pc := 39) hx dX5_isSettingRead_39 rfl rfl rfl (Nat.le_of_ble_eq_true rfl)
  refine E_aload_n_k (pc := 28) hx 1 dX5_isSettingRead_28 rfl rfl ?_
  refine E_getR_k (pc := 29) hx 0 fc5 h0 rfl ⟨rfl, rfl, rfl⟩ g321 dX5_isSettingRead_29 ?_
  refine I_cVBW_k  (pc := 32) hx [] [] (ev_X9_isSemicolonTaken_k F (shR a0 0) (kt_5_0_k h0) w5) vm_X9_isSemicolonTaken fc7 (kt_5_0_k h0) g488 dX5_isSettingRead_32 rfl rfl (Nat.le_of_ble_eq_true rfl) (Nat.le_of_ble_eq_true rfl) (Nat.le_of_ble_eq_true rfl) (fun r7 w8 => ?_)
  refine I_ifB_ne_k (pc := 35) hx 40 dX5_isSettingRead_35 rfl ?_ ?_
  · refine E_aload_n_k (pc := 40) hx 1 dX5_isSettingRead_40 rfl rfl ?_
    refine E_getR_k (pc := 41) hx 1 fc5 h0 rfl ⟨rfl, rfl, rfl⟩ g322 dX5_isSettingRead_41 ?_
    refine E_iload_n_k (pc := 44) hx 2 dX5_isSettingRead_44 rfl rfl ?_
    refine E_iload_n_k (pc := 45) hx 0 dX5_isSettingRead_45 rfl rfl ?_
    refine I_cVV_k  (pc := 46) hx [.int (oI p1), .int (oI r4)] [] (ev_X2_settle_k F (shR a0 1) (kt_5_1_k h0) p1 r4 w8) vm_X2_settle fc2 (kt_5_1_k h0) g537 dX5_isSettingRead_46 rfl rfl (Nat.le_of_ble_eq_true rfl) (Nat.le_of_ble_eq_true rfl) (Nat.le_of_ble_eq_true rfl) (fun w9 => ?_)
    refine I_iconst_k (pc := 49) hx 1 dX5_isSettingRead_49 ?_
    exact E_zret_k (pc := 50) hx dX5_isSettingRead_50 rfl rfl rfl (Nat.le_of_ble_eq_true rfl)
  refine I_iconst_k (pc := 38) hx 0 dX5_isSettingRead_38 ?_
  exact E_zret_k (pc := 39) hx dX5_isSettingRead_39 rfl rfl rfl (Nat.le_of_ble_eq_true rfl)
set_option maxHeartbeats 4000000 in
set_option maxRecDepth 100000 in
theorem ev_X5_isStatementRead_k (F : Nat) (a0 : Nat) (h0 : shK_k a0 = 10 + 5) (w : aI) : Ev_k yX5_isStatementRead cX5_isStatementRead 2 (some .boolean) 8 0 jvBW [.ref a0] (cm w) (f_X5_isStatementRead F a0 w) := by
  refine Ev_k.of (own := RX5) (by decide +kernel) rfl (Nat.le_of_ble_eq_true rfl) (fun x hx => ?_)
  show En_k x jvBW 0 0 0 [(0, .ref a0)] [] (cm w) _
  unfold f_X5_isStatementRead
  refine E_aload_n_k (pc := 0) hx 0 dX5_isStatementRead_0 rfl rfl ?_
  refine E_getR_k (pc := 1) hx 0 fc5 h0 rfl ⟨rfl, rfl, rfl⟩ g321 dX5_isStatementRead_1 ?_
  refine E_ldcS_k (pc := 4) hx (tx := (xStr.getD 18 ("", 0, "", 0)).2.2.1) 18 (by decide +kernel) dX5_isStatementRead_4 ?_
  refine I_cVB_k  (pc := 6) hx [.ref (sx 18)] [] (ev_X9_isWord_k F (shR a0 0) (kt_5_0_k h0) 18 w) vm_X9_isWord fc7 (kt_5_0_k h0) g452 dX5_isStatementRead_6 rfl rfl (Nat.le_of_ble_eq_true rfl) (Nat.le_of_ble_eq_true rfl) (Nat.le_of_ble_eq_true rfl) (fun r1 => ?_)
  refine I_ifB_eq_k (pc := 9) hx 17 dX5_isStatementRead_9 rfl ?_ ?_
  · refine E_aload_n_k (pc := 17) hx 0 dX5_isStatementRead_17 rfl rfl ?_
    refine E_getR_k (pc := 18) hx 0 fc5 h0 rfl ⟨rfl, rfl, rfl⟩ g321 dX5_isStatementRead_18 ?_
    refine E_ldcS_k (pc := 21) hx (tx := (xStr.getD 19 ("", 0, "", 0)).2.2.1) 19 (by decide +kernel) dX5_isStatementRead_21 ?_
    refine I_cVB_k  (pc := 23) hx [.ref (sx 19)] [] (ev_X9_isWord_k F (shR a0 0) (kt_5_0_k h0) 19 w) vm_X9_isWord fc7 (kt_5_0_k h0) g452 dX5_isStatementRead_23 rfl rfl (Nat.le_of_ble_eq_true rfl) (Nat.le_of_ble_eq_true rfl) (Nat.le_of_ble_eq_true rfl) (fun r2 => ?_)
    refine I_ifB_eq_k (pc := 26) hx 34 dX5_isStatementRead_26 rfl ?_ ?_
    · refine E_aload_n_k (pc := 34) hx 0 dX5_isStatementRead_34 rfl rfl ?_
      refine E_getR_k (pc := 35) hx 0 fc5 h0 rfl ⟨rfl, rfl, rfl⟩ g321 dX5_isStatementRead_35 ?_
      refine I_cVI_k  (pc := 38) hx [] [] (ev_X9_settingWord_k F (shR a0 0) (kt_5_0_k h0) w) vm_X9_settingWord fc7 (kt_5_0_k h0) g519 dX5_isStatementRead_38 rfl rfl (Nat.le_of_ble_eq_true rfl) (Nat.le_of_ble_eq_true rfl) (Nat.le_of_ble_eq_true rfl) (fun r3 => ?_)
      refine E_istore_n_k (pc := 41) hx dX5_isStatementRead_41 rfl (Nat.le_of_ble_eq_true rfl) rfl ?_
      refine E_iload_n_k (pc := 42) hx 0 dX5_isStatementRead_42 rfl rfl ?_
      refine I_iconst_k (pc := 43) hx (-1) dX5_isStatementRead_43 ?_
      refine E_gd_k (fun hr4 => ?_)
      refine I_icmp_ne_k (pc := 44) hx 58 dX5_isStatementRead_44 rfl ⟨hr4, (by decide)⟩ ?_ ?_
      · refine E_aload_n_k (pc := 58) hx 1 dX5_isStatementRead_58 rfl rfl ?_
        refine E_iload_n_k (pc := 59) hx 0 dX5_isStatementRead_59 rfl rfl ?_
        refine I_cVBW_k  (pc := 60) hx [.int (oI r3)] [] (ev_X5_isSettingRead_k F a0 h0 r3 w) vm_X5_isSettingRead fc5 h0 g527 dX5_isStatementRead_60 rfl rfl (Nat.le_of_ble_eq_true rfl) (Nat.le_of_ble_eq_true rfl) (Nat.le_of_ble_eq_true rfl) (fun r5 w6 => ?_)
        exact E_zret_k (pc := 63) hx dX5_isStatementRead_63 rfl (bI_nar _) rfl (Nat.le_of_ble_eq_true rfl)
      refine E_aload_n_k (pc := 47) hx 1 dX5_isStatementRead_47 rfl rfl ?_
      refine E_getR_k (pc := 48) hx 0 fc5 h0 rfl ⟨rfl, rfl, rfl⟩ g321 dX5_isStatementRead_48 ?_
      refine I_iconst_k (pc := 51) hx 1 dX5_isStatementRead_51 ?_
      refine I_cVBW_k  (pc := 52) hx [.int (oI 1)] [] (ev_X9_fail_k F (shR a0 0) (kt_5_0_k h0) 1 w) vm_X9_fail fc7 (kt_5_0_k h0) g462 dX5_isStatementRead_52 rfl rfl (Nat.le_of_ble_eq_true rfl) (Nat.le_of_ble_eq_true rfl) (Nat.le_of_ble_eq_true rfl) (fun r7 w8 => ?_)
      refine E_goto_k (pc := 55) hx 63 dX5_isStatementRead_55 rfl ?_
      exact E_zret_k (pc := 63) hx dX5_isStatementRead_63 rfl (bI_nar _) rfl (Nat.le_of_ble_eq_true rfl)
    refine E_aload_n_k (pc := 29) hx 0 dX5_isStatementRead_29 rfl rfl ?_
    refine I_cVBW_k  (pc := 30) hx [] [] (ev_X5_isWayRead_k F a0 h0 w) vm_X5_isWayRead fc5 h0 g497 dX5_isStatementRead_30 rfl rfl (Nat.le_of_ble_eq_true rfl) (Nat.le_of_ble_eq_true rfl) (Nat.le_of_ble_eq_true rfl) (fun r9 w10 => ?_)
    exact E_zret_k (pc := 33) hx dX5_isStatementRead_33 rfl (bI_nar _) rfl (Nat.le_of_ble_eq_true rfl)
  refine E_aload_n_k (pc := 12) hx 0 dX5_isStatementRead_12 rfl rfl ?_
  refine I_cVBW_k  (pc := 13) hx [] [] (ev_X5_isRoofRead_k F a0 h0 w) vm_X5_isRoofRead fc5 h0 g458 dX5_isStatementRead_13 rfl rfl (Nat.le_of_ble_eq_true rfl) (Nat.le_of_ble_eq_true rfl) (Nat.le_of_ble_eq_true rfl) (fun r11 w12 => ?_)
  exact E_zret_k (pc := 16) hx dX5_isStatementRead_16 rfl (bI_nar _) rfl (Nat.le_of_ble_eq_true rfl)
set_option maxHeartbeats 4000000 in
set_option maxRecDepth 100000 in
theorem l_X5_isRead_b48_k {x : Cx} (F : Nat) (a0 : Nat) (h0 : shK_k a0 = 10 + 5)  (hx : CxOK_k x RX5 cX5_isRead 2 9 0 (some .boolean))    (w : aI) : En_k x jvBW 0 0 48 [(0, .ref a0)] [] (cm w) (f_X5_isRead_b48 F a0    w) := by
  unfold f_X5_isRead_b48
  refine E_aload_n_k (pc := 48) hx 0 dX5_isRead_48 rfl rfl ?_
  refine E_getR_k (pc := 49) hx 1 fc5 h0 rfl ⟨rfl, rfl, rfl⟩ g322 dX5_isRead_49 ?_
  refine I_getI_k (pc := 52) hx 1 1 rfl fc2 (kt_5_1_k h0) rfl ⟨rfl, rfl, rfl⟩ g207 dX5_isRead_52 ?_
  refine I_iconst_k (pc := 55) hx 2 dX5_isRead_55 ?_
  refine E_gd_k (fun hr4 => ?_)
  refine I_icmp_ge_k (pc := 56) hx 69 dX5_isRead_56 rfl ⟨hr4, (by decide)⟩ ?_ ?_
  · refine E_aload_n_k (pc := 69) hx 0 dX5_isRead_69 rfl rfl ?_
    refine E_getR_k (pc := 70) hx 1 fc5 h0 rfl ⟨rfl, rfl, rfl⟩ g322 dX5_isRead_70 ?_
    refine E_getR_k (pc := 73) hx 9 fc2 (kt_5_1_k h0) rfl ⟨rfl, rfl, rfl⟩ g238 dX5_isRead_73 ?_
    refine E_aload_n_k (pc := 76) hx 0 dX5_isRead_76 rfl rfl ?_
    refine E_getR_k (pc := 77) hx 1 fc5 h0 rfl ⟨rfl, rfl, rfl⟩ g322 dX5_isRead_77 ?_
    refine I_cVV_k  (pc := 80) hx [.ref (shR a0 1)] [] (ev_X3_lay_k F (shR (shR a0 1) 9) (kt_2_9_k (kt_5_1_k h0)) (shR a0 1) (kt_5_1_k h0) w) vm_X3_lay fc3 (kt_2_9_k (kt_5_1_k h0)) g538 dX5_isRead_80 rfl rfl (Nat.le_of_ble_eq_true rfl) (Nat.le_of_ble_eq_true rfl) (Nat.le_of_ble_eq_true rfl) (fun w5 => ?_)
    refine I_iconst_k (pc := 83) hx 1 dX5_isRead_83 ?_
    exact E_zret_k (pc := 84) hx dX5_isRead_84 rfl rfl rfl (Nat.le_of_ble_eq_true rfl)
  refine E_aload_n_k (pc := 59) hx 0 dX5_isRead_59 rfl rfl ?_
  refine E_getR_k (pc := 60) hx 0 fc5 h0 rfl ⟨rfl, rfl, rfl⟩ g321 dX5_isRead_60 ?_
  refine I_bipush_k (pc := 63) hx 6 dX5_isRead_63 rfl ?_
  refine I_cVBW_k  (pc := 65) hx [.int (oI 6)] [] (ev_X9_fail_k F (shR a0 0) (kt_5_0_k h0) 6 w) vm_X9_fail fc7 (kt_5_0_k h0) g462 dX5_isRead_65 rfl rfl (Nat.le_of_ble_eq_true rfl) (Nat.le_of_ble_eq_true rfl) (Nat.le_of_ble_eq_true rfl) (fun r6 w7 => ?_)
  exact E_zret_k (pc := 68) hx dX5_isRead_68 rfl (bI_nar _) rfl (Nat.le_of_ble_eq_true rfl)
set_option maxHeartbeats 4000000 in
set_option maxRecDepth 100000 in
theorem l_X5_isRead_b16_b_k {x : Cx} (F : Nat) (a0 : Nat) (h0 : shK_k a0 = 10 + 5)  (hx : CxOK_k x RX5 cX5_isRead 2 9 0 (some .boolean))  (k16 : Int → aI → Option (Bool × aI)) (hk16 : ∀ (v1 : Int) (w : aI), En_k x jvBW 0 0 16 [(0, .ref a0), (1, .int (oI v1))] [] (cm w) (k16 v1 w)) (v1 : Int) (w : aI) : En_k x jvBW 0 0 16 [(0, .ref a0), (1, .int (oI v1))] [] (cm w) (f_X5_isRead_b16_b F a0   k16 v1 w) := by
  unfold f_X5_isRead_b16_b
  refine E_iload_n_k (pc := 16) hx 1 dX5_isRead_16 rfl rfl ?_
  refine I_sipush_k (pc := 17) hx 800 dX5_isRead_17 rfl ?_
  refine E_gd_k (fun hr3 => ?_)
  refine I_icmp_ge_k (pc := 20) hx 48 dX5_isRead_20 rfl ⟨hr3, (by decide)⟩ ?_ ?_
  · refine En_k.sub [0] rfl ?_
    exact l_X5_isRead_b48_k F a0 h0 hx w
  refine E_aload_n_k (pc := 23) hx 0 dX5_isRead_23 rfl rfl ?_
  refine E_getR_k (pc := 24) hx 0 fc5 h0 rfl ⟨rfl, rfl, rfl⟩ g321 dX5_isRead_24 ?_
  refine I_getI_k (pc := 27) hx 3 3 rfl fc7 (kt_5_0_k h0) rfl ⟨rfl, rfl, rfl⟩ g292 dX5_isRead_27 ?_
  refine E_gd_k (fun hr8 => ?_)
  refine I_if_eq_k (pc := 30) hx 48 dX5_isRead_30 rfl hr8 ?_ ?_
  · refine En_k.sub [0] rfl ?_
    exact l_X5_isRead_b48_k F a0 h0 hx w
  refine E_aload_n_k (pc := 33) hx 0 dX5_isRead_33 rfl rfl ?_
  refine I_cVBW_k  (pc := 34) hx [] [] (ev_X5_isStatementRead_k F a0 h0 w) vm_X5_isStatementRead fc5 h0 g447 dX5_isRead_34 rfl rfl (Nat.le_of_ble_eq_true rfl) (Nat.le_of_ble_eq_true rfl) (Nat.le_of_ble_eq_true rfl) (fun r9 w10 => ?_)
  refine I_ifB_ne_k (pc := 37) hx 42 dX5_isRead_37 rfl ?_ ?_
  · refine I_iinc_k (pc := 42) hx 1 1 dX5_isRead_42 rfl (Nat.le_of_ble_eq_true rfl) rfl ?_
    refine E_goto_k (pc := 45) hx 16 dX5_isRead_45 rfl ?_
    refine En_k.sub [1, 0] rfl ?_
    exact hk16 (v1 + 1) w10
  refine I_iconst_k (pc := 40) hx 0 dX5_isRead_40 ?_
  exact E_zret_k (pc := 41) hx dX5_isRead_41 rfl rfl rfl (Nat.le_of_ble_eq_true rfl)
theorem l_X5_isRead_b16_k {x : Cx} (F : Nat) (a0 : Nat) (h0 : shK_k a0 = 10 + 5)  (hx : CxOK_k x RX5 cX5_isRead 2 9 0 (some .boolean))  : ∀ (n : Nat) (v1 : Int) (w : aI), En_k x jvBW 0 0 16 [(0, .ref a0), (1, .int (oI v1))] [] (cm w) (f_X5_isRead_b16 F a0   n v1 w) := by
  intro n
  induction n with
  | zero => intro v1 w; exact E_none_k
  | succ n ih => intro v1 w; exact l_X5_isRead_b16_b_k F a0 h0  hx  _ ih v1 w
set_option maxHeartbeats 4000000 in
set_option maxRecDepth 100000 in
theorem ev_X5_isRead_k (F : Nat) (a0 : Nat) (h0 : shK_k a0 = 10 + 5) (w : aI) : Ev_k yX5_isRead cX5_isRead 2 (some .boolean) 9 0 jvBW [.ref a0] (cm w) (f_X5_isRead F a0 w) := by
  refine Ev_k.of (own := RX5) (by decide +kernel) rfl (Nat.le_of_ble_eq_true rfl) (fun x hx => ?_)
  show En_k x jvBW 0 0 0 [(0, .ref a0)] [] (cm w) _
  unfold f_X5_isRead
  refine E_aload_n_k (pc := 0) hx 0 dX5_isRead_0 rfl rfl ?_
  refine E_getR_k (pc := 1) hx 1 fc5 h0 rfl ⟨rfl, rfl, rfl⟩ g322 dX5_isRead_1 ?_
  refine I_cVV_k  (pc := 4) hx [] [] (ev_X2_clear_k F (shR a0 1) (kt_5_1_k h0) w) vm_X2_clear fc2 (kt_5_1_k h0) g412 dX5_isRead_4 rfl rfl (Nat.le_of_ble_eq_true rfl) (Nat.le_of_ble_eq_true rfl) (Nat.le_of_ble_eq_true rfl) (fun w1 => ?_)
  refine E_aload_n_k (pc := 7) hx 0 dX5_isRead_7 rfl rfl ?_
  refine E_getR_k (pc := 8) hx 0 fc5 h0 rfl ⟨rfl, rfl, rfl⟩ g321 dX5_isRead_8 ?_
  refine I_cVV_k  (pc := 11) hx [] [] (ev_X9_open_k F (shR a0 0) (kt_5_0_k h0) w1) vm_X9_open fc7 (kt_5_0_k h0) g428 dX5_isRead_11 rfl rfl (Nat.le_of_ble_eq_true rfl) (Nat.le_of_ble_eq_true rfl) (Nat.le_of_ble_eq_true rfl) (fun w2 => ?_)
  refine I_iconst_k (pc := 14) hx 0 dX5_isRead_14 ?_
  refine E_istore_n_k (pc := 15) hx dX5_isRead_15 rfl (Nat.le_of_ble_eq_true rfl) rfl ?_
  refine En_k.sub [1, 0] rfl ?_
  exact l_X5_isRead_b16_k F a0 h0 hx F 0 w2
