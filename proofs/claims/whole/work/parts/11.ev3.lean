set_option maxHeartbeats 4000000 in
set_option maxRecDepth 100000 in
theorem l_X4_isStatementRead_b224 {x : Cx} (F : Nat) (a0 : Nat) (h0 : shK a0 = 10 + 4) (p1 : Int)  (hx : CxOK x RX4 cX4_isStatementRead 3 4 0 (some .boolean))   (v2 : Int) (w : aI) : En x jvBW 0 0 224 [(0, .ref a0), (2, .int (oI v2))] [] (cm w) (f_X4_isStatementRead_b224 F a0 p1    v2 w) := by
  unfold f_X4_isStatementRead_b224
  refine E_iload_n (pc := 224) hx 1 dX4_isStatementRead_224 rfl rfl ?_
  refine E_gd (fun hr8 => ?_)
  refine I_if_eq (pc := 225) hx 242 dX4_isStatementRead_225 rfl hr8 ?_ ?_
  · refine I_iconst (pc := 242) hx 0 dX4_isStatementRead_242 ?_
    exact E_zret (pc := 243) hx dX4_isStatementRead_243 rfl rfl rfl (Nat.le_of_ble_eq_true rfl)
  refine E_aload_n (pc := 228) hx 0 dX4_isStatementRead_228 rfl rfl ?_
  refine E_getR (pc := 229) hx 0 fc4 h0 rfl ⟨rfl, rfl, rfl⟩ g336 dX4_isStatementRead_229 ?_
  refine I_cVBW  (pc := 232) hx [] [] (ev_X9_isSemicolonTaken F (shR a0 0) (kt_4_0 h0) w) vm_X9_isSemicolonTaken fc7 (kt_4_0 h0) g691 dX4_isStatementRead_232 rfl rfl (Nat.le_of_ble_eq_true rfl) (Nat.le_of_ble_eq_true rfl) (Nat.le_of_ble_eq_true rfl) (fun r9 w10 => ?_)
  refine I_ifB_eq (pc := 235) hx 242 dX4_isStatementRead_235 rfl ?_ ?_
  · refine I_iconst (pc := 242) hx 0 dX4_isStatementRead_242 ?_
    exact E_zret (pc := 243) hx dX4_isStatementRead_243 rfl rfl rfl (Nat.le_of_ble_eq_true rfl)
  refine I_iconst (pc := 238) hx 1 dX4_isStatementRead_238 ?_
  refine E_goto (pc := 239) hx 243 dX4_isStatementRead_239 rfl ?_
  exact E_zret (pc := 243) hx dX4_isStatementRead_243 rfl rfl rfl (Nat.le_of_ble_eq_true rfl)
set_option maxHeartbeats 4000000 in
set_option maxRecDepth 100000 in
theorem l_X4_isStatementRead_b129 {x : Cx} (F : Nat) (a0 : Nat) (h0 : shK a0 = 10 + 4) (p1 : Int)  (hx : CxOK x RX4 cX4_isStatementRead 3 4 0 (some .boolean))   (z0 : Int) (w : aI) : En x jvBW 0 0 129 [(0, .ref a0)] [.int (oI z0)] (cm w) (f_X4_isStatementRead_b129 F a0 p1    z0 w) := by
  unfold f_X4_isStatementRead_b129
  refine E_istore_n (pc := 129) hx dX4_isStatementRead_129 rfl (Nat.le_of_ble_eq_true rfl) rfl ?_
  refine E_goto (pc := 130) hx 224 dX4_isStatementRead_130 rfl ?_
  refine En.sub [1, 0] rfl ?_
  exact l_X4_isStatementRead_b224 F a0 h0 p1 hx z0 w
set_option maxHeartbeats 4000000 in
set_option maxRecDepth 100000 in
theorem l_X4_isStatementRead_b128 {x : Cx} (F : Nat) (a0 : Nat) (h0 : shK a0 = 10 + 4) (p1 : Int)  (hx : CxOK x RX4 cX4_isStatementRead 3 4 0 (some .boolean))    (w : aI) : En x jvBW 0 0 128 [(0, .ref a0)] [] (cm w) (f_X4_isStatementRead_b128 F a0 p1    w) := by
  unfold f_X4_isStatementRead_b128
  refine I_iconst (pc := 128) hx 0 dX4_isStatementRead_128 ?_
  exact l_X4_isStatementRead_b129 F a0 h0 p1 hx 0 w
set_option maxHeartbeats 4000000 in
set_option maxRecDepth 100000 in
theorem l_X4_isStatementRead_b169 {x : Cx} (F : Nat) (a0 : Nat) (h0 : shK a0 = 10 + 4) (p1 : Int)  (hx : CxOK x RX4 cX4_isStatementRead 3 4 0 (some .boolean))   (z0 : Int) (w : aI) : En x jvBW 0 0 169 [(0, .ref a0)] [.int (oI z0)] (cm w) (f_X4_isStatementRead_b169 F a0 p1    z0 w) := by
  unfold f_X4_isStatementRead_b169
  refine E_istore_n (pc := 169) hx dX4_isStatementRead_169 rfl (Nat.le_of_ble_eq_true rfl) rfl ?_
  refine E_goto (pc := 170) hx 224 dX4_isStatementRead_170 rfl ?_
  refine En.sub [1, 0] rfl ?_
  exact l_X4_isStatementRead_b224 F a0 h0 p1 hx z0 w
set_option maxHeartbeats 4000000 in
set_option maxRecDepth 100000 in
theorem l_X4_isStatementRead_b168 {x : Cx} (F : Nat) (a0 : Nat) (h0 : shK a0 = 10 + 4) (p1 : Int)  (hx : CxOK x RX4 cX4_isStatementRead 3 4 0 (some .boolean))    (w : aI) : En x jvBW 0 0 168 [(0, .ref a0)] [] (cm w) (f_X4_isStatementRead_b168 F a0 p1    w) := by
  unfold f_X4_isStatementRead_b168
  refine I_iconst (pc := 168) hx 0 dX4_isStatementRead_168 ?_
  exact l_X4_isStatementRead_b169 F a0 h0 p1 hx 0 w
set_option maxHeartbeats 4000000 in
set_option maxRecDepth 100000 in
theorem l_X4_isStatementRead_b207 {x : Cx} (F : Nat) (a0 : Nat) (h0 : shK a0 = 10 + 4) (p1 : Int)  (hx : CxOK x RX4 cX4_isStatementRead 3 4 0 (some .boolean))   (z0 : Int) (w : aI) : En x jvBW 0 0 207 [(0, .ref a0)] [.int (oI z0)] (cm w) (f_X4_isStatementRead_b207 F a0 p1    z0 w) := by
  unfold f_X4_isStatementRead_b207
  refine E_istore_n (pc := 207) hx dX4_isStatementRead_207 rfl (Nat.le_of_ble_eq_true rfl) rfl ?_
  refine E_goto (pc := 208) hx 224 dX4_isStatementRead_208 rfl ?_
  refine En.sub [1, 0] rfl ?_
  exact l_X4_isStatementRead_b224 F a0 h0 p1 hx z0 w
set_option maxHeartbeats 4000000 in
set_option maxRecDepth 100000 in
theorem l_X4_isStatementRead_b206 {x : Cx} (F : Nat) (a0 : Nat) (h0 : shK a0 = 10 + 4) (p1 : Int)  (hx : CxOK x RX4 cX4_isStatementRead 3 4 0 (some .boolean))    (w : aI) : En x jvBW 0 0 206 [(0, .ref a0)] [] (cm w) (f_X4_isStatementRead_b206 F a0 p1    w) := by
  unfold f_X4_isStatementRead_b206
  refine I_iconst (pc := 206) hx 0 dX4_isStatementRead_206 ?_
  exact l_X4_isStatementRead_b207 F a0 h0 p1 hx 0 w
set_option maxHeartbeats 4000000 in
set_option maxRecDepth 100000 in
theorem ev_X4_isStatementRead (F : Nat) (a0 : Nat) (h0 : shK a0 = 10 + 4) (p1 : Int) (w : aI) : Ev yX4_isStatementRead cX4_isStatementRead 3 (some .boolean) 4 0 jvBW [.ref a0, .int (oI p1)] (cm w) (f_X4_isStatementRead F a0 p1 w) := by
  refine Ev.of (own := RX4) (by decide +kernel) rfl (Nat.le_of_ble_eq_true rfl) (fun x hx => ?_)
  show En x jvBW 0 0 0 [(0, .ref a0), (1, .int (oI p1))] [] (cm w) _
  unfold f_X4_isStatementRead
  refine E_iload_n (pc := 0) hx 1 dX4_isStatementRead_0 rfl rfl ?_
  refine I_iconst (pc := 1) hx (-1) dX4_isStatementRead_1 ?_
  refine E_gd (fun hr1 => ?_)
  refine I_icmp_ne (pc := 2) hx 14 dX4_isStatementRead_2 rfl ⟨hr1, (by decide)⟩ ?_ ?_
  · refine E_aload_n (pc := 14) hx 0 dX4_isStatementRead_14 rfl rfl ?_
    refine I_getI (pc := 15) hx 3 3 rfl fc4 h0 rfl ⟨rfl, rfl, rfl⟩ g340 dX4_isStatementRead_15 ?_
    refine I_bipush (pc := 18) hx 30 dX4_isStatementRead_18 rfl ?_
    refine E_gd (fun hr2 => ?_)
    refine I_icmp_lt (pc := 20) hx 32 dX4_isStatementRead_20 rfl ⟨hr2, (by decide)⟩ ?_ ?_
    · refine E_aload_n (pc := 32) hx 0 dX4_isStatementRead_32 rfl rfl ?_
      refine E_getR (pc := 33) hx 2 fc4 h0 rfl ⟨rfl, rfl, rfl⟩ g338 dX4_isStatementRead_33 ?_
      refine E_aload_n (pc := 36) hx 0 dX4_isStatementRead_36 rfl rfl ?_
      refine I_getI (pc := 37) hx 3 3 rfl fc4 h0 rfl ⟨rfl, rfl, rfl⟩ g340 dX4_isStatementRead_37 ?_
      refine I_iconst (pc := 40) hx 0 dX4_isStatementRead_40 ?_
      refine E_iload_n (pc := 41) hx 1 dX4_isStatementRead_41 rfl rfl ?_
      refine I_cVV  (pc := 42) hx [.int (oI (w a0 3)), .int (oI 0), .int (oI p1)] [] (ev_X7_put F (shR a0 2) (kt_4_2 h0) (w a0 3) 0 p1 w) vm_X7_put fc6 (kt_4_2 h0) g671 dX4_isStatementRead_42 rfl rfl (Nat.le_of_ble_eq_true rfl) (Nat.le_of_ble_eq_true rfl) (Nat.le_of_ble_eq_true rfl) (fun w3 => ?_)
      refine E_aload_n (pc := 45) hx 0 dX4_isStatementRead_45 rfl rfl ?_
      refine E_getR (pc := 46) hx 0 fc4 h0 rfl ⟨rfl, rfl, rfl⟩ g336 dX4_isStatementRead_46 ?_
      refine I_cVV  (pc := 49) hx [] [] (ev_X9_step F (shR a0 0) (kt_4_0 h0) w3) vm_X9_step fc7 (kt_4_0 h0) g672 dX4_isStatementRead_49 rfl rfl (Nat.le_of_ble_eq_true rfl) (Nat.le_of_ble_eq_true rfl) (Nat.le_of_ble_eq_true rfl) (fun w4 => ?_)
      refine E_iload_n (pc := 52) hx 1 dX4_isStatementRead_52 rfl rfl ?_
      refine E_case (fun hc5 => ?_) (fun hc5 => ?_)
      · refine E_tIn (pc := 53) hx 88 dX4_isStatementRead_53 (by rw [oI_toInt hr1]; omega) (by rw [oI_toInt hr1]; omega) (by rw [hc5]; rfl) rfl ?_
        refine E_aload_n (pc := 88) hx 0 dX4_isStatementRead_88 rfl rfl ?_
        refine I_iconst (pc := 89) hx 1 dX4_isStatementRead_89 ?_
        refine I_iconst (pc := 90) hx (-1) dX4_isStatementRead_90 ?_
        refine I_cVBW  (pc := 91) hx [.int (oI 1), .int (oI (-1))] [] (ev_X4_isRoofRead F a0 h0 1 (-1) w4) vm_X4_isRoofRead fc4 h0 g673 dX4_isStatementRead_91 rfl rfl (Nat.le_of_ble_eq_true rfl) (Nat.le_of_ble_eq_true rfl) (Nat.le_of_ble_eq_true rfl) (fun r6 w7 => ?_)
        refine I_ifB_eq (pc := 94) hx 128 dX4_isStatementRead_94 rfl ?_ ?_
        · refine En.sub [0] rfl ?_
          exact l_X4_isStatementRead_b128 F a0 h0 p1 hx w7
        refine E_aload_n (pc := 97) hx 0 dX4_isStatementRead_97 rfl rfl ?_
        refine I_iconst (pc := 98) hx 2 dX4_isStatementRead_98 ?_
        refine E_aload_n (pc := 99) hx 0 dX4_isStatementRead_99 rfl rfl ?_
        refine E_getR (pc := 100) hx 2 fc4 h0 rfl ⟨rfl, rfl, rfl⟩ g338 dX4_isStatementRead_100 ?_
        refine E_aload_n (pc := 103) hx 0 dX4_isStatementRead_103 rfl rfl ?_
        refine I_getI (pc := 104) hx 3 3 rfl fc4 h0 rfl ⟨rfl, rfl, rfl⟩ g340 dX4_isStatementRead_104 ?_
        refine I_iconst (pc := 107) hx 1 dX4_isStatementRead_107 ?_
        refine I_cVI  (pc := 108) hx [.int (oI (w7 a0 3)), .int (oI 1)] [.int (oI 2), .ref a0] (ev_X7_get F (shR a0 2) (kt_4_2 h0) (w7 a0 3) 1 w7) vm_X7_get fc6 (kt_4_2 h0) g678 dX4_isStatementRead_108 rfl rfl (Nat.le_of_ble_eq_true rfl) (Nat.le_of_ble_eq_true rfl) (Nat.le_of_ble_eq_true rfl) (fun r11 => ?_)
        refine I_cVBW  (pc := 111) hx [.int (oI 2), .int (oI r11)] [] (ev_X4_isRoofRead F a0 h0 2 r11 w7) vm_X4_isRoofRead fc4 h0 g673 dX4_isStatementRead_111 rfl rfl (Nat.le_of_ble_eq_true rfl) (Nat.le_of_ble_eq_true rfl) (Nat.le_of_ble_eq_true rfl) (fun r12 w13 => ?_)
        refine I_ifB_eq (pc := 114) hx 128 dX4_isStatementRead_114 rfl ?_ ?_
        · refine En.sub [0] rfl ?_
          exact l_X4_isStatementRead_b128 F a0 h0 p1 hx w13
        refine E_aload_n (pc := 117) hx 0 dX4_isStatementRead_117 rfl rfl ?_
        refine I_cVBW  (pc := 118) hx [] [] (ev_X4_areNotesRead F a0 h0 w13) vm_X4_areNotesRead fc4 h0 g679 dX4_isStatementRead_118 rfl rfl (Nat.le_of_ble_eq_true rfl) (Nat.le_of_ble_eq_true rfl) (Nat.le_of_ble_eq_true rfl) (fun r14 w15 => ?_)
        refine I_ifB_eq (pc := 121) hx 128 dX4_isStatementRead_121 rfl ?_ ?_
        · refine En.sub [0] rfl ?_
          exact l_X4_isStatementRead_b128 F a0 h0 p1 hx w15
        refine I_iconst (pc := 124) hx 1 dX4_isStatementRead_124 ?_
        refine E_goto (pc := 125) hx 129 dX4_isStatementRead_125 rfl ?_
        refine En.sub [0] rfl ?_
        exact l_X4_isStatementRead_b129 F a0 h0 p1 hx 1 w15
      refine E_case (fun hc16 => ?_) (fun hc16 => ?_)
      · refine E_tIn (pc := 53) hx 88 dX4_isStatementRead_53 (by rw [oI_toInt hr1]; omega) (by rw [oI_toInt hr1]; omega) (by rw [hc16]; rfl) rfl ?_
        refine E_aload_n (pc := 88) hx 0 dX4_isStatementRead_88 rfl rfl ?_
        refine I_iconst (pc := 89) hx 1 dX4_isStatementRead_89 ?_
        refine I_iconst (pc := 90) hx (-1) dX4_isStatementRead_90 ?_
        refine I_cVBW  (pc := 91) hx [.int (oI 1), .int (oI (-1))] [] (ev_X4_isRoofRead F a0 h0 1 (-1) w4) vm_X4_isRoofRead fc4 h0 g673 dX4_isStatementRead_91 rfl rfl (Nat.le_of_ble_eq_true rfl) (Nat.le_of_ble_eq_true rfl) (Nat.le_of_ble_eq_true rfl) (fun r17 w18 => ?_)
        refine I_ifB_eq (pc := 94) hx 128 dX4_isStatementRead_94 rfl ?_ ?_
        · refine En.sub [0] rfl ?_
          exact l_X4_isStatementRead_b128 F a0 h0 p1 hx w18
        refine E_aload_n (pc := 97) hx 0 dX4_isStatementRead_97 rfl rfl ?_
        refine I_iconst (pc := 98) hx 2 dX4_isStatementRead_98 ?_
        refine E_aload_n (pc := 99) hx 0 dX4_isStatementRead_99 rfl rfl ?_
        refine E_getR (pc := 100) hx 2 fc4 h0 rfl ⟨rfl, rfl, rfl⟩ g338 dX4_isStatementRead_100 ?_
        refine E_aload_n (pc := 103) hx 0 dX4_isStatementRead_103 rfl rfl ?_
        refine I_getI (pc := 104) hx 3 3 rfl fc4 h0 rfl ⟨rfl, rfl, rfl⟩ g340 dX4_isStatementRead_104 ?_
        refine I_iconst (pc := 107) hx 1 dX4_isStatementRead_107 ?_
        refine I_cVI  (pc := 108) hx [.int (oI (w18 a0 3)), .int (oI 1)] [.int (oI 2), .ref a0] (ev_X7_get F (shR a0 2) (kt_4_2 h0) (w18 a0 3) 1 w18) vm_X7_get fc6 (kt_4_2 h0) g678 dX4_isStatementRead_108 rfl rfl (Nat.le_of_ble_eq_true rfl) (Nat.le_of_ble_eq_true rfl) (Nat.le_of_ble_eq_true rfl) (fun r19 => ?_)
        refine I_cVBW  (pc := 111) hx [.int (oI 2), .int (oI r19)] [] (ev_X4_isRoofRead F a0 h0 2 r19 w18) vm_X4_isRoofRead fc4 h0 g673 dX4_isStatementRead_111 rfl rfl (Nat.le_of_ble_eq_true rfl) (Nat.le_of_ble_eq_true rfl) (Nat.le_of_ble_eq_true rfl) (fun r20 w21 => ?_)
        refine I_ifB_eq (pc := 114) hx 128 dX4_isStatementRead_114 rfl ?_ ?_
        · refine En.sub [0] rfl ?_
          exact l_X4_isStatementRead_b128 F a0 h0 p1 hx w21
        refine E_aload_n (pc := 117) hx 0 dX4_isStatementRead_117 rfl rfl ?_
        refine I_cVBW  (pc := 118) hx [] [] (ev_X4_areNotesRead F a0 h0 w21) vm_X4_areNotesRead fc4 h0 g679 dX4_isStatementRead_118 rfl rfl (Nat.le_of_ble_eq_true rfl) (Nat.le_of_ble_eq_true rfl) (Nat.le_of_ble_eq_true rfl) (fun r22 w23 => ?_)
        refine I_ifB_eq (pc := 121) hx 128 dX4_isStatementRead_121 rfl ?_ ?_
        · refine En.sub [0] rfl ?_
          exact l_X4_isStatementRead_b128 F a0 h0 p1 hx w23
        refine I_iconst (pc := 124) hx 1 dX4_isStatementRead_124 ?_
        refine E_goto (pc := 125) hx 129 dX4_isStatementRead_125 rfl ?_
        refine En.sub [0] rfl ?_
        exact l_X4_isStatementRead_b129 F a0 h0 p1 hx 1 w23
      refine E_case (fun hc24 => ?_) (fun hc24 => ?_)
      · refine E_tIn (pc := 53) hx 133 dX4_isStatementRead_53 (by rw [oI_toInt hr1]; omega) (by rw [oI_toInt hr1]; omega) (by rw [hc24]; rfl) rfl ?_
        refine E_aload_n (pc := 133) hx 0 dX4_isStatementRead_133 rfl rfl ?_
        refine I_iconst (pc := 134) hx 1 dX4_isStatementRead_134 ?_
        refine I_sipush (pc := 135) hx 200 dX4_isStatementRead_135 rfl ?_
        refine I_cVBW  (pc := 138) hx [.int (oI 1), .int (oI 200)] [] (ev_X4_isNumberRead F a0 h0 1 200 w4) vm_X4_isNumberRead fc4 h0 g684 dX4_isStatementRead_138 rfl rfl (Nat.le_of_ble_eq_true rfl) (Nat.le_of_ble_eq_true rfl) (Nat.le_of_ble_eq_true rfl) (fun r25 w26 => ?_)
        refine E_istore_n (pc := 141) hx dX4_isStatementRead_141 rfl (Nat.le_of_ble_eq_true rfl) rfl ?_
        refine E_goto (pc := 142) hx 224 dX4_isStatementRead_142 rfl ?_
        refine En.sub [1, 0] rfl ?_
        exact l_X4_isStatementRead_b224 F a0 h0 p1 hx (bI r25) w26
      refine E_case (fun hc27 => ?_) (fun hc27 => ?_)
      · refine E_tIn (pc := 53) hx 145 dX4_isStatementRead_53 (by rw [oI_toInt hr1]; omega) (by rw [oI_toInt hr1]; omega) (by rw [hc27]; rfl) rfl ?_
        refine E_aload_n (pc := 145) hx 0 dX4_isStatementRead_145 rfl rfl ?_
        refine I_iconst (pc := 146) hx 1 dX4_isStatementRead_146 ?_
        refine I_iconst (pc := 147) hx (-1) dX4_isStatementRead_147 ?_
        refine I_cVBW  (pc := 148) hx [.int (oI 1), .int (oI (-1))] [] (ev_X4_isRoofRead F a0 h0 1 (-1) w4) vm_X4_isRoofRead fc4 h0 g673 dX4_isStatementRead_148 rfl rfl (Nat.le_of_ble_eq_true rfl) (Nat.le_of_ble_eq_true rfl) (Nat.le_of_ble_eq_true rfl) (fun r28 w29 => ?_)
        refine I_ifB_eq (pc := 151) hx 168 dX4_isStatementRead_151 rfl ?_ ?_
        · refine En.sub [0] rfl ?_
          exact l_X4_isStatementRead_b168 F a0 h0 p1 hx w29
        refine E_aload_n (pc := 154) hx 0 dX4_isStatementRead_154 rfl rfl ?_
        refine I_iconst (pc := 155) hx 1 dX4_isStatementRead_155 ?_
        refine I_bipush (pc := 156) hx 99 dX4_isStatementRead_156 rfl ?_
        refine I_cVBW  (pc := 158) hx [.int (oI 1), .int (oI 99)] [] (ev_X4_isNumberRead F a0 h0 1 99 w29) vm_X4_isNumberRead fc4 h0 g684 dX4_isStatementRead_158 rfl rfl (Nat.le_of_ble_eq_true rfl) (Nat.le_of_ble_eq_true rfl) (Nat.le_of_ble_eq_true rfl) (fun r30 w31 => ?_)
        refine I_ifB_eq (pc := 161) hx 168 dX4_isStatementRead_161 rfl ?_ ?_
        · refine En.sub [0] rfl ?_
          exact l_X4_isStatementRead_b168 F a0 h0 p1 hx w31
        refine I_iconst (pc := 164) hx 1 dX4_isStatementRead_164 ?_
        refine E_goto (pc := 165) hx 169 dX4_isStatementRead_165 rfl ?_
        refine En.sub [0] rfl ?_
        exact l_X4_isStatementRead_b169 F a0 h0 p1 hx 1 w31
      refine E_case (fun hc32 => ?_) (fun hc32 => ?_)
      · refine E_tIn (pc := 53) hx 173 dX4_isStatementRead_53 (by rw [oI_toInt hr1]; omega) (by rw [oI_toInt hr1]; omega) (by rw [hc32]; rfl) rfl ?_
        refine E_aload_n (pc := 173) hx 0 dX4_isStatementRead_173 rfl rfl ?_
        refine I_iconst (pc := 174) hx 1 dX4_isStatementRead_174 ?_
        refine I_iconst (pc := 175) hx (-1) dX4_isStatementRead_175 ?_
        refine I_cVBW  (pc := 176) hx [.int (oI 1), .int (oI (-1))] [] (ev_X4_isRoofRead F a0 h0 1 (-1) w4) vm_X4_isRoofRead fc4 h0 g673 dX4_isStatementRead_176 rfl rfl (Nat.le_of_ble_eq_true rfl) (Nat.le_of_ble_eq_true rfl) (Nat.le_of_ble_eq_true rfl) (fun r33 w34 => ?_)
        refine I_ifB_eq (pc := 179) hx 206 dX4_isStatementRead_179 rfl ?_ ?_
        · refine En.sub [0] rfl ?_
          exact l_X4_isStatementRead_b206 F a0 h0 p1 hx w34
        refine E_aload_n (pc := 182) hx 0 dX4_isStatementRead_182 rfl rfl ?_
        refine I_iconst (pc := 183) hx 2 dX4_isStatementRead_183 ?_
        refine E_aload_n (pc := 184) hx 0 dX4_isStatementRead_184 rfl rfl ?_
        refine E_getR (pc := 185) hx 2 fc4 h0 rfl ⟨rfl, rfl, rfl⟩ g338 dX4_isStatementRead_185 ?_
        refine E_aload_n (pc := 188) hx 0 dX4_isStatementRead_188 rfl rfl ?_
        refine I_getI (pc := 189) hx 3 3 rfl fc4 h0 rfl ⟨rfl, rfl, rfl⟩ g340 dX4_isStatementRead_189 ?_
        refine I_iconst (pc := 192) hx 1 dX4_isStatementRead_192 ?_
        refine I_cVI  (pc := 193) hx [.int (oI (w34 a0 3)), .int (oI 1)] [.int (oI 2), .ref a0] (ev_X7_get F (shR a0 2) (kt_4_2 h0) (w34 a0 3) 1 w34) vm_X7_get fc6 (kt_4_2 h0) g678 dX4_isStatementRead_193 rfl rfl (Nat.le_of_ble_eq_true rfl) (Nat.le_of_ble_eq_true rfl) (Nat.le_of_ble_eq_true rfl) (fun r35 => ?_)
        refine I_cVBW  (pc := 196) hx [.int (oI 2), .int (oI r35)] [] (ev_X4_isRoofRead F a0 h0 2 r35 w34) vm_X4_isRoofRead fc4 h0 g673 dX4_isStatementRead_196 rfl rfl (Nat.le_of_ble_eq_true rfl) (Nat.le_of_ble_eq_true rfl) (Nat.le_of_ble_eq_true rfl) (fun r36 w37 => ?_)
        refine I_ifB_eq (pc := 199) hx 206 dX4_isStatementRead_199 rfl ?_ ?_
        · refine En.sub [0] rfl ?_
          exact l_X4_isStatementRead_b206 F a0 h0 p1 hx w37
        refine I_iconst (pc := 202) hx 1 dX4_isStatementRead_202 ?_
        refine E_goto (pc := 203) hx 207 dX4_isStatementRead_203 rfl ?_
        refine En.sub [0] rfl ?_
        exact l_X4_isStatementRead_b207 F a0 h0 p1 hx 1 w37
      refine E_tOut (pc := 53) hx 211 dX4_isStatementRead_53 (swI_out hr1 (by omega)) rfl ?_
      refine E_aload_n (pc := 211) hx 0 dX4_isStatementRead_211 rfl rfl ?_
      refine E_iload_n (pc := 212) hx 1 dX4_isStatementRead_212 rfl rfl ?_
      refine I_cSI  (pc := 213) hx [.int (oI p1)] [.ref a0] (ev_X2_leastOf F p1 w4) sm_X2_leastOf g689 dX4_isStatementRead_213 rfl rfl (Nat.le_of_ble_eq_true rfl) (Nat.le_of_ble_eq_true rfl) (Nat.le_of_ble_eq_true rfl) (fun r38 => ?_)
      refine E_iload_n (pc := 216) hx 1 dX4_isStatementRead_216 rfl rfl ?_
      refine I_cSI  (pc := 217) hx [.int (oI p1)] [.int (oI r38), .ref a0] (ev_X2_mostOf F p1 w4) sm_X2_mostOf g690 dX4_isStatementRead_217 rfl rfl (Nat.le_of_ble_eq_true rfl) (Nat.le_of_ble_eq_true rfl) (Nat.le_of_ble_eq_true rfl) (fun r39 => ?_)
      refine I_cVBW  (pc := 220) hx [.int (oI r38), .int (oI r39)] [] (ev_X4_isNumberRead F a0 h0 r38 r39 w4) vm_X4_isNumberRead fc4 h0 g684 dX4_isStatementRead_220 rfl rfl (Nat.le_of_ble_eq_true rfl) (Nat.le_of_ble_eq_true rfl) (Nat.le_of_ble_eq_true rfl) (fun r40 w41 => ?_)
      refine E_istore_n (pc := 223) hx dX4_isStatementRead_223 rfl (Nat.le_of_ble_eq_true rfl) rfl ?_
      refine En.sub [1, 0] rfl ?_
      exact l_X4_isStatementRead_b224 F a0 h0 p1 hx (bI r40) w41
    refine E_aload_n (pc := 23) hx 0 dX4_isStatementRead_23 rfl rfl ?_
    refine E_getR (pc := 24) hx 0 fc4 h0 rfl ⟨rfl, rfl, rfl⟩ g336 dX4_isStatementRead_24 ?_
    refine I_iconst (pc := 27) hx 5 dX4_isStatementRead_27 ?_
    refine I_cVBW  (pc := 28) hx [.int (oI 5)] [] (ev_X9_fail F (shR a0 0) (kt_4_0 h0) 5 w) vm_X9_fail fc7 (kt_4_0 h0) g670 dX4_isStatementRead_28 rfl rfl (Nat.le_of_ble_eq_true rfl) (Nat.le_of_ble_eq_true rfl) (Nat.le_of_ble_eq_true rfl) (fun r42 w43 => ?_)
    exact E_zret (pc := 31) hx dX4_isStatementRead_31 rfl (bI_nar _) rfl (Nat.le_of_ble_eq_true rfl)
  refine E_aload_n (pc := 5) hx 0 dX4_isStatementRead_5 rfl rfl ?_
  refine E_getR (pc := 6) hx 0 fc4 h0 rfl ⟨rfl, rfl, rfl⟩ g336 dX4_isStatementRead_6 ?_
  refine I_iconst (pc := 9) hx 1 dX4_isStatementRead_9 ?_
  refine I_cVBW  (pc := 10) hx [.int (oI 1)] [] (ev_X9_fail F (shR a0 0) (kt_4_0 h0) 1 w) vm_X9_fail fc7 (kt_4_0 h0) g670 dX4_isStatementRead_10 rfl rfl (Nat.le_of_ble_eq_true rfl) (Nat.le_of_ble_eq_true rfl) (Nat.le_of_ble_eq_true rfl) (fun r44 w45 => ?_)
  exact E_zret (pc := 13) hx dX4_isStatementRead_13 rfl (bI_nar _) rfl (Nat.le_of_ble_eq_true rfl)
set_option maxHeartbeats 4000000 in
set_option maxRecDepth 100000 in
theorem l_X4_isRead_b14_b {x : Cx} (F : Nat) (a0 : Nat) (h0 : shK a0 = 10 + 4)  (hx : CxOK x RX4 cX4_isRead 2 9 0 (some .boolean))  (k14 : Int → aI → Option (Bool × aI)) (hk14 : ∀ (v1 : Int) (w : aI), En x jvBW 0 0 14 [(0, .ref a0), (1, .int (oI v1))] [] (cm w) (k14 v1 w)) (v1 : Int) (w : aI) : En x jvBW 0 0 14 [(0, .ref a0), (1, .int (oI v1))] [] (cm w) (f_X4_isRead_b14_b F a0   k14 v1 w) := by
  unfold f_X4_isRead_b14_b
  refine E_iload_n (pc := 14) hx 1 dX4_isRead_14 rfl rfl ?_
  refine I_sipush (pc := 15) hx 800 dX4_isRead_15 rfl ?_
  refine E_gd (fun hr3 => ?_)
  refine I_icmp_ge (pc := 18) hx 60 dX4_isRead_18 rfl ⟨hr3, (by decide)⟩ ?_ ?_
  · refine I_iconst (pc := 60) hx 1 dX4_isRead_60 ?_
    exact E_zret (pc := 61) hx dX4_isRead_61 rfl rfl rfl (Nat.le_of_ble_eq_true rfl)
  refine E_aload_n (pc := 21) hx 0 dX4_isRead_21 rfl rfl ?_
  refine E_getR (pc := 22) hx 0 fc4 h0 rfl ⟨rfl, rfl, rfl⟩ g336 dX4_isRead_22 ?_
  refine I_getI (pc := 25) hx 3 3 rfl fc7 (kt_4_0 h0) rfl ⟨rfl, rfl, rfl⟩ g291 dX4_isRead_25 ?_
  refine E_gd (fun hr4 => ?_)
  refine I_if_eq (pc := 28) hx 60 dX4_isRead_28 rfl hr4 ?_ ?_
  · refine I_iconst (pc := 60) hx 1 dX4_isRead_60 ?_
    exact E_zret (pc := 61) hx dX4_isRead_61 rfl rfl rfl (Nat.le_of_ble_eq_true rfl)
  refine E_aload_n (pc := 31) hx 0 dX4_isRead_31 rfl rfl ?_
  refine E_aload_n (pc := 32) hx 0 dX4_isRead_32 rfl rfl ?_
  refine I_cVI  (pc := 33) hx [] [.ref a0] (ev_X4_wordHere F a0 h0 w) vm_X4_wordHere fc4 h0 g655 dX4_isRead_33 rfl rfl (Nat.le_of_ble_eq_true rfl) (Nat.le_of_ble_eq_true rfl) (Nat.le_of_ble_eq_true rfl) (fun r5 => ?_)
  refine I_cVBW  (pc := 36) hx [.int (oI r5)] [] (ev_X4_isStatementRead F a0 h0 r5 w) vm_X4_isStatementRead fc4 h0 g666 dX4_isRead_36 rfl rfl (Nat.le_of_ble_eq_true rfl) (Nat.le_of_ble_eq_true rfl) (Nat.le_of_ble_eq_true rfl) (fun r6 w7 => ?_)
  refine I_ifB_ne (pc := 39) hx 44 dX4_isRead_39 rfl ?_ ?_
  · refine E_aload_n (pc := 44) hx 0 dX4_isRead_44 rfl rfl ?_
    refine E_dup (pc := 45) hx dX4_isRead_45 rfl ?_
    refine I_getI (pc := 46) hx 3 3 rfl fc4 h0 rfl ⟨rfl, rfl, rfl⟩ g340 dX4_isRead_46 ?_
    refine I_iconst (pc := 49) hx 1 dX4_isRead_49 ?_
    refine I_iadd (pc := 50) hx dX4_isRead_50 ?_
    refine I_put (pc := 51) hx 3 3 rfl .int tyX4 fc4 tyX4_ok h0 rfl ⟨rfl, rfl, rfl, rfl, pfd_I⟩ rfl rfl g340 dX4_isRead_51 (fun w8 => ?_)
    refine I_iinc (pc := 54) hx 1 1 dX4_isRead_54 rfl (Nat.le_of_ble_eq_true rfl) rfl ?_
    refine E_goto (pc := 57) hx 14 dX4_isRead_57 rfl ?_
    refine En.sub [1, 0] rfl ?_
    exact hk14 (v1 + 1) w8
  refine I_iconst (pc := 42) hx 0 dX4_isRead_42 ?_
  exact E_zret (pc := 43) hx dX4_isRead_43 rfl rfl rfl (Nat.le_of_ble_eq_true rfl)
theorem l_X4_isRead_b14 {x : Cx} (F : Nat) (a0 : Nat) (h0 : shK a0 = 10 + 4)  (hx : CxOK x RX4 cX4_isRead 2 9 0 (some .boolean))  : ∀ (n : Nat) (v1 : Int) (w : aI), En x jvBW 0 0 14 [(0, .ref a0), (1, .int (oI v1))] [] (cm w) (f_X4_isRead_b14 F a0   n v1 w) := by
  intro n
  induction n with
  | zero => intro v1 w; exact E_none
  | succ n ih => intro v1 w; exact l_X4_isRead_b14_b F a0 h0  hx  _ ih v1 w
set_option maxHeartbeats 4000000 in
set_option maxRecDepth 100000 in
theorem ev_X4_isRead (F : Nat) (a0 : Nat) (h0 : shK a0 = 10 + 4) (w : aI) : Ev yX4_isRead cX4_isRead 2 (some .boolean) 9 0 jvBW [.ref a0] (cm w) (f_X4_isRead F a0 w) := by
  refine Ev.of (own := RX4) (by decide +kernel) rfl (Nat.le_of_ble_eq_true rfl) (fun x hx => ?_)
  show En x jvBW 0 0 0 [(0, .ref a0)] [] (cm w) _
  unfold f_X4_isRead
  refine E_aload_n (pc := 0) hx 0 dX4_isRead_0 rfl rfl ?_
  refine I_iconst (pc := 1) hx 0 dX4_isRead_1 ?_
  refine I_put (pc := 2) hx 3 3 rfl .int tyX4 fc4 tyX4_ok h0 rfl ⟨rfl, rfl, rfl, rfl, pfd_I⟩ rfl rfl g340 dX4_isRead_2 (fun w1 => ?_)
  refine E_aload_n (pc := 5) hx 0 dX4_isRead_5 rfl rfl ?_
  refine E_getR (pc := 6) hx 0 fc4 h0 rfl ⟨rfl, rfl, rfl⟩ g336 dX4_isRead_6 ?_
  refine I_cVV  (pc := 9) hx [] [] (ev_X9_open F (shR a0 0) (kt_4_0 h0) w1) vm_X9_open fc7 (kt_4_0 h0) g654 dX4_isRead_9 rfl rfl (Nat.le_of_ble_eq_true rfl) (Nat.le_of_ble_eq_true rfl) (Nat.le_of_ble_eq_true rfl) (fun w2 => ?_)
  refine I_iconst (pc := 12) hx 0 dX4_isRead_12 ?_
  refine E_istore_n (pc := 13) hx dX4_isRead_13 rfl (Nat.le_of_ble_eq_true rfl) rfl ?_
  refine En.sub [1, 0] rfl ?_
  exact l_X4_isRead_b14 F a0 h0 hx F 0 w2
set_option maxHeartbeats 4000000 in
set_option maxRecDepth 100000 in
theorem l_X5_isRoofRead_b144 {x : Cx} (F : Nat) (a0 : Nat) (h0 : shK a0 = 10 + 5)  (hx : CxOK x RX5 cX5_isRoofRead 6 3 0 (some .boolean))   (v1 : Int) (v2 : Int) (v3 : Int) (v4 : Int) (z0 : Int) (w : aI) : En x jvBW 0 0 144 [(0, .ref a0), (1, .int (oI v1)), (2, .int (oI v2)), (3, .int (oI v3)), (4, .int (oI v4))] [.int (oI z0)] (cm w) (f_X5_isRoofRead_b144 F a0    v1 v2 v3 v4 z0 w) := by
  unfold f_X5_isRoofRead_b144
  refine E_istore (pc := 144) hx dX5_isRoofRead_144 (Nat.le_of_ble_eq_true rfl) rfl ?_
  refine E_iload (pc := 146) hx 0 dX5_isRoofRead_146 rfl ?_
  refine I_iconst (pc := 148) hx (-1) dX5_isRoofRead_148 ?_
  refine E_gd (fun hr20 => ?_)
  refine I_icmp_eq (pc := 149) hx 162 dX5_isRoofRead_149 rfl ⟨hr20, (by decide)⟩ ?_ ?_
  · refine I_iconst (pc := 162) hx 0 dX5_isRoofRead_162 ?_
    exact E_zret (pc := 163) hx dX5_isRoofRead_163 rfl rfl rfl (Nat.le_of_ble_eq_true rfl)
  refine E_aload_n (pc := 152) hx 1 dX5_isRoofRead_152 rfl rfl ?_
  refine E_getR (pc := 153) hx 0 fc5 h0 rfl ⟨rfl, rfl, rfl⟩ g321 dX5_isRoofRead_153 ?_
  refine I_cVBW  (pc := 156) hx [] [] (ev_X9_isSemicolonTaken F (shR a0 0) (kt_5_0 h0) w) vm_X9_isSemicolonTaken fc7 (kt_5_0 h0) g488 dX5_isRoofRead_156 rfl rfl (Nat.le_of_ble_eq_true rfl) (Nat.le_of_ble_eq_true rfl) (Nat.le_of_ble_eq_true rfl) (fun r21 w22 => ?_)
  refine I_ifB_ne (pc := 159) hx 164 dX5_isRoofRead_159 rfl ?_ ?_
  · refine E_aload_n (pc := 164) hx 1 dX5_isRoofRead_164 rfl rfl ?_
    refine E_getR (pc := 165) hx 1 fc5 h0 rfl ⟨rfl, rfl, rfl⟩ g322 dX5_isRoofRead_165 ?_
    refine E_iload_n (pc := 168) hx 2 dX5_isRoofRead_168 rfl rfl ?_
    refine E_iload_n (pc := 169) hx 3 dX5_isRoofRead_169 rfl rfl ?_
    refine E_iload_n (pc := 170) hx 4 dX5_isRoofRead_170 rfl rfl ?_
    refine E_iload (pc := 171) hx 5 dX5_isRoofRead_171 rfl ?_
    refine E_iload (pc := 173) hx 0 dX5_isRoofRead_173 rfl ?_
    refine I_cVV  (pc := 175) hx [.int (oI v1), .int (oI v2), .int (oI v3), .int (oI v4), .int (oI z0)] [] (ev_X2_addRoof F (shR a0 1) (kt_5_1 h0) v1 v2 v3 v4 z0 w22) vm_X2_addRoof fc2 (kt_5_1 h0) g492 dX5_isRoofRead_175 rfl rfl (Nat.le_of_ble_eq_true rfl) (Nat.le_of_ble_eq_true rfl) (Nat.le_of_ble_eq_true rfl) (fun w23 => ?_)
    refine I_iconst (pc := 178) hx 1 dX5_isRoofRead_178 ?_
    exact E_zret (pc := 179) hx dX5_isRoofRead_179 rfl rfl rfl (Nat.le_of_ble_eq_true rfl)
  refine I_iconst (pc := 162) hx 0 dX5_isRoofRead_162 ?_
  exact E_zret (pc := 163) hx dX5_isRoofRead_163 rfl rfl rfl (Nat.le_of_ble_eq_true rfl)
set_option maxHeartbeats 4000000 in
set_option maxRecDepth 100000 in
theorem l_X5_isRoofRead_b121 {x : Cx} (F : Nat) (a0 : Nat) (h0 : shK a0 = 10 + 5)  (hx : CxOK x RX5 cX5_isRoofRead 6 3 0 (some .boolean))   (v1 : Int) (v2 : Int) (v3 : Int) (z0 : Int) (w : aI) : En x jvBW 0 0 121 [(0, .ref a0), (1, .int (oI v1)), (2, .int (oI v2)), (3, .int (oI v3))] [.int (oI z0)] (cm w) (f_X5_isRoofRead_b121 F a0    v1 v2 v3 z0 w) := by
  unfold f_X5_isRoofRead_b121
  refine E_istore (pc := 121) hx dX5_isRoofRead_121 (Nat.le_of_ble_eq_true rfl) rfl ?_
  refine E_iload (pc := 123) hx 0 dX5_isRoofRead_123 rfl ?_
  refine I_iconst (pc := 125) hx (-1) dX5_isRoofRead_125 ?_
  refine E_gd (fun hr17 => ?_)
  refine I_icmp_ne (pc := 126) hx 133 dX5_isRoofRead_126 rfl ⟨hr17, (by decide)⟩ ?_ ?_
  · refine E_aload_n (pc := 133) hx 1 dX5_isRoofRead_133 rfl rfl ?_
    refine E_getR (pc := 134) hx 0 fc5 h0 rfl ⟨rfl, rfl, rfl⟩ g321 dX5_isRoofRead_134 ?_
    refine I_iconst (pc := 137) hx 0 dX5_isRoofRead_137 ?_
    refine I_sipush (pc := 138) hx 999 dX5_isRoofRead_138 rfl ?_
    refine I_cVIW  (pc := 141) hx [.int (oI 0), .int (oI 999)] [] (ev_X9_takeNumber F (shR a0 0) (kt_5_0 h0) 0 999 w) vm_X9_takeNumber fc7 (kt_5_0 h0) g480 dX5_isRoofRead_141 rfl rfl (Nat.le_of_ble_eq_true rfl) (Nat.le_of_ble_eq_true rfl) (Nat.le_of_ble_eq_true rfl) (fun r18 w19 => ?_)
    refine En.sub [1, 2, 3, 4, 0] rfl ?_
    exact l_X5_isRoofRead_b144 F a0 h0 hx v1 v2 v3 z0 r18 w19
  refine I_iconst (pc := 129) hx (-1) dX5_isRoofRead_129 ?_
  refine E_goto (pc := 130) hx 144 dX5_isRoofRead_130 rfl ?_
  refine En.sub [1, 2, 3, 4, 0] rfl ?_
  exact l_X5_isRoofRead_b144 F a0 h0 hx v1 v2 v3 z0 (-1) w
set_option maxHeartbeats 4000000 in
set_option maxRecDepth 100000 in
theorem l_X5_isRoofRead_b101 {x : Cx} (F : Nat) (a0 : Nat) (h0 : shK a0 = 10 + 5)  (hx : CxOK x RX5 cX5_isRoofRead 6 3 0 (some .boolean))   (v1 : Int) (v2 : Int) (z0 : Int) (w : aI) : En x jvBW 0 0 101 [(0, .ref a0), (1, .int (oI v1)), (2, .int (oI v2))] [.int (oI z0)] (cm w) (f_X5_isRoofRead_b101 F a0    v1 v2 z0 w) := by
  unfold f_X5_isRoofRead_b101
  refine E_istore_n (pc := 101) hx dX5_isRoofRead_101 rfl (Nat.le_of_ble_eq_true rfl) rfl ?_
  refine E_iload_n (pc := 102) hx 0 dX5_isRoofRead_102 rfl rfl ?_
  refine I_iconst (pc := 103) hx (-1) dX5_isRoofRead_103 ?_
  refine E_gd (fun hr14 => ?_)
  refine I_icmp_ne (pc := 104) hx 111 dX5_isRoofRead_104 rfl ⟨hr14, (by decide)⟩ ?_ ?_
  · refine E_aload_n (pc := 111) hx 1 dX5_isRoofRead_111 rfl rfl ?_
    refine E_getR (pc := 112) hx 0 fc5 h0 rfl ⟨rfl, rfl, rfl⟩ g321 dX5_isRoofRead_112 ?_
    refine I_iconst (pc := 115) hx 0 dX5_isRoofRead_115 ?_
    refine I_bipush (pc := 116) hx 9 dX5_isRoofRead_116 rfl ?_
    refine I_cVIW  (pc := 118) hx [.int (oI 0), .int (oI 9)] [] (ev_X9_takeNumber F (shR a0 0) (kt_5_0 h0) 0 9 w) vm_X9_takeNumber fc7 (kt_5_0 h0) g480 dX5_isRoofRead_118 rfl rfl (Nat.le_of_ble_eq_true rfl) (Nat.le_of_ble_eq_true rfl) (Nat.le_of_ble_eq_true rfl) (fun r15 w16 => ?_)
    refine En.sub [1, 2, 3, 0] rfl ?_
    exact l_X5_isRoofRead_b121 F a0 h0 hx v1 v2 z0 r15 w16
  refine I_iconst (pc := 107) hx (-1) dX5_isRoofRead_107 ?_
  refine E_goto (pc := 108) hx 121 dX5_isRoofRead_108 rfl ?_
  refine En.sub [1, 2, 3, 0] rfl ?_
  exact l_X5_isRoofRead_b121 F a0 h0 hx v1 v2 z0 (-1) w
set_option maxHeartbeats 4000000 in
set_option maxRecDepth 100000 in
theorem ev_X5_isRoofRead (F : Nat) (a0 : Nat) (h0 : shK a0 = 10 + 5) (w : aI) : Ev yX5_isRoofRead cX5_isRoofRead 6 (some .boolean) 3 0 jvBW [.ref a0] (cm w) (f_X5_isRoofRead F a0 w) := by
  refine Ev.of (own := RX5) (by decide +kernel) rfl (Nat.le_of_ble_eq_true rfl) (fun x hx => ?_)
  show En x jvBW 0 0 0 [(0, .ref a0)] [] (cm w) _
  unfold f_X5_isRoofRead
  refine E_aload_n (pc := 0) hx 0 dX5_isRoofRead_0 rfl rfl ?_
  refine E_getR (pc := 1) hx 1 fc5 h0 rfl ⟨rfl, rfl, rfl⟩ g322 dX5_isRoofRead_1 ?_
  refine I_getI (pc := 4) hx 1 1 rfl fc2 (kt_5_1 h0) rfl ⟨rfl, rfl, rfl⟩ g207 dX5_isRoofRead_4 ?_
  refine I_bipush (pc := 7) hx 10 dX5_isRoofRead_7 rfl ?_
  refine E_gd (fun hr1 => ?_)
  refine I_icmp_lt (pc := 9) hx 21 dX5_isRoofRead_9 rfl ⟨hr1, (by decide)⟩ ?_ ?_
  · refine E_aload_n (pc := 21) hx 0 dX5_isRoofRead_21 rfl rfl ?_
    refine E_getR (pc := 22) hx 0 fc5 h0 rfl ⟨rfl, rfl, rfl⟩ g321 dX5_isRoofRead_22 ?_
    refine I_cVV  (pc := 25) hx [] [] (ev_X9_step F (shR a0 0) (kt_5_0 h0) w) vm_X9_step fc7 (kt_5_0 h0) g466 dX5_isRoofRead_25 rfl rfl (Nat.le_of_ble_eq_true rfl) (Nat.le_of_ble_eq_true rfl) (Nat.le_of_ble_eq_true rfl) (fun w2 => ?_)
    refine E_aload_n (pc := 28) hx 0 dX5_isRoofRead_28 rfl rfl ?_
    refine E_getR (pc := 29) hx 0 fc5 h0 rfl ⟨rfl, rfl, rfl⟩ g321 dX5_isRoofRead_29 ?_
    refine I_cVIW  (pc := 32) hx [] [] (ev_X9_nameHere F (shR a0 0) (kt_5_0 h0) w2) vm_X9_nameHere fc7 (kt_5_0 h0) g467 dX5_isRoofRead_32 rfl rfl (Nat.le_of_ble_eq_true rfl) (Nat.le_of_ble_eq_true rfl) (Nat.le_of_ble_eq_true rfl) (fun r3 w4 => ?_)
    refine E_istore_n (pc := 35) hx dX5_isRoofRead_35 rfl (Nat.le_of_ble_eq_true rfl) rfl ?_
    refine E_iload_n (pc := 36) hx 0 dX5_isRoofRead_36 rfl rfl ?_
    refine I_iconst (pc := 37) hx (-1) dX5_isRoofRead_37 ?_
    refine E_gd (fun hr5 => ?_)
    refine I_icmp_ne (pc := 38) hx 43 dX5_isRoofRead_38 rfl ⟨hr5, (by decide)⟩ ?_ ?_
    · refine E_aload_n (pc := 43) hx 1 dX5_isRoofRead_43 rfl rfl ?_
      refine E_getR (pc := 44) hx 1 fc5 h0 rfl ⟨rfl, rfl, rfl⟩ g322 dX5_isRoofRead_44 ?_
      refine E_iload_n (pc := 47) hx 0 dX5_isRoofRead_47 rfl rfl ?_
      refine I_cVI  (pc := 48) hx [.int (oI r3)] [] (ev_X2_roofNamed F (shR a0 1) (kt_5_1 h0) r3 w4) vm_X2_roofNamed fc2 (kt_5_1 h0) g472 dX5_isRoofRead_48 rfl rfl (Nat.le_of_ble_eq_true rfl) (Nat.le_of_ble_eq_true rfl) (Nat.le_of_ble_eq_true rfl) (fun r6 => ?_)
      refine I_iconst (pc := 51) hx (-1) dX5_isRoofRead_51 ?_
      refine E_gd (fun hr7 => ?_)
      refine I_icmp_eq (pc := 52) hx 64 dX5_isRoofRead_52 rfl ⟨hr7, (by decide)⟩ ?_ ?_
      · refine E_aload_n (pc := 64) hx 1 dX5_isRoofRead_64 rfl rfl ?_
        refine E_getR (pc := 65) hx 0 fc5 h0 rfl ⟨rfl, rfl, rfl⟩ g321 dX5_isRoofRead_65 ?_
        refine I_cVV  (pc := 68) hx [] [] (ev_X9_step F (shR a0 0) (kt_5_0 h0) w4) vm_X9_step fc7 (kt_5_0 h0) g466 dX5_isRoofRead_68 rfl rfl (Nat.le_of_ble_eq_true rfl) (Nat.le_of_ble_eq_true rfl) (Nat.le_of_ble_eq_true rfl) (fun w8 => ?_)
        refine E_aload_n (pc := 71) hx 1 dX5_isRoofRead_71 rfl rfl ?_
        refine E_getR (pc := 72) hx 0 fc5 h0 rfl ⟨rfl, rfl, rfl⟩ g321 dX5_isRoofRead_72 ?_
        refine I_iconst (pc := 75) hx 1 dX5_isRoofRead_75 ?_
        refine I_bipush (pc := 76) hx 8 dX5_isRoofRead_76 rfl ?_
        refine I_cVIW  (pc := 78) hx [.int (oI 1), .int (oI 8)] [] (ev_X9_takeNumber F (shR a0 0) (kt_5_0 h0) 1 8 w8) vm_X9_takeNumber fc7 (kt_5_0 h0) g480 dX5_isRoofRead_78 rfl rfl (Nat.le_of_ble_eq_true rfl) (Nat.le_of_ble_eq_true rfl) (Nat.le_of_ble_eq_true rfl) (fun r9 w10 => ?_)
        refine E_istore_n (pc := 81) hx dX5_isRoofRead_81 rfl (Nat.le_of_ble_eq_true rfl) rfl ?_
        refine E_iload_n (pc := 82) hx 0 dX5_isRoofRead_82 rfl rfl ?_
        refine I_iconst (pc := 83) hx (-1) dX5_isRoofRead_83 ?_
        refine E_gd (fun hr11 => ?_)
        refine I_icmp_ne (pc := 84) hx 91 dX5_isRoofRead_84 rfl ⟨hr11, (by decide)⟩ ?_ ?_
        · refine E_aload_n (pc := 91) hx 2 dX5_isRoofRead_91 rfl rfl ?_
          refine E_getR (pc := 92) hx 0 fc5 h0 rfl ⟨rfl, rfl, rfl⟩ g321 dX5_isRoofRead_92 ?_
          refine I_iconst (pc := 95) hx 0 dX5_isRoofRead_95 ?_
          refine I_bipush (pc := 96) hx 9 dX5_isRoofRead_96 rfl ?_
          refine I_cVIW  (pc := 98) hx [.int (oI 0), .int (oI 9)] [] (ev_X9_takeNumber F (shR a0 0) (kt_5_0 h0) 0 9 w10) vm_X9_takeNumber fc7 (kt_5_0 h0) g480 dX5_isRoofRead_98 rfl rfl (Nat.le_of_ble_eq_true rfl) (Nat.le_of_ble_eq_true rfl) (Nat.le_of_ble_eq_true rfl) (fun r12 w13 => ?_)
          refine En.sub [2, 1, 0] rfl ?_
          exact l_X5_isRoofRead_b101 F a0 h0 hx r3 r9 r12 w13
        refine I_iconst (pc := 87) hx (-1) dX5_isRoofRead_87 ?_
        refine E_goto (pc := 88) hx 101 dX5_isRoofRead_88 rfl ?_
        refine En.sub [2, 1, 0] rfl ?_
        exact l_X5_isRoofRead_b101 F a0 h0 hx r3 r9 (-1) w10
      refine E_aload_n (pc := 55) hx 1 dX5_isRoofRead_55 rfl rfl ?_
      refine E_getR (pc := 56) hx 0 fc5 h0 rfl ⟨rfl, rfl, rfl⟩ g321 dX5_isRoofRead_56 ?_
      refine I_iconst (pc := 59) hx 3 dX5_isRoofRead_59 ?_
      refine I_cVBW  (pc := 60) hx [.int (oI 3)] [] (ev_X9_fail F (shR a0 0) (kt_5_0 h0) 3 w4) vm_X9_fail fc7 (kt_5_0 h0) g462 dX5_isRoofRead_60 rfl rfl (Nat.le_of_ble_eq_true rfl) (Nat.le_of_ble_eq_true rfl) (Nat.le_of_ble_eq_true rfl) (fun r24 w25 => ?_)
      exact E_zret (pc := 63) hx dX5_isRoofRead_63 rfl (bI_nar _) rfl (Nat.le_of_ble_eq_true rfl)
    refine I_iconst (pc := 41) hx 0 dX5_isRoofRead_41 ?_
    exact E_zret (pc := 42) hx dX5_isRoofRead_42 rfl rfl rfl (Nat.le_of_ble_eq_true rfl)
  refine E_aload_n (pc := 12) hx 0 dX5_isRoofRead_12 rfl rfl ?_
  refine E_getR (pc := 13) hx 0 fc5 h0 rfl ⟨rfl, rfl, rfl⟩ g321 dX5_isRoofRead_13 ?_
  refine I_iconst (pc := 16) hx 5 dX5_isRoofRead_16 ?_
  refine I_cVBW  (pc := 17) hx [.int (oI 5)] [] (ev_X9_fail F (shR a0 0) (kt_5_0 h0) 5 w) vm_X9_fail fc7 (kt_5_0 h0) g462 dX5_isRoofRead_17 rfl rfl (Nat.le_of_ble_eq_true rfl) (Nat.le_of_ble_eq_true rfl) (Nat.le_of_ble_eq_true rfl) (fun r26 w27 => ?_)
  exact E_zret (pc := 20) hx dX5_isRoofRead_20 rfl (bI_nar _) rfl (Nat.le_of_ble_eq_true rfl)
set_option maxHeartbeats 4000000 in
set_option maxRecDepth 100000 in
theorem ev_X5_isWayRead (F : Nat) (a0 : Nat) (h0 : shK a0 = 10 + 5) (w : aI) : Ev yX5_isWayRead cX5_isWayRead 4 (some .boolean) 3 0 jvBW [.ref a0] (cm w) (f_X5_isWayRead F a0 w) := by
  refine Ev.of (own := RX5) (by decide +kernel) rfl (Nat.le_of_ble_eq_true rfl) (fun x hx => ?_)
  show En x jvBW 0 0 0 [(0, .ref a0)] [] (cm w) _
  unfold f_X5_isWayRead
  refine E_aload_n (pc := 0) hx 0 dX5_isWayRead_0 rfl rfl ?_
  refine E_getR (pc := 1) hx 1 fc5 h0 rfl ⟨rfl, rfl, rfl⟩ g322 dX5_isWayRead_1 ?_
  refine I_getI (pc := 4) hx 2 2 rfl fc2 (kt_5_1 h0) rfl ⟨rfl, rfl, rfl⟩ g214 dX5_isWayRead_4 ?_
  refine I_bipush (pc := 7) hx 20 dX5_isWayRead_7 rfl ?_
  refine E_gd (fun hr1 => ?_)
  refine I_icmp_lt (pc := 9) hx 21 dX5_isWayRead_9 rfl ⟨hr1, (by decide)⟩ ?_ ?_
  · refine E_aload_n (pc := 21) hx 0 dX5_isWayRead_21 rfl rfl ?_
    refine E_getR (pc := 22) hx 0 fc5 h0 rfl ⟨rfl, rfl, rfl⟩ g321 dX5_isWayRead_22 ?_
    refine I_cVV  (pc := 25) hx [] [] (ev_X9_step F (shR a0 0) (kt_5_0 h0) w) vm_X9_step fc7 (kt_5_0 h0) g466 dX5_isWayRead_25 rfl rfl (Nat.le_of_ble_eq_true rfl) (Nat.le_of_ble_eq_true rfl) (Nat.le_of_ble_eq_true rfl) (fun w2 => ?_)
    refine E_aload_n (pc := 28) hx 0 dX5_isWayRead_28 rfl rfl ?_
    refine E_getR (pc := 29) hx 0 fc5 h0 rfl ⟨rfl, rfl, rfl⟩ g321 dX5_isWayRead_29 ?_
    refine E_aload_n (pc := 32) hx 0 dX5_isWayRead_32 rfl rfl ?_
    refine E_getR (pc := 33) hx 1 fc5 h0 rfl ⟨rfl, rfl, rfl⟩ g322 dX5_isWayRead_33 ?_
    refine I_iconst (pc := 36) hx (-1) dX5_isWayRead_36 ?_
    refine I_cVIW  (pc := 37) hx [.ref (shR a0 1), .int (oI (-1))] [] (ev_X9_roofHere F (shR a0 0) (kt_5_0 h0) (shR a0 1) (kt_5_1 h0) (-1) w2) vm_X9_roofHere fc7 (kt_5_0 h0) g501 dX5_isWayRead_37 rfl rfl (Nat.le_of_ble_eq_true rfl) (Nat.le_of_ble_eq_true rfl) (Nat.le_of_ble_eq_true rfl) (fun r3 w4 => ?_)
    refine E_istore_n (pc := 40) hx dX5_isWayRead_40 rfl (Nat.le_of_ble_eq_true rfl) rfl ?_
    refine E_iload_n (pc := 41) hx 0 dX5_isWayRead_41 rfl rfl ?_
    refine I_iconst (pc := 42) hx (-1) dX5_isWayRead_42 ?_
    refine E_gd (fun hr5 => ?_)
    refine I_icmp_ne (pc := 43) hx 48 dX5_isWayRead_43 rfl ⟨hr5, (by decide)⟩ ?_ ?_
    · refine E_aload_n (pc := 48) hx 1 dX5_isWayRead_48 rfl rfl ?_
      refine E_getR (pc := 49) hx 0 fc5 h0 rfl ⟨rfl, rfl, rfl⟩ g321 dX5_isWayRead_49 ?_
      refine I_cVV  (pc := 52) hx [] [] (ev_X9_step F (shR a0 0) (kt_5_0 h0) w4) vm_X9_step fc7 (kt_5_0 h0) g466 dX5_isWayRead_52 rfl rfl (Nat.le_of_ble_eq_true rfl) (Nat.le_of_ble_eq_true rfl) (Nat.le_of_ble_eq_true rfl) (fun w6 => ?_)
      refine E_aload_n (pc := 55) hx 1 dX5_isWayRead_55 rfl rfl ?_
      refine E_getR (pc := 56) hx 0 fc5 h0 rfl ⟨rfl, rfl, rfl⟩ g321 dX5_isWayRead_56 ?_
      refine E_aload_n (pc := 59) hx 1 dX5_isWayRead_59 rfl rfl ?_
      refine E_getR (pc := 60) hx 1 fc5 h0 rfl ⟨rfl, rfl, rfl⟩ g322 dX5_isWayRead_60 ?_
      refine E_iload_n (pc := 63) hx 0 dX5_isWayRead_63 rfl rfl ?_
      refine I_cVIW  (pc := 64) hx [.ref (shR a0 1), .int (oI r3)] [] (ev_X9_roofHere F (shR a0 0) (kt_5_0 h0) (shR a0 1) (kt_5_1 h0) r3 w6) vm_X9_roofHere fc7 (kt_5_0 h0) g501 dX5_isWayRead_64 rfl rfl (Nat.le_of_ble_eq_true rfl) (Nat.le_of_ble_eq_true rfl) (Nat.le_of_ble_eq_true rfl) (fun r7 w8 => ?_)
      refine E_istore_n (pc := 67) hx dX5_isWayRead_67 rfl (Nat.le_of_ble_eq_true rfl) rfl ?_
      refine E_iload_n (pc := 68) hx 0 dX5_isWayRead_68 rfl rfl ?_
      refine I_iconst (pc := 69) hx (-1) dX5_isWayRead_69 ?_
      refine E_gd (fun hr9 => ?_)
      refine I_icmp_ne (pc := 70) hx 75 dX5_isWayRead_70 rfl ⟨hr9, (by decide)⟩ ?_ ?_
      · refine E_aload_n (pc := 75) hx 2 dX5_isWayRead_75 rfl rfl ?_
        refine E_getR (pc := 76) hx 1 fc5 h0 rfl ⟨rfl, rfl, rfl⟩ g322 dX5_isWayRead_76 ?_
        refine E_iload_n (pc := 79) hx 1 dX5_isWayRead_79 rfl rfl ?_
        refine E_iload_n (pc := 80) hx 0 dX5_isWayRead_80 rfl rfl ?_
        refine I_cVI  (pc := 81) hx [.int (oI r3), .int (oI r7)] [] (ev_X2_wayBetween F (shR a0 1) (kt_5_1 h0) r3 r7 w8) vm_X2_wayBetween fc2 (kt_5_1 h0) g507 dX5_isWayRead_81 rfl rfl (Nat.le_of_ble_eq_true rfl) (Nat.le_of_ble_eq_true rfl) (Nat.le_of_ble_eq_true rfl) (fun r10 => ?_)
        refine I_iconst (pc := 84) hx (-1) dX5_isWayRead_84 ?_
        refine E_gd (fun hr11 => ?_)
        refine I_icmp_eq (pc := 85) hx 97 dX5_isWayRead_85 rfl ⟨hr11, (by decide)⟩ ?_ ?_
        · refine E_aload_n (pc := 97) hx 2 dX5_isWayRead_97 rfl rfl ?_
          refine E_getR (pc := 98) hx 0 fc5 h0 rfl ⟨rfl, rfl, rfl⟩ g321 dX5_isWayRead_98 ?_
          refine I_cVV  (pc := 101) hx [] [] (ev_X9_step F (shR a0 0) (kt_5_0 h0) w8) vm_X9_step fc7 (kt_5_0 h0) g466 dX5_isWayRead_101 rfl rfl (Nat.le_of_ble_eq_true rfl) (Nat.le_of_ble_eq_true rfl) (Nat.le_of_ble_eq_true rfl) (fun w12 => ?_)
          refine E_aload_n (pc := 104) hx 2 dX5_isWayRead_104 rfl rfl ?_
          refine E_getR (pc := 105) hx 0 fc5 h0 rfl ⟨rfl, rfl, rfl⟩ g321 dX5_isWayRead_105 ?_
          refine I_iconst (pc := 108) hx 1 dX5_isWayRead_108 ?_
          refine I_bipush (pc := 109) hx 9 dX5_isWayRead_109 rfl ?_
          refine I_cVIW  (pc := 111) hx [.int (oI 1), .int (oI 9)] [] (ev_X9_takeNumber F (shR a0 0) (kt_5_0 h0) 1 9 w12) vm_X9_takeNumber fc7 (kt_5_0 h0) g480 dX5_isWayRead_111 rfl rfl (Nat.le_of_ble_eq_true rfl) (Nat.le_of_ble_eq_true rfl) (Nat.le_of_ble_eq_true rfl) (fun r13 w14 => ?_)
          refine E_istore_n (pc := 114) hx dX5_isWayRead_114 rfl (Nat.le_of_ble_eq_true rfl) rfl ?_
          refine E_iload_n (pc := 115) hx 0 dX5_isWayRead_115 rfl rfl ?_
          refine I_iconst (pc := 116) hx (-1) dX5_isWayRead_116 ?_
          refine E_gd (fun hr15 => ?_)
          refine I_icmp_eq (pc := 117) hx 130 dX5_isWayRead_117 rfl ⟨hr15, (by decide)⟩ ?_ ?_
          · refine I_iconst (pc := 130) hx 0 dX5_isWayRead_130 ?_
            exact E_zret (pc := 131) hx dX5_isWayRead_131 rfl rfl rfl (Nat.le_of_ble_eq_true rfl)
          refine E_aload_n (pc := 120) hx 3 dX5_isWayRead_120 rfl rfl ?_
          refine E_getR (pc := 121) hx 0 fc5 h0 rfl ⟨rfl, rfl, rfl⟩ g321 dX5_isWayRead_121 ?_
          refine I_cVBW  (pc := 124) hx [] [] (ev_X9_isSemicolonTaken F (shR a0 0) (kt_5_0 h0) w14) vm_X9_isSemicolonTaken fc7 (kt_5_0 h0) g488 dX5_isWayRead_124 rfl rfl (Nat.le_of_ble_eq_true rfl) (Nat.le_of_ble_eq_true rfl) (Nat.le_of_ble_eq_true rfl) (fun r16 w17 => ?_)
          refine I_ifB_ne (pc := 127) hx 132 dX5_isWayRead_127 rfl ?_ ?_
          · refine E_aload_n (pc := 132) hx 3 dX5_isWayRead_132 rfl rfl ?_
            refine E_getR (pc := 133) hx 1 fc5 h0 rfl ⟨rfl, rfl, rfl⟩ g322 dX5_isWayRead_133 ?_
            refine E_iload_n (pc := 136) hx 2 dX5_isWayRead_136 rfl rfl ?_
            refine E_iload_n (pc := 137) hx 1 dX5_isWayRead_137 rfl rfl ?_
            refine E_iload_n (pc := 138) hx 0 dX5_isWayRead_138 rfl rfl ?_
            refine I_cVV  (pc := 139) hx [.int (oI r3), .int (oI r7), .int (oI r13)] [] (ev_X2_addWay F (shR a0 1) (kt_5_1 h0) r3 r7 r13 w17) vm_X2_addWay fc2 (kt_5_1 h0) g515 dX5_isWayRead_139 rfl rfl (Nat.le_of_ble_eq_true rfl) (Nat.le_of_ble_eq_true rfl) (Nat.le_of_ble_eq_true rfl) (fun w18 => ?_)
            refine I_iconst (pc := 142) hx 1 dX5_isWayRead_142 ?_
            exact E_zret (pc := 143) hx dX5_isWayRead_143 rfl rfl rfl (Nat.le_of_ble_eq_true rfl)
          refine I_iconst (pc := 130) hx 0 dX5_isWayRead_130 ?_
          exact E_zret (pc := 131) hx dX5_isWayRead_131 rfl rfl rfl (Nat.le_of_ble_eq_true rfl)
        refine E_aload_n (pc := 88) hx 2 dX5_isWayRead_88 rfl rfl ?_
        refine E_getR (pc := 89) hx 0 fc5 h0 rfl ⟨rfl, rfl, rfl⟩ g321 dX5_isWayRead_89 ?_
        refine I_iconst (pc := 92) hx 4 dX5_isWayRead_92 ?_
        refine I_cVBW  (pc := 93) hx [.int (oI 4)] [] (ev_X9_fail F (shR a0 0) (kt_5_0 h0) 4 w8) vm_X9_fail fc7 (kt_5_0 h0) g462 dX5_isWayRead_93 rfl rfl (Nat.le_of_ble_eq_true rfl) (Nat.le_of_ble_eq_true rfl) (Nat.le_of_ble_eq_true rfl) (fun r19 w20 => ?_)
        exact E_zret (pc := 96) hx dX5_isWayRead_96 rfl (bI_nar _) rfl (Nat.le_of_ble_eq_true rfl)
      refine I_iconst (pc := 73) hx 0 dX5_isWayRead_73 ?_
      exact E_zret (pc := 74) hx dX5_isWayRead_74 rfl rfl rfl (Nat.le_of_ble_eq_true rfl)
    refine I_iconst (pc := 46) hx 0 dX5_isWayRead_46 ?_
    exact E_zret (pc := 47) hx dX5_isWayRead_47 rfl rfl rfl (Nat.le_of_ble_eq_true rfl)
  refine E_aload_n (pc := 12) hx 0 dX5_isWayRead_12 rfl rfl ?_
  refine E_getR (pc := 13) hx 0 fc5 h0 rfl ⟨rfl, rfl, rfl⟩ g321 dX5_isWayRead_13 ?_
  refine I_iconst (pc := 16) hx 5 dX5_isWayRead_16 ?_
  refine I_cVBW  (pc := 17) hx [.int (oI 5)] [] (ev_X9_fail F (shR a0 0) (kt_5_0 h0) 5 w) vm_X9_fail fc7 (kt_5_0 h0) g462 dX5_isWayRead_17 rfl rfl (Nat.le_of_ble_eq_true rfl) (Nat.le_of_ble_eq_true rfl) (Nat.le_of_ble_eq_true rfl) (fun r21 w22 => ?_)
  exact E_zret (pc := 20) hx dX5_isWayRead_20 rfl (bI_nar _) rfl (Nat.le_of_ble_eq_true rfl)
set_option maxHeartbeats 4000000 in
set_option maxRecDepth 100000 in
theorem ev_X5_isSettingRead (F : Nat) (a0 : Nat) (h0 : shK a0 = 10 + 5) (p1 : Int) (w : aI) : Ev yX5_isSettingRead cX5_isSettingRead 3 (some .boolean) 3 0 jvBW [.ref a0, .int (oI p1)] (cm w) (f_X5_isSettingRead F a0 p1 w) := by
  refine Ev.of (own := RX5) (by decide +kernel) rfl (Nat.le_of_ble_eq_true rfl) (fun x hx => ?_)
  show En x jvBW 0 0 0 [(0, .ref a0), (1, .int (oI p1))] [] (cm w) _
  unfold f_X5_isSettingRead
  refine E_aload_n (pc := 0) hx 0 dX5_isSettingRead_0 rfl rfl ?_
  refine E_getR (pc := 1) hx 0 fc5 h0 rfl ⟨rfl, rfl, rfl⟩ g321 dX5_isSettingRead_1 ?_
  refine I_cVV  (pc := 4) hx [] [] (ev_X9_step F (shR a0 0) (kt_5_0 h0) w) vm_X9_step fc7 (kt_5_0 h0) g466 dX5_isSettingRead_4 rfl rfl (Nat.le_of_ble_eq_true rfl) (Nat.le_of_ble_eq_true rfl) (Nat.le_of_ble_eq_true rfl) (fun w1 => ?_)
  refine E_aload_n (pc := 7) hx 0 dX5_isSettingRead_7 rfl rfl ?_
  refine E_getR (pc := 8) hx 0 fc5 h0 rfl ⟨rfl, rfl, rfl⟩ g321 dX5_isSettingRead_8 ?_
  refine E_iload_n (pc := 11) hx 1 dX5_isSettingRead_11 rfl rfl ?_
  refine I_cSI  (pc := 12) hx [.int (oI p1)] [.ref (shR a0 0)] (ev_X2_leastOf F p1 w1) sm_X2_leastOf g531 dX5_isSettingRead_12 rfl rfl (Nat.le_of_ble_eq_true rfl) (Nat.le_of_ble_eq_true rfl) (Nat.le_of_ble_eq_true rfl) (fun r2 => ?_)
  refine E_iload_n (pc := 15) hx 1 dX5_isSettingRead_15 rfl rfl ?_
  refine I_cSI  (pc := 16) hx [.int (oI p1)] [.int (oI r2), .ref (shR a0 0)] (ev_X2_mostOf F p1 w1) sm_X2_mostOf g534 dX5_isSettingRead_16 rfl rfl (Nat.le_of_ble_eq_true rfl) (Nat.le_of_ble_eq_true rfl) (Nat.le_of_ble_eq_true rfl) (fun r3 => ?_)
  refine I_cVIW  (pc := 19) hx [.int (oI r2), .int (oI r3)] [] (ev_X9_takeNumber F (shR a0 0) (kt_5_0 h0) r2 r3 w1) vm_X9_takeNumber fc7 (kt_5_0 h0) g480 dX5_isSettingRead_19 rfl rfl (Nat.le_of_ble_eq_true rfl) (Nat.le_of_ble_eq_true rfl) (Nat.le_of_ble_eq_true rfl) (fun r4 w5 => ?_)
  refine E_istore_n (pc := 22) hx dX5_isSettingRead_22 rfl (Nat.le_of_ble_eq_true rfl) rfl ?_
  refine E_iload_n (pc := 23) hx 0 dX5_isSettingRead_23 rfl rfl ?_
  refine I_iconst (pc := 24) hx (-1) dX5_isSettingRead_24 ?_
  refine E_gd (fun hr6 => ?_)
  refine I_icmp_eq (pc := 25) hx 38 dX5_isSettingRead_25 rfl ⟨hr6, (by decide)⟩ ?_ ?_
  · refine I_iconst (pc := 38) hx 0 dX5_isSettingRead_38 ?_
    exact E_zret (pc := 39) hx dX5_isSettingRead_39 rfl rfl rfl (Nat.le_of_ble_eq_true rfl)
  refine E_aload_n (pc := 28) hx 1 dX5_isSettingRead_28 rfl rfl ?_
  refine E_getR (pc := 29) hx 0 fc5 h0 rfl ⟨rfl, rfl, rfl⟩ g321 dX5_isSettingRead_29 ?_
  refine I_cVBW  (pc := 32) hx [] [] (ev_X9_isSemicolonTaken F (shR a0 0) (kt_5_0 h0) w5) vm_X9_isSemicolonTaken fc7 (kt_5_0 h0) g488 dX5_isSettingRead_32 rfl rfl (Nat.le_of_ble_eq_true rfl) (Nat.le_of_ble_eq_true rfl) (Nat.le_of_ble_eq_true rfl) (fun r7 w8 => ?_)
  refine I_ifB_ne (pc := 35) hx 40 dX5_isSettingRead_35 rfl ?_ ?_
  · refine E_aload_n (pc := 40) hx 1 dX5_isSettingRead_40 rfl rfl ?_
    refine E_getR (pc := 41) hx 1 fc5 h0 rfl ⟨rfl, rfl, rfl⟩ g322 dX5_isSettingRead_41 ?_
    refine E_iload_n (pc := 44) hx 2 dX5_isSettingRead_44 rfl rfl ?_
    refine E_iload_n (pc := 45) hx 0 dX5_isSettingRead_45 rfl rfl ?_
    refine I_cVV  (pc := 46) hx [.int (oI p1), .int (oI r4)] [] (ev_X2_settle F (shR a0 1) (kt_5_1 h0) p1 r4 w8) vm_X2_settle fc2 (kt_5_1 h0) g537 dX5_isSettingRead_46 rfl rfl (Nat.le_of_ble_eq_true rfl) (Nat.le_of_ble_eq_true rfl) (Nat.le_of_ble_eq_true rfl) (fun w9 => ?_)
    refine I_iconst (pc := 49) hx 1 dX5_isSettingRead_49 ?_
    exact E_zret (pc := 50) hx dX5_isSettingRead_50 rfl rfl rfl (Nat.le_of_ble_eq_true rfl)
  refine I_iconst (pc := 38) hx 0 dX5_isSettingRead_38 ?_
  exact E_zret (pc := 39) hx dX5_isSettingRead_39 rfl rfl rfl (Nat.le_of_ble_eq_true rfl)
set_option maxHeartbeats 4000000 in
set_option maxRecDepth 100000 in
theorem ev_X5_isStatementRead (F : Nat) (a0 : Nat) (h0 : shK a0 = 10 + 5) (w : aI) : Ev yX5_isStatementRead cX5_isStatementRead 2 (some .boolean) 8 0 jvBW [.ref a0] (cm w) (f_X5_isStatementRead F a0 w) := by
  refine Ev.of (own := RX5) (by decide +kernel) rfl (Nat.le_of_ble_eq_true rfl) (fun x hx => ?_)
  show En x jvBW 0 0 0 [(0, .ref a0)] [] (cm w) _
  unfold f_X5_isStatementRead
  refine E_aload_n (pc := 0) hx 0 dX5_isStatementRead_0 rfl rfl ?_
  refine E_getR (pc := 1) hx 0 fc5 h0 rfl ⟨rfl, rfl, rfl⟩ g321 dX5_isStatementRead_1 ?_
  refine E_ldcS (pc := 4) hx (tx := (xStr.getD 18 ("", 0, "", 0)).2.2.1) 18 (by decide +kernel) dX5_isStatementRead_4 ?_
  refine I_cVB  (pc := 6) hx [.ref (sx 18)] [] (ev_X9_isWord F (shR a0 0) (kt_5_0 h0) 18 w) vm_X9_isWord fc7 (kt_5_0 h0) g452 dX5_isStatementRead_6 rfl rfl (Nat.le_of_ble_eq_true rfl) (Nat.le_of_ble_eq_true rfl) (Nat.le_of_ble_eq_true rfl) (fun r1 => ?_)
  refine I_ifB_eq (pc := 9) hx 17 dX5_isStatementRead_9 rfl ?_ ?_
  · refine E_aload_n (pc := 17) hx 0 dX5_isStatementRead_17 rfl rfl ?_
    refine E_getR (pc := 18) hx 0 fc5 h0 rfl ⟨rfl, rfl, rfl⟩ g321 dX5_isStatementRead_18 ?_
    refine E_ldcS (pc := 21) hx (tx := (xStr.getD 19 ("", 0, "", 0)).2.2.1) 19 (by decide +kernel) dX5_isStatementRead_21 ?_
    refine I_cVB  (pc := 23) hx [.ref (sx 19)] [] (ev_X9_isWord F (shR a0 0) (kt_5_0 h0) 19 w) vm_X9_isWord fc7 (kt_5_0 h0) g452 dX5_isStatementRead_23 rfl rfl (Nat.le_of_ble_eq_true rfl) (Nat.le_of_ble_eq_true rfl) (Nat.le_of_ble_eq_true rfl) (fun r2 => ?_)
    refine I_ifB_eq (pc := 26) hx 34 dX5_isStatementRead_26 rfl ?_ ?_
    · refine E_aload_n (pc := 34) hx 0 dX5_isStatementRead_34 rfl rfl ?_
      refine E_getR (pc := 35) hx 0 fc5 h0 rfl ⟨rfl, rfl, rfl⟩ g321 dX5_isStatementRead_35 ?_
      refine I_cVI  (pc := 38) hx [] [] (ev_X9_settingWord F (shR a0 0) (kt_5_0 h0) w) vm_X9_settingWord fc7 (kt_5_0 h0) g519 dX5_isStatementRead_38 rfl rfl (Nat.le_of_ble_eq_true rfl) (Nat.le_of_ble_eq_true rfl) (Nat.le_of_ble_eq_true rfl) (fun r3 => ?_)
      refine E_istore_n (pc := 41) hx dX5_isStatementRead_41 rfl (Nat.le_of_ble_eq_true rfl) rfl ?_
      refine E_iload_n (pc := 42) hx 0 dX5_isStatementRead_42 rfl rfl ?_
      refine I_iconst (pc := 43) hx (-1) dX5_isStatementRead_43 ?_
      refine E_gd (fun hr4 => ?_)
      refine I_icmp_ne (pc := 44) hx 58 dX5_isStatementRead_44 rfl ⟨hr4, (by decide)⟩ ?_ ?_
      · refine E_aload_n (pc := 58) hx 1 dX5_isStatementRead_58 rfl rfl ?_
        refine E_iload_n (pc := 59) hx 0 dX5_isStatementRead_59 rfl rfl ?_
        refine I_cVBW  (pc := 60) hx [.int (oI r3)] [] (ev_X5_isSettingRead F a0 h0 r3 w) vm_X5_isSettingRead fc5 h0 g527 dX5_isStatementRead_60 rfl rfl (Nat.le_of_ble_eq_true rfl) (Nat.le_of_ble_eq_true rfl) (Nat.le_of_ble_eq_true rfl) (fun r5 w6 => ?_)
        exact E_zret (pc := 63) hx dX5_isStatementRead_63 rfl (bI_nar _) rfl (Nat.le_of_ble_eq_true rfl)
      refine E_aload_n (pc := 47) hx 1 dX5_isStatementRead_47 rfl rfl ?_
      refine E_getR (pc := 48) hx 0 fc5 h0 rfl ⟨rfl, rfl, rfl⟩ g321 dX5_isStatementRead_48 ?_
      refine I_iconst (pc := 51) hx 1 dX5_isStatementRead_51 ?_
      refine I_cVBW  (pc := 52) hx [.int (oI 1)] [] (ev_X9_fail F (shR a0 0) (kt_5_0 h0) 1 w) vm_X9_fail fc7 (kt_5_0 h0) g462 dX5_isStatementRead_52 rfl rfl (Nat.le_of_ble_eq_true rfl) (Nat.le_of_ble_eq_true rfl) (Nat.le_of_ble_eq_true rfl) (fun r7 w8 => ?_)
      refine E_goto (pc := 55) hx 63 dX5_isStatementRead_55 rfl ?_
      exact E_zret (pc := 63) hx dX5_isStatementRead_63 rfl (bI_nar _) rfl (Nat.le_of_ble_eq_true rfl)
    refine E_aload_n (pc := 29) hx 0 dX5_isStatementRead_29 rfl rfl ?_
    refine I_cVBW  (pc := 30) hx [] [] (ev_X5_isWayRead F a0 h0 w) vm_X5_isWayRead fc5 h0 g497 dX5_isStatementRead_30 rfl rfl (Nat.le_of_ble_eq_true rfl) (Nat.le_of_ble_eq_true rfl) (Nat.le_of_ble_eq_true rfl) (fun r9 w10 => ?_)
    exact E_zret (pc := 33) hx dX5_isStatementRead_33 rfl (bI_nar _) rfl (Nat.le_of_ble_eq_true rfl)
  refine E_aload_n (pc := 12) hx 0 dX5_isStatementRead_12 rfl rfl ?_
  refine I_cVBW  (pc := 13) hx [] [] (ev_X5_isRoofRead F a0 h0 w) vm_X5_isRoofRead fc5 h0 g458 dX5_isStatementRead_13 rfl rfl (Nat.le_of_ble_eq_true rfl) (Nat.le_of_ble_eq_true rfl) (Nat.le_of_ble_eq_true rfl) (fun r11 w12 => ?_)
  exact E_zret (pc := 16) hx dX5_isStatementRead_16 rfl (bI_nar _) rfl (Nat.le_of_ble_eq_true rfl)
set_option maxHeartbeats 4000000 in
set_option maxRecDepth 100000 in
theorem l_X5_isRead_b48 {x : Cx} (F : Nat) (a0 : Nat) (h0 : shK a0 = 10 + 5)  (hx : CxOK x RX5 cX5_isRead 2 9 0 (some .boolean))    (w : aI) : En x jvBW 0 0 48 [(0, .ref a0)] [] (cm w) (f_X5_isRead_b48 F a0    w) := by
  unfold f_X5_isRead_b48
  refine E_aload_n (pc := 48) hx 0 dX5_isRead_48 rfl rfl ?_
  refine E_getR (pc := 49) hx 1 fc5 h0 rfl ⟨rfl, rfl, rfl⟩ g322 dX5_isRead_49 ?_
  refine I_getI (pc := 52) hx 1 1 rfl fc2 (kt_5_1 h0) rfl ⟨rfl, rfl, rfl⟩ g207 dX5_isRead_52 ?_
  refine I_iconst (pc := 55) hx 2 dX5_isRead_55 ?_
  refine E_gd (fun hr4 => ?_)
  refine I_icmp_ge (pc := 56) hx 69 dX5_isRead_56 rfl ⟨hr4, (by decide)⟩ ?_ ?_
  · refine E_aload_n (pc := 69) hx 0 dX5_isRead_69 rfl rfl ?_
    refine E_getR (pc := 70) hx 1 fc5 h0 rfl ⟨rfl, rfl, rfl⟩ g322 dX5_isRead_70 ?_
    refine E_getR (pc := 73) hx 9 fc2 (kt_5_1 h0) rfl ⟨rfl, rfl, rfl⟩ g238 dX5_isRead_73 ?_
    refine E_aload_n (pc := 76) hx 0 dX5_isRead_76 rfl rfl ?_
    refine E_getR (pc := 77) hx 1 fc5 h0 rfl ⟨rfl, rfl, rfl⟩ g322 dX5_isRead_77 ?_
    refine I_cVV  (pc := 80) hx [.ref (shR a0 1)] [] (ev_X3_lay F (shR (shR a0 1) 9) (kt_2_9 (kt_5_1 h0)) (shR a0 1) (kt_5_1 h0) w) vm_X3_lay fc3 (kt_2_9 (kt_5_1 h0)) g538 dX5_isRead_80 rfl rfl (Nat.le_of_ble_eq_true rfl) (Nat.le_of_ble_eq_true rfl) (Nat.le_of_ble_eq_true rfl) (fun w5 => ?_)
    refine I_iconst (pc := 83) hx 1 dX5_isRead_83 ?_
    exact E_zret (pc := 84) hx dX5_isRead_84 rfl rfl rfl (Nat.le_of_ble_eq_true rfl)
  refine E_aload_n (pc := 59) hx 0 dX5_isRead_59 rfl rfl ?_
  refine E_getR (pc := 60) hx 0 fc5 h0 rfl ⟨rfl, rfl, rfl⟩ g321 dX5_isRead_60 ?_
  refine I_bipush (pc := 63) hx 6 dX5_isRead_63 rfl ?_
  refine I_cVBW  (pc := 65) hx [.int (oI 6)] [] (ev_X9_fail F (shR a0 0) (kt_5_0 h0) 6 w) vm_X9_fail fc7 (kt_5_0 h0) g462 dX5_isRead_65 rfl rfl (Nat.le_of_ble_eq_true rfl) (Nat.le_of_ble_eq_true rfl) (Nat.le_of_ble_eq_true rfl) (fun r6 w7 => ?_)
  exact E_zret (pc := 68) hx dX5_isRead_68 rfl (bI_nar _) rfl (Nat.le_of_ble_eq_true rfl)
set_option maxHeartbeats 4000000 in
set_option maxRecDepth 100000 in
theorem l_X5_isRead_b16_b {x : Cx} (F : Nat) (a0 : Nat) (h0 : shK a0 = 10 + 5)  (hx : CxOK x RX5 cX5_isRead 2 9 0 (some .boolean))  (k16 : Int → aI → Option (Bool × aI)) (hk16 : ∀ (v1 : Int) (w : aI), En x jvBW 0 0 16 [(0, .ref a0), (1, .int (oI v1))] [] (cm w) (k16 v1 w)) (v1 : Int) (w : aI) : En x jvBW 0 0 16 [(0, .ref a0), (1, .int (oI v1))] [] (cm w) (f_X5_isRead_b16_b F a0   k16 v1 w) := by
  unfold f_X5_isRead_b16_b
  refine E_iload_n (pc := 16) hx 1 dX5_isRead_16 rfl rfl ?_
  refine I_sipush (pc := 17) hx 800 dX5_isRead_17 rfl ?_
  refine E_gd (fun hr3 => ?_)
  refine I_icmp_ge (pc := 20) hx 48 dX5_isRead_20 rfl ⟨hr3, (by decide)⟩ ?_ ?_
  · refine En.sub [0] rfl ?_
    exact l_X5_isRead_b48 F a0 h0 hx w
  refine E_aload_n (pc := 23) hx 0 dX5_isRead_23 rfl rfl ?_
  refine E_getR (pc := 24) hx 0 fc5 h0 rfl ⟨rfl, rfl, rfl⟩ g321 dX5_isRead_24 ?_
  refine I_getI (pc := 27) hx 3 3 rfl fc7 (kt_5_0 h0) rfl ⟨rfl, rfl, rfl⟩ g292 dX5_isRead_27 ?_
  refine E_gd (fun hr8 => ?_)
  refine I_if_eq (pc := 30) hx 48 dX5_isRead_30 rfl hr8 ?_ ?_
  · refine En.sub [0] rfl ?_
    exact l_X5_isRead_b48 F a0 h0 hx w
  refine E_aload_n (pc := 33) hx 0 dX5_isRead_33 rfl rfl ?_
  refine I_cVBW  (pc := 34) hx [] [] (ev_X5_isStatementRead F a0 h0 w) vm_X5_isStatementRead fc5 h0 g447 dX5_isRead_34 rfl rfl (Nat.le_of_ble_eq_true rfl) (Nat.le_of_ble_eq_true rfl) (Nat.le_of_ble_eq_true rfl) (fun r9 w10 => ?_)
  refine I_ifB_ne (pc := 37) hx 42 dX5_isRead_37 rfl ?_ ?_
  · refine I_iinc (pc := 42) hx 1 1 dX5_isRead_42 rfl (Nat.le_of_ble_eq_true rfl) rfl ?_
    refine E_goto (pc := 45) hx 16 dX5_isRead_45 rfl ?_
    refine En.sub [1, 0] rfl ?_
    exact hk16 (v1 + 1) w10
  refine I_iconst (pc := 40) hx 0 dX5_isRead_40 ?_
  exact E_zret (pc := 41) hx dX5_isRead_41 rfl rfl rfl (Nat.le_of_ble_eq_true rfl)
theorem l_X5_isRead_b16 {x : Cx} (F : Nat) (a0 : Nat) (h0 : shK a0 = 10 + 5)  (hx : CxOK x RX5 cX5_isRead 2 9 0 (some .boolean))  : ∀ (n : Nat) (v1 : Int) (w : aI), En x jvBW 0 0 16 [(0, .ref a0), (1, .int (oI v1))] [] (cm w) (f_X5_isRead_b16 F a0   n v1 w) := by
  intro n
  induction n with
  | zero => intro v1 w; exact E_none
  | succ n ih => intro v1 w; exact l_X5_isRead_b16_b F a0 h0  hx  _ ih v1 w
set_option maxHeartbeats 4000000 in
set_option maxRecDepth 100000 in
theorem ev_X5_isRead (F : Nat) (a0 : Nat) (h0 : shK a0 = 10 + 5) (w : aI) : Ev yX5_isRead cX5_isRead 2 (some .boolean) 9 0 jvBW [.ref a0] (cm w) (f_X5_isRead F a0 w) := by
  refine Ev.of (own := RX5) (by decide +kernel) rfl (Nat.le_of_ble_eq_true rfl) (fun x hx => ?_)
  show En x jvBW 0 0 0 [(0, .ref a0)] [] (cm w) _
  unfold f_X5_isRead
  refine E_aload_n (pc := 0) hx 0 dX5_isRead_0 rfl rfl ?_
  refine E_getR (pc := 1) hx 1 fc5 h0 rfl ⟨rfl, rfl, rfl⟩ g322 dX5_isRead_1 ?_
  refine I_cVV  (pc := 4) hx [] [] (ev_X2_clear F (shR a0 1) (kt_5_1 h0) w) vm_X2_clear fc2 (kt_5_1 h0) g412 dX5_isRead_4 rfl rfl (Nat.le_of_ble_eq_true rfl) (Nat.le_of_ble_eq_true rfl) (Nat.le_of_ble_eq_true rfl) (fun w1 => ?_)
  refine E_aload_n (pc := 7) hx 0 dX5_isRead_7 rfl rfl ?_
  refine E_getR (pc := 8) hx 0 fc5 h0 rfl ⟨rfl, rfl, rfl⟩ g321 dX5_isRead_8 ?_
  refine I_cVV  (pc := 11) hx [] [] (ev_X9_open F (shR a0 0) (kt_5_0 h0) w1) vm_X9_open fc7 (kt_5_0 h0) g428 dX5_isRead_11 rfl rfl (Nat.le_of_ble_eq_true rfl) (Nat.le_of_ble_eq_true rfl) (Nat.le_of_ble_eq_true rfl) (fun w2 => ?_)
  refine I_iconst (pc := 14) hx 0 dX5_isRead_14 ?_
  refine E_istore_n (pc := 15) hx dX5_isRead_15 rfl (Nat.le_of_ble_eq_true rfl) rfl ?_
  refine En.sub [1, 0] rfl ?_
  exact l_X5_isRead_b16 F a0 h0 hx F 0 w2
set_option maxHeartbeats 4000000 in
set_option maxRecDepth 100000 in
theorem ev_X6_causeOf (F : Nat) (a0 : Nat) (h0 : shK a0 = 10 + 2) (p1 : Int) (w : aI) : Ev yX6_causeOf cX6_causeOf 6 (some .int) 3 0 (jvI w) [.ref a0, .int (oI p1)] (cm w) (f_X6_causeOf F a0 p1 w) := by
  refine Ev.of (own := RX6) (by decide +kernel) rfl (Nat.le_of_ble_eq_true rfl) (fun x hx => ?_)
  show En x (jvI w) 0 0 0 [(0, .ref a0), (1, .int (oI p1))] [] (cm w) _
  unfold f_X6_causeOf
  refine E_aload_n (pc := 0) hx 0 dX6_causeOf_0 rfl rfl ?_
  refine E_getR (pc := 1) hx 6 fc2 h0 rfl ⟨rfl, rfl, rfl⟩ g230 dX6_causeOf_1 ?_
  refine E_iload_n (pc := 4) hx 1 dX6_causeOf_4 rfl rfl ?_
  refine I_iconst (pc := 5) hx 3 dX6_causeOf_5 ?_
  refine I_cVI  (pc := 6) hx [.int (oI p1), .int (oI 3)] [] (ev_X7_get F (shR a0 6) (kt_2_6 h0) p1 3 w) vm_X7_get fc6 (kt_2_6 h0) g851 dX6_causeOf_6 rfl rfl (Nat.le_of_ble_eq_true rfl) (Nat.le_of_ble_eq_true rfl) (Nat.le_of_ble_eq_true rfl) (fun r1 => ?_)
  refine E_istore_n (pc := 9) hx dX6_causeOf_9 rfl (Nat.le_of_ble_eq_true rfl) rfl ?_
  refine E_aload_n (pc := 10) hx 1 dX6_causeOf_10 rfl rfl ?_
  refine E_getR (pc := 11) hx 6 fc2 h0 rfl ⟨rfl, rfl, rfl⟩ g230 dX6_causeOf_11 ?_
  refine E_iload_n (pc := 14) hx 2 dX6_causeOf_14 rfl rfl ?_
  refine I_iconst (pc := 15) hx 4 dX6_causeOf_15 ?_
  refine I_cVI  (pc := 16) hx [.int (oI p1), .int (oI 4)] [] (ev_X7_get F (shR a0 6) (kt_2_6 h0) p1 4 w) vm_X7_get fc6 (kt_2_6 h0) g851 dX6_causeOf_16 rfl rfl (Nat.le_of_ble_eq_true rfl) (Nat.le_of_ble_eq_true rfl) (Nat.le_of_ble_eq_true rfl) (fun r2 => ?_)
  refine E_istore_n (pc := 19) hx dX6_causeOf_19 rfl (Nat.le_of_ble_eq_true rfl) rfl ?_
  refine E_aload_n (pc := 20) hx 2 dX6_causeOf_20 rfl rfl ?_
  refine I_getI (pc := 21) hx 0 0 rfl fc2 h0 rfl ⟨rfl, rfl, rfl⟩ g204 dX6_causeOf_21 ?_
  refine I_iconst (pc := 24) hx 1 dX6_causeOf_24 ?_
  refine I_iadd (pc := 25) hx dX6_causeOf_25 ?_
  refine I_ltv (fun v4_3 => ?_)
  refine E_istore (pc := 26) hx dX6_causeOf_26 (Nat.le_of_ble_eq_true rfl) rfl ?_
  refine E_iload_n (pc := 28) hx 2 dX6_causeOf_28 rfl rfl ?_
  refine E_gd (fun hr4 => ?_)
  refine I_if_eq (pc := 29) hx 37 dX6_causeOf_29 rfl hr4 ?_ ?_
  · refine E_aload_n (pc := 37) hx 3 dX6_causeOf_37 rfl rfl ?_
    refine E_iload_n (pc := 38) hx 4 dX6_causeOf_38 rfl rfl ?_
    refine I_cVI  (pc := 39) hx [.int (oI p1)] [] (ev_X2_nextOf F a0 h0 p1 w) vm_X2_nextOf fc2 h0 g1143 dX6_causeOf_39 rfl rfl (Nat.le_of_ble_eq_true rfl) (Nat.le_of_ble_eq_true rfl) (Nat.le_of_ble_eq_true rfl) (fun r5 => ?_)
    refine I_iconst (pc := 42) hx (-1) dX6_causeOf_42 ?_
    refine E_gd (fun hr6 => ?_)
    refine I_icmp_ne (pc := 43) hx 60 dX6_causeOf_43 rfl ⟨hr6, (by decide)⟩ ?_ ?_
    · refine E_iload (pc := 60) hx 0 dX6_causeOf_60 rfl ?_
      refine I_bipush (pc := 62) hx 60 dX6_causeOf_62 rfl ?_
      refine E_gd (fun hr7 => ?_)
      refine I_irem (pc := 64) hx dX6_causeOf_64 ⟨hr7, (by decide), (by decide)⟩ ?_
      refine E_aload_n (pc := 65) hx 3 dX6_causeOf_65 rfl rfl ?_
      refine I_bipush (pc := 66) hx 9 dX6_causeOf_66 rfl ?_
      refine I_cVI  (pc := 68) hx [.int (oI 9)] [.int (oI (Int.tmod v4_3 60))] (ev_X2_setting F a0 h0 9 w) vm_X2_setting fc2 h0 g1144 dX6_causeOf_68 rfl rfl (Nat.le_of_ble_eq_true rfl) (Nat.le_of_ble_eq_true rfl) (Nat.le_of_ble_eq_true rfl) (fun r8 => ?_)
      refine E_gd (fun hr9 => ?_)
      refine I_icmp_lt (pc := 71) hx 84 dX6_causeOf_71 rfl ⟨hr9.1, hr9.2⟩ ?_ ?_
      · refine E_aload_n (pc := 84) hx 3 dX6_causeOf_84 rfl rfl ?_
        refine E_iload_n (pc := 85) hx 1 dX6_causeOf_85 rfl rfl ?_
        refine E_iload (pc := 86) hx 0 dX6_causeOf_86 rfl ?_
        refine I_cVB  (pc := 88) hx [.int (oI r2), .int (oI v4_3)] [] (ev_X2_isBusy F a0 h0 r2 v4_3 w) vm_X2_isBusy fc2 h0 g1145 dX6_causeOf_88 rfl rfl (Nat.le_of_ble_eq_true rfl) (Nat.le_of_ble_eq_true rfl) (Nat.le_of_ble_eq_true rfl) (fun r10 => ?_)
        refine I_ifB_eq (pc := 91) hx 111 dX6_causeOf_91 rfl ?_ ?_
        · refine E_aload_n (pc := 111) hx 3 dX6_causeOf_111 rfl rfl ?_
          refine E_iload_n (pc := 112) hx 4 dX6_causeOf_112 rfl rfl ?_
          refine I_cVI  (pc := 113) hx [.int (oI p1)] [] (ev_X2_lackOf F a0 h0 p1 w) vm_X2_lackOf fc2 h0 g1146 dX6_causeOf_113 rfl rfl (Nat.le_of_ble_eq_true rfl) (Nat.le_of_ble_eq_true rfl) (Nat.le_of_ble_eq_true rfl) (fun r11 => ?_)
          refine E_gd (fun hr12 => ?_)
          refine I_if_le (pc := 116) hx 129 dX6_causeOf_116 rfl hr12 ?_ ?_
          · refine E_aload_n (pc := 129) hx 3 dX6_causeOf_129 rfl rfl ?_
            refine E_iload_n (pc := 130) hx 1 dX6_causeOf_130 rfl rfl ?_
            refine I_cVI  (pc := 131) hx [.int (oI r2)] [] (ev_X2_firstToGoFrom F a0 h0 r2 w) vm_X2_firstToGoFrom fc2 h0 g1147 dX6_causeOf_131 rfl rfl (Nat.le_of_ble_eq_true rfl) (Nat.le_of_ble_eq_true rfl) (Nat.le_of_ble_eq_true rfl) (fun r13 => ?_)
            refine E_istore (pc := 134) hx dX6_causeOf_134 (Nat.le_of_ble_eq_true rfl) rfl ?_
            refine E_iload (pc := 136) hx 0 dX6_causeOf_136 rfl ?_
            refine E_iload_n (pc := 138) hx 5 dX6_causeOf_138 rfl rfl ?_
            refine E_gd (fun hr14 => ?_)
            refine I_icmp_ne (pc := 139) hx 146 dX6_causeOf_139 rfl ⟨hr14.1, hr14.2⟩ ?_ ?_
            · refine I_sipush (pc := 146) hx 600 dX6_causeOf_146 rfl ?_
              refine E_iload (pc := 149) hx 0 dX6_causeOf_149 rfl ?_
              refine I_iadd (pc := 151) hx dX6_causeOf_151 ?_
              exact E_iret (pc := 152) hx dX6_causeOf_152 rfl rfl (Nat.le_of_ble_eq_true rfl)
            refine I_iconst (pc := 142) hx 0 dX6_causeOf_142 ?_
            refine E_goto (pc := 143) hx 152 dX6_causeOf_143 rfl ?_
            exact E_iret (pc := 152) hx dX6_causeOf_152 rfl rfl (Nat.le_of_ble_eq_true rfl)
          refine I_sipush (pc := 119) hx 500 dX6_causeOf_119 rfl ?_
          refine E_aload_n (pc := 122) hx 3 dX6_causeOf_122 rfl rfl ?_
          refine E_iload_n (pc := 123) hx 4 dX6_causeOf_123 rfl rfl ?_
          refine I_cVI  (pc := 124) hx [.int (oI p1)] [.int (oI 500)] (ev_X2_lackOf F a0 h0 p1 w) vm_X2_lackOf fc2 h0 g1146 dX6_causeOf_124 rfl rfl (Nat.le_of_ble_eq_true rfl) (Nat.le_of_ble_eq_true rfl) (Nat.le_of_ble_eq_true rfl) (fun r15 => ?_)
          refine I_iadd (pc := 127) hx dX6_causeOf_127 ?_
          exact E_iret (pc := 128) hx dX6_causeOf_128 rfl rfl (Nat.le_of_ble_eq_true rfl)
        refine I_sipush (pc := 94) hx 400 dX6_causeOf_94 rfl ?_
        refine E_aload_n (pc := 97) hx 3 dX6_causeOf_97 rfl rfl ?_
        refine E_getR (pc := 98) hx 4 fc2 h0 rfl ⟨rfl, rfl, rfl⟩ g222 dX6_causeOf_98 ?_
        refine E_iload_n (pc := 101) hx 1 dX6_causeOf_101 rfl rfl ?_
        refine I_iconst (pc := 102) hx 4 dX6_causeOf_102 ?_
        refine I_cVI  (pc := 103) hx [.int (oI r2), .int (oI 4)] [.int (oI 400)] (ev_X7_get F (shR a0 4) (kt_2_4 h0) r2 4 w) vm_X7_get fc6 (kt_2_4 h0) g851 dX6_causeOf_103 rfl rfl (Nat.le_of_ble_eq_true rfl) (Nat.le_of_ble_eq_true rfl) (Nat.le_of_ble_eq_true rfl) (fun r16 => ?_)
        refine I_iadd (pc := 106) hx dX6_causeOf_106 ?_
        refine E_iload (pc := 107) hx 0 dX6_causeOf_107 rfl ?_
        refine I_isub (pc := 109) hx dX6_causeOf_109 ?_
        exact E_iret (pc := 110) hx dX6_causeOf_110 rfl rfl (Nat.le_of_ble_eq_true rfl)
      refine I_sipush (pc := 74) hx 300 dX6_causeOf_74 rfl ?_
      refine E_iload (pc := 77) hx 0 dX6_causeOf_77 rfl ?_
      refine I_bipush (pc := 79) hx 60 dX6_causeOf_79 rfl ?_
      refine I_irem (pc := 81) hx dX6_causeOf_81 ⟨hr7, (by decide), (by decide)⟩ ?_
      refine I_iadd (pc := 82) hx dX6_causeOf_82 ?_
      exact E_iret (pc := 83) hx dX6_causeOf_83 rfl rfl (Nat.le_of_ble_eq_true rfl)
    refine I_sipush (pc := 46) hx 200 dX6_causeOf_46 rfl ?_
    refine E_aload_n (pc := 49) hx 3 dX6_causeOf_49 rfl rfl ?_
    refine E_getR (pc := 50) hx 6 fc2 h0 rfl ⟨rfl, rfl, rfl⟩ g230 dX6_causeOf_50 ?_
    refine E_iload_n (pc := 53) hx 4 dX6_causeOf_53 rfl rfl ?_
    refine I_iconst (pc := 54) hx 1 dX6_causeOf_54 ?_
    refine I_cVI  (pc := 55) hx [.int (oI p1), .int (oI 1)] [.int (oI 200)] (ev_X7_get F (shR a0 6) (kt_2_6 h0) p1 1 w) vm_X7_get fc6 (kt_2_6 h0) g851 dX6_causeOf_55 rfl rfl (Nat.le_of_ble_eq_true rfl) (Nat.le_of_ble_eq_true rfl) (Nat.le_of_ble_eq_true rfl) (fun r17 => ?_)
    refine I_iadd (pc := 58) hx dX6_causeOf_58 ?_
    exact E_iret (pc := 59) hx dX6_causeOf_59 rfl rfl (Nat.le_of_ble_eq_true rfl)
  refine I_bipush (pc := 32) hx 100 dX6_causeOf_32 rfl ?_
  refine E_iload_n (pc := 34) hx 2 dX6_causeOf_34 rfl rfl ?_
  refine I_iadd (pc := 35) hx dX6_causeOf_35 ?_
  exact E_iret (pc := 36) hx dX6_causeOf_36 rfl rfl (Nat.le_of_ble_eq_true rfl)
set_option maxHeartbeats 4000000 in
set_option maxRecDepth 100000 in
theorem l_X6_feesOn_b9_b {x : Cx} (F : Nat) (a0 : Nat) (h0 : shK a0 = 10 + 2) (p1 : Int) (p2 : Int) (p3 : Int) (w : aI) (hx : CxOK x RX6 cX6_feesOn 8 1 0 (some .int))  (k9 : Int → Int → Int → Option Int) (hk9 : ∀ (v4 : Int) (v5 : Int) (v6 : Int), En x (jvI w) 0 0 9 [(0, .ref a0), (2, .int (oI p2)), (3, .int (oI p3)), (4, .int (oI v4)), (5, .int (oI v5)), (6, .int (oI v6))] [] (cm w) (k9 v4 v5 v6)) (v4 : Int) (v5 : Int) (v6 : Int)  : En x (jvI w) 0 0 9 [(0, .ref a0), (2, .int (oI p2)), (3, .int (oI p3)), (4, .int (oI v4)), (5, .int (oI v5)), (6, .int (oI v6))] [] (cm w) (f_X6_feesOn_b9_b F a0 p1 p2 p3 w  k9 v4 v5 v6) := by
  unfold f_X6_feesOn_b9_b
  refine E_iload (pc := 9) hx 5 dX6_feesOn_9 rfl ?_
  refine I_bipush (pc := 11) hx 10 dX6_feesOn_11 rfl ?_
  refine E_gd (fun hr1 => ?_)
  refine I_icmp_ge (pc := 13) hx 75 dX6_feesOn_13 rfl ⟨hr1, (by decide)⟩ ?_ ?_
  · refine E_iload (pc := 75) hx 3 dX6_feesOn_75 rfl ?_
    exact E_iret (pc := 77) hx dX6_feesOn_77 rfl rfl (Nat.le_of_ble_eq_true rfl)
  refine E_iload (pc := 16) hx 4 dX6_feesOn_16 rfl ?_
  refine E_iload_n (pc := 18) hx 1 dX6_feesOn_18 rfl rfl ?_
  refine E_gd (fun hr2 => ?_)
  refine I_icmp_eq (pc := 19) hx 75 dX6_feesOn_19 rfl ⟨hr2.1, hr2.2⟩ ?_ ?_
  · refine E_iload (pc := 75) hx 3 dX6_feesOn_75 rfl ?_
    exact E_iret (pc := 77) hx dX6_feesOn_77 rfl rfl (Nat.le_of_ble_eq_true rfl)
  refine E_aload_n (pc := 22) hx 0 dX6_feesOn_22 rfl rfl ?_
  refine E_getR (pc := 23) hx 9 fc2 h0 rfl ⟨rfl, rfl, rfl⟩ g239 dX6_feesOn_23 ?_
  refine E_getR (pc := 26) hx 2 fc3 (kt_2_9 h0) rfl ⟨rfl, rfl, rfl⟩ g192 dX6_feesOn_26 ?_
  refine E_iload (pc := 29) hx 4 dX6_feesOn_29 rfl ?_
  refine E_iload_n (pc := 31) hx 1 dX6_feesOn_31 rfl rfl ?_
  refine I_cVI  (pc := 32) hx [.int (oI v5), .int (oI p2)] [] (ev_X7_get F (shR (shR a0 9) 2) (kt_3_2 (kt_2_9 h0)) v5 p2 w) vm_X7_get fc6 (kt_3_2 (kt_2_9 h0)) g851 dX6_feesOn_32 rfl rfl (Nat.le_of_ble_eq_true rfl) (Nat.le_of_ble_eq_true rfl) (Nat.le_of_ble_eq_true rfl) (fun r3 => ?_)
  refine E_istore (pc := 35) hx dX6_feesOn_35 (Nat.le_of_ble_eq_true rfl) rfl ?_
  refine E_iload (pc := 37) hx 0 dX6_feesOn_37 rfl ?_
  refine I_iconst (pc := 39) hx (-1) dX6_feesOn_39 ?_
  refine E_gd (fun hr4 => ?_)
  refine I_icmp_ne (pc := 40) hx 45 dX6_feesOn_40 rfl ⟨hr4, (by decide)⟩ ?_ ?_
  · refine E_iload (pc := 45) hx 4 dX6_feesOn_45 rfl ?_
    refine E_iload_n (pc := 47) hx 3 dX6_feesOn_47 rfl rfl ?_
    refine I_cSI  (pc := 48) hx [.int (oI p3)] [.int (oI v4)] (ev_X2_barsOf F p3 w) sm_X2_barsOf g1158 dX6_feesOn_48 rfl rfl (Nat.le_of_ble_eq_true rfl) (Nat.le_of_ble_eq_true rfl) (Nat.le_of_ble_eq_true rfl) (fun r5 => ?_)
    refine E_aload_n (pc := 51) hx 1 dX6_feesOn_51 rfl rfl ?_
    refine E_getR (pc := 52) hx 4 fc2 h0 rfl ⟨rfl, rfl, rfl⟩ g222 dX6_feesOn_52 ?_
    refine E_iload (pc := 55) hx 5 dX6_feesOn_55 rfl ?_
    refine I_iconst (pc := 57) hx 2 dX6_feesOn_57 ?_
    refine I_cVI  (pc := 58) hx [.int (oI v5), .int (oI 2)] [.int (oI r5), .int (oI v4)] (ev_X7_get F (shR a0 4) (kt_2_4 h0) v5 2 w) vm_X7_get fc6 (kt_2_4 h0) g851 dX6_feesOn_58 rfl rfl (Nat.le_of_ble_eq_true rfl) (Nat.le_of_ble_eq_true rfl) (Nat.le_of_ble_eq_true rfl) (fun r6 => ?_)
    refine I_imul (pc := 61) hx dX6_feesOn_61 ?_
    refine I_iadd (pc := 62) hx dX6_feesOn_62 ?_
    refine I_ltv (fun v4_7 => ?_)
    refine E_istore (pc := 63) hx dX6_feesOn_63 (Nat.le_of_ble_eq_true rfl) rfl ?_
    refine E_iload (pc := 65) hx 1 dX6_feesOn_65 rfl ?_
    refine E_istore (pc := 67) hx dX6_feesOn_67 (Nat.le_of_ble_eq_true rfl) rfl ?_
    refine I_iinc (pc := 69) hx 1 6 dX6_feesOn_69 rfl (Nat.le_of_ble_eq_true rfl) rfl ?_
    refine E_goto (pc := 72) hx 9 dX6_feesOn_72 rfl ?_
    refine En.sub [4, 5, 6, 2, 1, 0] rfl ?_
    exact hk9 v4_7 r3 (v6 + 1)
  refine I_iconst (pc := 43) hx (-1) dX6_feesOn_43 ?_
  exact E_iret (pc := 44) hx dX6_feesOn_44 rfl rfl (Nat.le_of_ble_eq_true rfl)
theorem l_X6_feesOn_b9 {x : Cx} (F : Nat) (a0 : Nat) (h0 : shK a0 = 10 + 2) (p1 : Int) (p2 : Int) (p3 : Int) (w : aI) (hx : CxOK x RX6 cX6_feesOn 8 1 0 (some .int))  : ∀ (n : Nat) (v4 : Int) (v5 : Int) (v6 : Int), En x (jvI w) 0 0 9 [(0, .ref a0), (2, .int (oI p2)), (3, .int (oI p3)), (4, .int (oI v4)), (5, .int (oI v5)), (6, .int (oI v6))] [] (cm w) (f_X6_feesOn_b9 F a0 p1 p2 p3 w  n v4 v5 v6) := by
  intro n
  induction n with
  | zero => intro v4 v5 v6; exact E_none
  | succ n ih => intro v4 v5 v6; exact l_X6_feesOn_b9_b F a0 h0 p1 p2 p3 w hx  _ ih v4 v5 v6
set_option maxHeartbeats 4000000 in
set_option maxRecDepth 100000 in
theorem ev_X6_feesOn (F : Nat) (a0 : Nat) (h0 : shK a0 = 10 + 2) (p1 : Int) (p2 : Int) (p3 : Int) (w : aI) : Ev yX6_feesOn cX6_feesOn 8 (some .int) 1 0 (jvI w) [.ref a0, .int (oI p1), .int (oI p2), .int (oI p3)] (cm w) (f_X6_feesOn F a0 p1 p2 p3 w) := by
  refine Ev.of (own := RX6) (by decide +kernel) rfl (Nat.le_of_ble_eq_true rfl) (fun x hx => ?_)
  show En x (jvI w) 0 0 0 [(0, .ref a0), (1, .int (oI p1)), (2, .int (oI p2)), (3, .int (oI p3))] [] (cm w) _
  unfold f_X6_feesOn
  refine I_iconst (pc := 0) hx 0 dX6_feesOn_0 ?_
  refine E_istore (pc := 1) hx dX6_feesOn_1 (Nat.le_of_ble_eq_true rfl) rfl ?_
  refine E_iload_n (pc := 3) hx 2 dX6_feesOn_3 rfl rfl ?_
  refine E_istore (pc := 4) hx dX6_feesOn_4 (Nat.le_of_ble_eq_true rfl) rfl ?_
  refine I_iconst (pc := 6) hx 0 dX6_feesOn_6 ?_
  refine E_istore (pc := 7) hx dX6_feesOn_7 (Nat.le_of_ble_eq_true rfl) rfl ?_
  refine En.sub [3, 5, 6, 2, 1, 0] rfl ?_
  exact l_X6_feesOn_b9 F a0 h0 p1 p2 p3 w hx F 0 p1 0
set_option maxHeartbeats 4000000 in
set_option maxRecDepth 100000 in
theorem l_X6_wrongNotesOn_b9_b {x : Cx} (F : Nat) (a0 : Nat) (h0 : shK a0 = 10 + 2) (p1 : Int) (p2 : Int) (p3 : Int) (p4 : Int) (w : aI) (hx : CxOK x RX6 cX6_wrongNotesOn 9 2 0 (some .int))  (k9 : Int → Int → Int → Option Int) (hk9 : ∀ (v5 : Int) (v6 : Int) (v7 : Int), En x (jvI w) 0 0 9 [(0, .ref a0), (2, .int (oI p2)), (3, .int (oI p3)), (4, .int (oI p4)), (5, .int (oI v5)), (6, .int (oI v6)), (7, .int (oI v7))] [] (cm w) (k9 v5 v6 v7)) (v5 : Int) (v6 : Int) (v7 : Int)  : En x (jvI w) 0 0 9 [(0, .ref a0), (2, .int (oI p2)), (3, .int (oI p3)), (4, .int (oI p4)), (5, .int (oI v5)), (6, .int (oI v6)), (7, .int (oI v7))] [] (cm w) (f_X6_wrongNotesOn_b9_b F a0 p1 p2 p3 p4 w  k9 v5 v6 v7) := by
  unfold f_X6_wrongNotesOn_b9_b
  refine E_iload (pc := 9) hx 6 dX6_wrongNotesOn_9 rfl ?_
  refine I_bipush (pc := 11) hx 10 dX6_wrongNotesOn_11 rfl ?_
  refine E_gd (fun hr1 => ?_)
  refine I_icmp_ge (pc := 13) hx 83 dX6_wrongNotesOn_13 rfl ⟨hr1, (by decide)⟩ ?_ ?_
  · refine E_iload (pc := 83) hx 4 dX6_wrongNotesOn_83 rfl ?_
    exact E_iret (pc := 85) hx dX6_wrongNotesOn_85 rfl rfl (Nat.le_of_ble_eq_true rfl)
  refine E_iload (pc := 16) hx 5 dX6_wrongNotesOn_16 rfl ?_
  refine E_iload_n (pc := 18) hx 1 dX6_wrongNotesOn_18 rfl rfl ?_
  refine E_gd (fun hr2 => ?_)
  refine I_icmp_eq (pc := 19) hx 83 dX6_wrongNotesOn_19 rfl ⟨hr2.1, hr2.2⟩ ?_ ?_
  · refine E_iload (pc := 83) hx 4 dX6_wrongNotesOn_83 rfl ?_
    exact E_iret (pc := 85) hx dX6_wrongNotesOn_85 rfl rfl (Nat.le_of_ble_eq_true rfl)
  refine E_aload_n (pc := 22) hx 0 dX6_wrongNotesOn_22 rfl rfl ?_
  refine E_getR (pc := 23) hx 9 fc2 h0 rfl ⟨rfl, rfl, rfl⟩ g239 dX6_wrongNotesOn_23 ?_
  refine E_getR (pc := 26) hx 2 fc3 (kt_2_9 h0) rfl ⟨rfl, rfl, rfl⟩ g192 dX6_wrongNotesOn_26 ?_
  refine E_iload (pc := 29) hx 5 dX6_wrongNotesOn_29 rfl ?_
  refine E_iload_n (pc := 31) hx 1 dX6_wrongNotesOn_31 rfl rfl ?_
  refine I_cVI  (pc := 32) hx [.int (oI v6), .int (oI p2)] [] (ev_X7_get F (shR (shR a0 9) 2) (kt_3_2 (kt_2_9 h0)) v6 p2 w) vm_X7_get fc6 (kt_3_2 (kt_2_9 h0)) g851 dX6_wrongNotesOn_32 rfl rfl (Nat.le_of_ble_eq_true rfl) (Nat.le_of_ble_eq_true rfl) (Nat.le_of_ble_eq_true rfl) (fun r3 => ?_)
  refine E_istore (pc := 35) hx dX6_wrongNotesOn_35 (Nat.le_of_ble_eq_true rfl) rfl ?_
  refine E_iload (pc := 37) hx 0 dX6_wrongNotesOn_37 rfl ?_
  refine I_iconst (pc := 39) hx (-1) dX6_wrongNotesOn_39 ?_
  refine E_gd (fun hr4 => ?_)
  refine I_icmp_ne (pc := 40) hx 45 dX6_wrongNotesOn_40 rfl ⟨hr4, (by decide)⟩ ?_ ?_
  · refine E_iload (pc := 45) hx 5 dX6_wrongNotesOn_45 rfl ?_
    refine E_aload_n (pc := 47) hx 1 dX6_wrongNotesOn_47 rfl rfl ?_
    refine E_aload_n (pc := 48) hx 1 dX6_wrongNotesOn_48 rfl rfl ?_
    refine E_getR (pc := 49) hx 9 fc2 h0 rfl ⟨rfl, rfl, rfl⟩ g239 dX6_wrongNotesOn_49 ?_
    refine E_getR (pc := 52) hx 0 fc3 (kt_2_9 h0) rfl ⟨rfl, rfl, rfl⟩ g187 dX6_wrongNotesOn_52 ?_
    refine E_iload (pc := 55) hx 6 dX6_wrongNotesOn_55 rfl ?_
    refine E_iload (pc := 57) hx 0 dX6_wrongNotesOn_57 rfl ?_
    refine I_cVI  (pc := 59) hx [.int (oI v6), .int (oI r3)] [.ref a0, .int (oI v5)] (ev_X7_get F (shR (shR a0 9) 0) (kt_3_0 (kt_2_9 h0)) v6 r3 w) vm_X7_get fc6 (kt_3_0 (kt_2_9 h0)) g851 dX6_wrongNotesOn_59 rfl rfl (Nat.le_of_ble_eq_true rfl) (Nat.le_of_ble_eq_true rfl) (Nat.le_of_ble_eq_true rfl) (fun r5 => ?_)
    refine E_iload (pc := 62) hx 0 dX6_wrongNotesOn_62 rfl ?_
    refine E_iload_n (pc := 64) hx 3 dX6_wrongNotesOn_64 rfl rfl ?_
    refine E_iload (pc := 65) hx 4 dX6_wrongNotesOn_65 rfl ?_
    refine I_cVI  (pc := 67) hx [.int (oI r5), .int (oI r3), .int (oI p3), .int (oI p4)] [.int (oI v5)] (ev_X2_wrongOf F a0 h0 r5 r3 p3 p4 w) vm_X2_wrongOf fc2 h0 g1170 dX6_wrongNotesOn_67 rfl rfl (Nat.le_of_ble_eq_true rfl) (Nat.le_of_ble_eq_true rfl) (Nat.le_of_ble_eq_true rfl) (fun r6 => ?_)
    refine I_iadd (pc := 70) hx dX6_wrongNotesOn_70 ?_
    refine I_ltv (fun v5_7 => ?_)
    refine E_istore (pc := 71) hx dX6_wrongNotesOn_71 (Nat.le_of_ble_eq_true rfl) rfl ?_
    refine E_iload (pc := 73) hx 1 dX6_wrongNotesOn_73 rfl ?_
    refine E_istore (pc := 75) hx dX6_wrongNotesOn_75 (Nat.le_of_ble_eq_true rfl) rfl ?_
    refine I_iinc (pc := 77) hx 1 7 dX6_wrongNotesOn_77 rfl (Nat.le_of_ble_eq_true rfl) rfl ?_
    refine E_goto (pc := 80) hx 9 dX6_wrongNotesOn_80 rfl ?_
    refine En.sub [4, 5, 6, 7, 2, 1, 0] rfl ?_
    exact hk9 v5_7 r3 (v7 + 1)
  refine I_iconst (pc := 43) hx (-1) dX6_wrongNotesOn_43 ?_
  exact E_iret (pc := 44) hx dX6_wrongNotesOn_44 rfl rfl (Nat.le_of_ble_eq_true rfl)
theorem l_X6_wrongNotesOn_b9 {x : Cx} (F : Nat) (a0 : Nat) (h0 : shK a0 = 10 + 2) (p1 : Int) (p2 : Int) (p3 : Int) (p4 : Int) (w : aI) (hx : CxOK x RX6 cX6_wrongNotesOn 9 2 0 (some .int))  : ∀ (n : Nat) (v5 : Int) (v6 : Int) (v7 : Int), En x (jvI w) 0 0 9 [(0, .ref a0), (2, .int (oI p2)), (3, .int (oI p3)), (4, .int (oI p4)), (5, .int (oI v5)), (6, .int (oI v6)), (7, .int (oI v7))] [] (cm w) (f_X6_wrongNotesOn_b9 F a0 p1 p2 p3 p4 w  n v5 v6 v7) := by
  intro n
  induction n with
  | zero => intro v5 v6 v7; exact E_none
  | succ n ih => intro v5 v6 v7; exact l_X6_wrongNotesOn_b9_b F a0 h0 p1 p2 p3 p4 w hx  _ ih v5 v6 v7
set_option maxHeartbeats 4000000 in
set_option maxRecDepth 100000 in
theorem ev_X6_wrongNotesOn (F : Nat) (a0 : Nat) (h0 : shK a0 = 10 + 2) (p1 : Int) (p2 : Int) (p3 : Int) (p4 : Int) (w : aI) : Ev yX6_wrongNotesOn cX6_wrongNotesOn 9 (some .int) 2 0 (jvI w) [.ref a0, .int (oI p1), .int (oI p2), .int (oI p3), .int (oI p4)] (cm w) (f_X6_wrongNotesOn F a0 p1 p2 p3 p4 w) := by
  refine Ev.of (own := RX6) (by decide +kernel) rfl (Nat.le_of_ble_eq_true rfl) (fun x hx => ?_)
  show En x (jvI w) 0 0 0 [(0, .ref a0), (1, .int (oI p1)), (2, .int (oI p2)), (3, .int (oI p3)), (4, .int (oI p4))] [] (cm w) _
  unfold f_X6_wrongNotesOn
  refine I_iconst (pc := 0) hx 0 dX6_wrongNotesOn_0 ?_
  refine E_istore (pc := 1) hx dX6_wrongNotesOn_1 (Nat.le_of_ble_eq_true rfl) rfl ?_
  refine E_iload_n (pc := 3) hx 2 dX6_wrongNotesOn_3 rfl rfl ?_
  refine E_istore (pc := 4) hx dX6_wrongNotesOn_4 (Nat.le_of_ble_eq_true rfl) rfl ?_
  refine I_iconst (pc := 6) hx 0 dX6_wrongNotesOn_6 ?_
  refine E_istore (pc := 7) hx dX6_wrongNotesOn_7 (Nat.le_of_ble_eq_true rfl) rfl ?_
  refine En.sub [3, 5, 6, 7, 2, 1, 0] rfl ?_
  exact l_X6_wrongNotesOn_b9 F a0 h0 p1 p2 p3 p4 w hx F 0 p1 0
set_option maxHeartbeats 4000000 in
set_option maxRecDepth 100000 in
theorem l_X6_partOf_b22_b {x : Cx} (F : Nat) (a0 : Nat) (h0 : shK a0 = 10 + 2) (p1 : Int) (p2 : Int) (w : aI) (hx : CxOK x RX6 cX6_partOf 8 1 0 (some .int)) (k7 : Int → Int → Option Int) (hk7 : ∀ (v3 : Int) (v4 : Int), En x (jvI w) 0 0 7 [(0, .ref a0), (2, .int (oI p2)), (3, .int (oI v3)), (4, .int (oI v4))] [] (cm w) (k7 v3 v4)) (k22 : Int → Int → Int → Int → Option Int) (hk22 : ∀ (v3 : Int) (v4 : Int) (v5 : Int) (v6 : Int), En x (jvI w) 0 0 22 [(0, .ref a0), (2, .int (oI p2)), (3, .int (oI v3)), (4, .int (oI v4)), (5, .int (oI v5)), (6, .int (oI v6))] [] (cm w) (k22 v3 v4 v5 v6)) (v3 : Int) (v4 : Int) (v5 : Int) (v6 : Int)  : En x (jvI w) 0 0 22 [(0, .ref a0), (2, .int (oI p2)), (3, .int (oI v3)), (4, .int (oI v4)), (5, .int (oI v5)), (6, .int (oI v6))] [] (cm w) (f_X6_partOf_b22_b F a0 p1 p2 w k7 k22 v3 v4 v5 v6) := by
  unfold f_X6_partOf_b22_b
  refine E_iload (pc := 22) hx 5 dX6_partOf_22 rfl ?_
  refine E_aload_n (pc := 24) hx 0 dX6_partOf_24 rfl rfl ?_
  refine I_getI (pc := 25) hx 2 2 rfl fc2 h0 rfl ⟨rfl, rfl, rfl⟩ g215 dX6_partOf_25 ?_
  refine E_gd (fun hr4 => ?_)
  refine I_icmp_ge (pc := 28) hx 82 dX6_partOf_28 rfl ⟨hr4.1, hr4.2⟩ ?_ ?_
  · refine E_iload_n (pc := 82) hx 2 dX6_partOf_82 rfl rfl ?_
    refine E_iload (pc := 83) hx 4 dX6_partOf_83 rfl ?_
    refine E_gd (fun hr5 => ?_)
    refine I_icmp_ne (pc := 85) hx 90 dX6_partOf_85 rfl ⟨hr5.1, hr5.2⟩ ?_ ?_
    · refine I_iinc (pc := 90) hx 1 3 dX6_partOf_90 rfl (Nat.le_of_ble_eq_true rfl) rfl ?_
      refine E_goto (pc := 93) hx 7 dX6_partOf_93 rfl ?_
      refine En.sub [1, 2, 3, 0] rfl ?_
      exact hk7 v3 (v4 + 1)
    refine E_iload_n (pc := 88) hx 2 dX6_partOf_88 rfl rfl ?_
    exact E_iret (pc := 89) hx dX6_partOf_89 rfl rfl (Nat.le_of_ble_eq_true rfl)
  refine I_iconst (pc := 31) hx 1 dX6_partOf_31 ?_
  refine E_aload_n (pc := 32) hx 0 dX6_partOf_32 rfl rfl ?_
  refine E_getR (pc := 33) hx 5 fc2 h0 rfl ⟨rfl, rfl, rfl⟩ g227 dX6_partOf_33 ?_
  refine E_iload (pc := 36) hx 5 dX6_partOf_36 rfl ?_
  refine I_iconst (pc := 38) hx 0 dX6_partOf_38 ?_
  refine I_cVI  (pc := 39) hx [.int (oI v6), .int (oI 0)] [.int (oI 1)] (ev_X7_get F (shR a0 5) (kt_2_5 h0) v6 0 w) vm_X7_get fc6 (kt_2_5 h0) g851 dX6_partOf_39 rfl rfl (Nat.le_of_ble_eq_true rfl) (Nat.le_of_ble_eq_true rfl) (Nat.le_of_ble_eq_true rfl) (fun r6 => ?_)
  refine E_gd (fun hs7 => ?_)
  refine I_ishl (pc := 42) hx dX6_partOf_42 hs7 ?_
  refine I_iconst (pc := 43) hx 1 dX6_partOf_43 ?_
  refine E_aload_n (pc := 44) hx 0 dX6_partOf_44 rfl rfl ?_
  refine E_getR (pc := 45) hx 5 fc2 h0 rfl ⟨rfl, rfl, rfl⟩ g227 dX6_partOf_45 ?_
  refine E_iload (pc := 48) hx 5 dX6_partOf_48 rfl ?_
  refine I_iconst (pc := 50) hx 1 dX6_partOf_50 ?_
  refine I_cVI  (pc := 51) hx [.int (oI v6), .int (oI 1)] [.int (oI 1), .int (oI (shl 1 r6))] (ev_X7_get F (shR a0 5) (kt_2_5 h0) v6 1 w) vm_X7_get fc6 (kt_2_5 h0) g851 dX6_partOf_51 rfl rfl (Nat.le_of_ble_eq_true rfl) (Nat.le_of_ble_eq_true rfl) (Nat.le_of_ble_eq_true rfl) (fun r8 => ?_)
  refine E_gd (fun hs9 => ?_)
  refine I_ishl (pc := 54) hx dX6_partOf_54 hs9 ?_
  refine I_ior (pc := 55) hx dX6_partOf_55 ?_
  refine I_ltv (fun v7_10 => ?_)
  refine E_istore (pc := 56) hx dX6_partOf_56 (Nat.le_of_ble_eq_true rfl) rfl ?_
  refine E_iload (pc := 58) hx 6 dX6_partOf_58 rfl ?_
  refine E_iload_n (pc := 60) hx 2 dX6_partOf_60 rfl rfl ?_
  refine E_gd (fun hr11 => ?_)
  refine I_icmp_eq (pc := 61) hx 76 dX6_partOf_61 rfl ⟨hr4.1, hr11⟩ ?_ ?_
  · refine I_iinc (pc := 76) hx 1 6 dX6_partOf_76 rfl (Nat.le_of_ble_eq_true rfl) rfl ?_
    refine E_goto (pc := 79) hx 22 dX6_partOf_79 rfl ?_
    refine En.sub [2, 3, 4, 5, 6, 0] rfl ?_
    exact hk22 v3 v4 v5 (v6 + 1)
  refine E_iload_n (pc := 64) hx 3 dX6_partOf_64 rfl rfl ?_
  refine E_iload (pc := 65) hx 0 dX6_partOf_65 rfl ?_
  refine I_iand (pc := 67) hx dX6_partOf_67 ?_
  refine E_gd (fun hr12 => ?_)
  refine I_if_eq (pc := 68) hx 76 dX6_partOf_68 rfl hr12 ?_ ?_
  · refine I_iinc (pc := 76) hx 1 6 dX6_partOf_76 rfl (Nat.le_of_ble_eq_true rfl) rfl ?_
    refine E_goto (pc := 79) hx 22 dX6_partOf_79 rfl ?_
    refine En.sub [2, 3, 4, 5, 6, 0] rfl ?_
    exact hk22 v3 v4 v5 (v6 + 1)
  refine E_iload_n (pc := 71) hx 3 dX6_partOf_71 rfl rfl ?_
  refine E_iload (pc := 72) hx 0 dX6_partOf_72 rfl ?_
  refine I_ior (pc := 74) hx dX6_partOf_74 ?_
  refine I_ltv (fun v3_13 => ?_)
  refine E_istore_n (pc := 75) hx dX6_partOf_75 rfl (Nat.le_of_ble_eq_true rfl) rfl ?_
  refine I_iinc (pc := 76) hx 1 6 dX6_partOf_76 rfl (Nat.le_of_ble_eq_true rfl) rfl ?_
  refine E_goto (pc := 79) hx 22 dX6_partOf_79 rfl ?_
  refine En.sub [3, 4, 1, 5, 6, 0] rfl ?_
  exact hk22 v3_13 v4 v5 (v6 + 1)
theorem l_X6_partOf_b22 {x : Cx} (F : Nat) (a0 : Nat) (h0 : shK a0 = 10 + 2) (p1 : Int) (p2 : Int) (w : aI) (hx : CxOK x RX6 cX6_partOf 8 1 0 (some .int)) (k7 : Int → Int → Option Int) (hk7 : ∀ (v3 : Int) (v4 : Int), En x (jvI w) 0 0 7 [(0, .ref a0), (2, .int (oI p2)), (3, .int (oI v3)), (4, .int (oI v4))] [] (cm w) (k7 v3 v4)) : ∀ (n : Nat) (v3 : Int) (v4 : Int) (v5 : Int) (v6 : Int), En x (jvI w) 0 0 22 [(0, .ref a0), (2, .int (oI p2)), (3, .int (oI v3)), (4, .int (oI v4)), (5, .int (oI v5)), (6, .int (oI v6))] [] (cm w) (f_X6_partOf_b22 F a0 p1 p2 w k7 n v3 v4 v5 v6) := by
  intro n
  induction n with
  | zero => intro v3 v4 v5 v6; exact E_none
  | succ n ih => intro v3 v4 v5 v6; exact l_X6_partOf_b22_b F a0 h0 p1 p2 w hx k7 hk7 _ ih v3 v4 v5 v6
set_option maxHeartbeats 4000000 in
set_option maxRecDepth 100000 in
theorem l_X6_partOf_b7_b {x : Cx} (F : Nat) (a0 : Nat) (h0 : shK a0 = 10 + 2) (p1 : Int) (p2 : Int) (w : aI) (hx : CxOK x RX6 cX6_partOf 8 1 0 (some .int))  (k7 : Int → Int → Option Int) (hk7 : ∀ (v3 : Int) (v4 : Int), En x (jvI w) 0 0 7 [(0, .ref a0), (2, .int (oI p2)), (3, .int (oI v3)), (4, .int (oI v4))] [] (cm w) (k7 v3 v4)) (v3 : Int) (v4 : Int)  : En x (jvI w) 0 0 7 [(0, .ref a0), (2, .int (oI p2)), (3, .int (oI v3)), (4, .int (oI v4))] [] (cm w) (f_X6_partOf_b7_b F a0 p1 p2 w  k7 v3 v4) := by
  unfold f_X6_partOf_b7_b
  refine E_iload (pc := 7) hx 3 dX6_partOf_7 rfl ?_
  refine E_aload_n (pc := 9) hx 0 dX6_partOf_9 rfl rfl ?_
  refine I_getI (pc := 10) hx 1 1 rfl fc2 h0 rfl ⟨rfl, rfl, rfl⟩ g209 dX6_partOf_10 ?_
  refine E_gd (fun hr3 => ?_)
  refine I_icmp_ge (pc := 13) hx 96 dX6_partOf_13 rfl ⟨hr3.1, hr3.2⟩ ?_ ?_
  · refine E_iload_n (pc := 96) hx 2 dX6_partOf_96 rfl rfl ?_
    exact E_iret (pc := 97) hx dX6_partOf_97 rfl rfl (Nat.le_of_ble_eq_true rfl)
  refine E_iload_n (pc := 16) hx 2 dX6_partOf_16 rfl rfl ?_
  refine E_istore (pc := 17) hx dX6_partOf_17 (Nat.le_of_ble_eq_true rfl) rfl ?_
  refine I_iconst (pc := 19) hx 0 dX6_partOf_19 ?_
  refine E_istore (pc := 20) hx dX6_partOf_20 (Nat.le_of_ble_eq_true rfl) rfl ?_
  refine En.sub [2, 3, 4, 5, 1, 0] rfl ?_
  exact l_X6_partOf_b22 F a0 h0 p1 p2 w hx k7 hk7 F v3 v4 v3 0
theorem l_X6_partOf_b7 {x : Cx} (F : Nat) (a0 : Nat) (h0 : shK a0 = 10 + 2) (p1 : Int) (p2 : Int) (w : aI) (hx : CxOK x RX6 cX6_partOf 8 1 0 (some .int))  : ∀ (n : Nat) (v3 : Int) (v4 : Int), En x (jvI w) 0 0 7 [(0, .ref a0), (2, .int (oI p2)), (3, .int (oI v3)), (4, .int (oI v4))] [] (cm w) (f_X6_partOf_b7 F a0 p1 p2 w  n v3 v4) := by
  intro n
  induction n with
  | zero => intro v3 v4; exact E_none
  | succ n ih => intro v3 v4; exact l_X6_partOf_b7_b F a0 h0 p1 p2 w hx  _ ih v3 v4
set_option maxHeartbeats 4000000 in
set_option maxRecDepth 100000 in
theorem ev_X6_partOf (F : Nat) (a0 : Nat) (h0 : shK a0 = 10 + 2) (p1 : Int) (p2 : Int) (w : aI) : Ev yX6_partOf cX6_partOf 8 (some .int) 1 0 (jvI w) [.ref a0, .int (oI p1), .int (oI p2)] (cm w) (f_X6_partOf F a0 p1 p2 w) := by
  refine Ev.of (own := RX6) (by decide +kernel) rfl (Nat.le_of_ble_eq_true rfl) (fun x hx => ?_)
  show En x (jvI w) 0 0 0 [(0, .ref a0), (1, .int (oI p1)), (2, .int (oI p2))] [] (cm w) _
  unfold f_X6_partOf
  refine I_iconst (pc := 0) hx 1 dX6_partOf_0 ?_
  refine E_iload_n (pc := 1) hx 1 dX6_partOf_1 rfl rfl ?_
  refine E_gd (fun hs1 => ?_)
  refine I_ishl (pc := 2) hx dX6_partOf_2 hs1 ?_
  refine I_ltv (fun v3_2 => ?_)
  refine E_istore_n (pc := 3) hx dX6_partOf_3 rfl (Nat.le_of_ble_eq_true rfl) rfl ?_
  refine I_iconst (pc := 4) hx 1 dX6_partOf_4 ?_
  refine E_istore (pc := 5) hx dX6_partOf_5 (Nat.le_of_ble_eq_true rfl) rfl ?_
  refine En.sub [2, 4, 1, 0] rfl ?_
  exact l_X6_partOf_b7 F a0 h0 p1 p2 w hx F v3_2 1
set_option maxHeartbeats 4000000 in
set_option maxRecDepth 100000 in
theorem ev_J6_bitCount_0f7a4 (F : Nat) (p0 : Int) (w : aI) : Ev yJ6_bitCount_0f7a4 cJ6_bitCount_0f7a4 1 (some .int) 0 0 (jvI w) [.int (oI p0)] (cm w) (f_J6_bitCount_0f7a4 F p0 w) := by
  refine Ev.of (own := RJ6) (by decide +kernel) rfl (Nat.le_of_ble_eq_true rfl) (fun x hx => ?_)
  show En x (jvI w) 0 0 0 [(0, .int (oI p0))] [] (cm w) _
  unfold f_J6_bitCount_0f7a4
  refine E_iload_n (pc := 0) hx 0 dJ6_bitCount_0f7a4_0 rfl rfl ?_
  refine E_iload_n (pc := 1) hx 0 dJ6_bitCount_0f7a4_1 rfl rfl ?_
  refine I_iconst (pc := 2) hx 1 dJ6_bitCount_0f7a4_2 ?_
  refine I_iushr (pc := 3) hx dJ6_bitCount_0f7a4_3 ?_
  refine I_ldcw (pc := 4) hx 1431655765 g855 rfl dJ6_bitCount_0f7a4_4 ?_
  refine I_iand (pc := 7) hx dJ6_bitCount_0f7a4_7 ?_
  refine I_isub (pc := 8) hx dJ6_bitCount_0f7a4_8 ?_
  refine I_ltv (fun v0_1 => ?_)
  refine E_istore_n (pc := 9) hx dJ6_bitCount_0f7a4_9 rfl (Nat.le_of_ble_eq_true rfl) rfl ?_
  refine E_iload_n (pc := 10) hx 0 dJ6_bitCount_0f7a4_10 rfl rfl ?_
  refine I_ldcw (pc := 11) hx 858993459 g856 rfl dJ6_bitCount_0f7a4_11 ?_
  refine I_iand (pc := 14) hx dJ6_bitCount_0f7a4_14 ?_
  refine E_iload_n (pc := 15) hx 0 dJ6_bitCount_0f7a4_15 rfl rfl ?_
  refine I_iconst (pc := 16) hx 2 dJ6_bitCount_0f7a4_16 ?_
  refine I_iushr (pc := 17) hx dJ6_bitCount_0f7a4_17 ?_
  refine I_ldcw (pc := 18) hx 858993459 g856 rfl dJ6_bitCount_0f7a4_18 ?_
  refine I_iand (pc := 21) hx dJ6_bitCount_0f7a4_21 ?_
  refine I_iadd (pc := 22) hx dJ6_bitCount_0f7a4_22 ?_
  refine I_ltv (fun v0_2 => ?_)
  refine E_istore_n (pc := 23) hx dJ6_bitCount_0f7a4_23 rfl (Nat.le_of_ble_eq_true rfl) rfl ?_
  refine E_iload_n (pc := 24) hx 0 dJ6_bitCount_0f7a4_24 rfl rfl ?_
  refine E_iload_n (pc := 25) hx 0 dJ6_bitCount_0f7a4_25 rfl rfl ?_
  refine I_iconst (pc := 26) hx 4 dJ6_bitCount_0f7a4_26 ?_
  refine I_iushr (pc := 27) hx dJ6_bitCount_0f7a4_27 ?_
  refine I_iadd (pc := 28) hx dJ6_bitCount_0f7a4_28 ?_
  refine I_ldcw (pc := 29) hx 252645135 g857 rfl dJ6_bitCount_0f7a4_29 ?_
  refine I_iand (pc := 32) hx dJ6_bitCount_0f7a4_32 ?_
  refine I_ltv (fun v0_3 => ?_)
  refine E_istore_n (pc := 33) hx dJ6_bitCount_0f7a4_33 rfl (Nat.le_of_ble_eq_true rfl) rfl ?_
  refine E_iload_n (pc := 34) hx 0 dJ6_bitCount_0f7a4_34 rfl rfl ?_
  refine E_iload_n (pc := 35) hx 0 dJ6_bitCount_0f7a4_35 rfl rfl ?_
  refine I_bipush (pc := 36) hx 8 dJ6_bitCount_0f7a4_36 rfl ?_
  refine I_iushr (pc := 38) hx dJ6_bitCount_0f7a4_38 ?_
  refine I_iadd (pc := 39) hx dJ6_bitCount_0f7a4_39 ?_
  refine I_ltv (fun v0_4 => ?_)
  refine E_istore_n (pc := 40) hx dJ6_bitCount_0f7a4_40 rfl (Nat.le_of_ble_eq_true rfl) rfl ?_
  refine E_iload_n (pc := 41) hx 0 dJ6_bitCount_0f7a4_41 rfl rfl ?_
  refine E_iload_n (pc := 42) hx 0 dJ6_bitCount_0f7a4_42 rfl rfl ?_
  refine I_bipush (pc := 43) hx 16 dJ6_bitCount_0f7a4_43 rfl ?_
  refine I_iushr (pc := 45) hx dJ6_bitCount_0f7a4_45 ?_
  refine I_iadd (pc := 46) hx dJ6_bitCount_0f7a4_46 ?_
  refine I_ltv (fun v0_5 => ?_)
  refine E_istore_n (pc := 47) hx dJ6_bitCount_0f7a4_47 rfl (Nat.le_of_ble_eq_true rfl) rfl ?_
  refine E_iload_n (pc := 48) hx 0 dJ6_bitCount_0f7a4_48 rfl rfl ?_
  refine I_bipush (pc := 49) hx 63 dJ6_bitCount_0f7a4_49 rfl ?_
  refine I_iand (pc := 51) hx dJ6_bitCount_0f7a4_51 ?_
  exact E_iret (pc := 52) hx dJ6_bitCount_0f7a4_52 rfl rfl (Nat.le_of_ble_eq_true rfl)
set_option maxHeartbeats 4000000 in
set_option maxRecDepth 100000 in
theorem l_X6_pairsApartWithout_b14_b {x : Cx} (F : Nat) (a0 : Nat) (h0 : shK a0 = 10 + 2) (p1 : Int) (w : aI) (hx : CxOK x RX6 cX6_pairsApartWithout 6 2 0 (some .int))  (k14 : Int → Int → Int → Option Int) (hk14 : ∀ (v2 : Int) (v3 : Int) (v4 : Int), En x (jvI w) 0 0 14 [(0, .ref a0), (1, .int (oI p1)), (2, .int (oI v2)), (3, .int (oI v3)), (4, .int (oI v4))] [] (cm w) (k14 v2 v3 v4)) (v2 : Int) (v3 : Int) (v4 : Int)  : En x (jvI w) 0 0 14 [(0, .ref a0), (1, .int (oI p1)), (2, .int (oI v2)), (3, .int (oI v3)), (4, .int (oI v4))] [] (cm w) (f_X6_pairsApartWithout_b14_b F a0 p1 w  k14 v2 v3 v4) := by
  unfold f_X6_pairsApartWithout_b14_b
  refine E_iload (pc := 14) hx 4 dX6_pairsApartWithout_14 rfl ?_
  refine E_aload_n (pc := 16) hx 0 dX6_pairsApartWithout_16 rfl rfl ?_
  refine I_getI (pc := 17) hx 1 1 rfl fc2 h0 rfl ⟨rfl, rfl, rfl⟩ g209 dX6_pairsApartWithout_17 ?_
  refine E_gd (fun hr3 => ?_)
  refine I_icmp_ge (pc := 20) hx 68 dX6_pairsApartWithout_20 rfl ⟨hr3.1, hr3.2⟩ ?_ ?_
  · refine E_iload_n (pc := 68) hx 2 dX6_pairsApartWithout_68 rfl rfl ?_
    exact E_iret (pc := 69) hx dX6_pairsApartWithout_69 rfl rfl (Nat.le_of_ble_eq_true rfl)
  refine E_iload_n (pc := 23) hx 3 dX6_pairsApartWithout_23 rfl rfl ?_
  refine E_iload (pc := 24) hx 4 dX6_pairsApartWithout_24 rfl ?_
  refine E_gd (fun hr4 => ?_)
  refine E_gd (fun hs5 => ?_)
  refine I_ishr (pc := 26) hx dX6_pairsApartWithout_26 ⟨hr4, hs5⟩ ?_
  refine I_iconst (pc := 27) hx 1 dX6_pairsApartWithout_27 ?_
  refine I_iand (pc := 28) hx dX6_pairsApartWithout_28 ?_
  refine I_iconst (pc := 29) hx 1 dX6_pairsApartWithout_29 ?_
  refine E_gd (fun hr6 => ?_)
  refine I_icmp_ne (pc := 30) hx 62 dX6_pairsApartWithout_30 rfl ⟨hr6, (by decide)⟩ ?_ ?_
  · refine I_iinc (pc := 62) hx 1 4 dX6_pairsApartWithout_62 rfl (Nat.le_of_ble_eq_true rfl) rfl ?_
    refine E_goto (pc := 65) hx 14 dX6_pairsApartWithout_65 rfl ?_
    refine En.sub [1, 2, 3, 4, 0] rfl ?_
    exact hk14 v2 v3 (v4 + 1)
  refine E_aload_n (pc := 33) hx 0 dX6_pairsApartWithout_33 rfl rfl ?_
  refine E_iload (pc := 34) hx 4 dX6_pairsApartWithout_34 rfl ?_
  refine E_iload_n (pc := 36) hx 1 dX6_pairsApartWithout_36 rfl rfl ?_
  refine I_cSI  (pc := 37) hx [.ref a0, .int (oI v4), .int (oI p1)] [] (ev_X6_partOf F a0 h0 v4 p1 w) sm_X6_partOf g848 dX6_pairsApartWithout_37 rfl rfl (Nat.le_of_ble_eq_true rfl) (Nat.le_of_ble_eq_true rfl) (Nat.le_of_ble_eq_true rfl) (fun r7 => ?_)
  refine E_istore (pc := 40) hx dX6_pairsApartWithout_40 (Nat.le_of_ble_eq_true rfl) rfl ?_
  refine E_iload_n (pc := 42) hx 4 dX6_pairsApartWithout_42 rfl rfl ?_
  refine E_iload (pc := 43) hx 0 dX6_pairsApartWithout_43 rfl ?_
  refine I_iconst (pc := 45) hx (-1) dX6_pairsApartWithout_45 ?_
  refine I_ixor (pc := 46) hx dX6_pairsApartWithout_46 ?_
  refine I_iand (pc := 47) hx dX6_pairsApartWithout_47 ?_
  refine I_ltv (fun v3_8 => ?_)
  refine E_istore_n (pc := 48) hx dX6_pairsApartWithout_48 rfl (Nat.le_of_ble_eq_true rfl) rfl ?_
  refine E_iload_n (pc := 49) hx 4 dX6_pairsApartWithout_49 rfl rfl ?_
  refine E_iload (pc := 50) hx 1 dX6_pairsApartWithout_50 rfl ?_
  refine I_cSI  (pc := 52) hx [.int (oI r7)] [.int (oI v2)] (ev_J6_bitCount_0f7a4 F r7 w) sm_J6_bitCount_0f7a4 g852 dX6_pairsApartWithout_52 rfl rfl (Nat.le_of_ble_eq_true rfl) (Nat.le_of_ble_eq_true rfl) (Nat.le_of_ble_eq_true rfl) (fun r9 => ?_)
  refine E_iload_n (pc := 55) hx 0 dX6_pairsApartWithout_55 rfl rfl ?_
  refine I_cSI  (pc := 56) hx [.int (oI v3_8)] [.int (oI r9), .int (oI v2)] (ev_J6_bitCount_0f7a4 F v3_8 w) sm_J6_bitCount_0f7a4 g852 dX6_pairsApartWithout_56 rfl rfl (Nat.le_of_ble_eq_true rfl) (Nat.le_of_ble_eq_true rfl) (Nat.le_of_ble_eq_true rfl) (fun r10 => ?_)
  refine I_imul (pc := 59) hx dX6_pairsApartWithout_59 ?_
  refine I_iadd (pc := 60) hx dX6_pairsApartWithout_60 ?_
  refine I_ltv (fun v2_11 => ?_)
  refine E_istore_n (pc := 61) hx dX6_pairsApartWithout_61 rfl (Nat.le_of_ble_eq_true rfl) rfl ?_
  refine I_iinc (pc := 62) hx 1 5 dX6_pairsApartWithout_62 rfl (Nat.le_of_ble_eq_true rfl) rfl ?_
  refine E_goto (pc := 65) hx 14 dX6_pairsApartWithout_65 rfl ?_
  refine En.sub [4, 5, 1, 2, 0] rfl ?_
  exact hk14 v2_11 v3_8 (v4 + 1)
theorem l_X6_pairsApartWithout_b14 {x : Cx} (F : Nat) (a0 : Nat) (h0 : shK a0 = 10 + 2) (p1 : Int) (w : aI) (hx : CxOK x RX6 cX6_pairsApartWithout 6 2 0 (some .int))  : ∀ (n : Nat) (v2 : Int) (v3 : Int) (v4 : Int), En x (jvI w) 0 0 14 [(0, .ref a0), (1, .int (oI p1)), (2, .int (oI v2)), (3, .int (oI v3)), (4, .int (oI v4))] [] (cm w) (f_X6_pairsApartWithout_b14 F a0 p1 w  n v2 v3 v4) := by
  intro n
  induction n with
  | zero => intro v2 v3 v4; exact E_none
  | succ n ih => intro v2 v3 v4; exact l_X6_pairsApartWithout_b14_b F a0 h0 p1 w hx  _ ih v2 v3 v4
set_option maxHeartbeats 4000000 in
set_option maxRecDepth 100000 in
theorem ev_X6_pairsApartWithout (F : Nat) (a0 : Nat) (h0 : shK a0 = 10 + 2) (p1 : Int) (w : aI) : Ev yX6_pairsApartWithout cX6_pairsApartWithout 6 (some .int) 2 0 (jvI w) [.ref a0, .int (oI p1)] (cm w) (f_X6_pairsApartWithout F a0 p1 w) := by
  refine Ev.of (own := RX6) (by decide +kernel) rfl (Nat.le_of_ble_eq_true rfl) (fun x hx => ?_)
  show En x (jvI w) 0 0 0 [(0, .ref a0), (1, .int (oI p1))] [] (cm w) _
  unfold f_X6_pairsApartWithout
  refine I_iconst (pc := 0) hx 0 dX6_pairsApartWithout_0 ?_
  refine E_istore_n (pc := 1) hx dX6_pairsApartWithout_1 rfl (Nat.le_of_ble_eq_true rfl) rfl ?_
  refine I_iconst (pc := 2) hx 1 dX6_pairsApartWithout_2 ?_
  refine E_aload_n (pc := 3) hx 1 dX6_pairsApartWithout_3 rfl rfl ?_
  refine I_getI (pc := 4) hx 1 1 rfl fc2 h0 rfl ⟨rfl, rfl, rfl⟩ g209 dX6_pairsApartWithout_4 ?_
  refine E_gd (fun hs1 => ?_)
  refine I_ishl (pc := 7) hx dX6_pairsApartWithout_7 hs1 ?_
  refine I_iconst (pc := 8) hx 1 dX6_pairsApartWithout_8 ?_
  refine I_isub (pc := 9) hx dX6_pairsApartWithout_9 ?_
  refine I_ltv (fun v3_2 => ?_)
  refine E_istore_n (pc := 10) hx dX6_pairsApartWithout_10 rfl (Nat.le_of_ble_eq_true rfl) rfl ?_
  refine I_iconst (pc := 11) hx 0 dX6_pairsApartWithout_11 ?_
  refine E_istore (pc := 12) hx dX6_pairsApartWithout_12 (Nat.le_of_ble_eq_true rfl) rfl ?_
  refine En.sub [3, 4, 2, 1, 0] rfl ?_
  exact l_X6_pairsApartWithout_b14 F a0 h0 p1 w hx F 0 v3_2 0
set_option maxHeartbeats 4000000 in
set_option maxRecDepth 100000 in
theorem l_X6_mostNeededWay_b6_b {x : Cx} (F : Nat) (a0 : Nat) (h0 : shK a0 = 10 + 2) (w : aI) (hx : CxOK x RX6 cX6_mostNeededWay 5 3 0 (some .int))  (k6 : Int → Int → Int → Option Int) (hk6 : ∀ (v1 : Int) (v2 : Int) (v3 : Int), En x (jvI w) 0 0 6 [(0, .ref a0), (1, .int (oI v1)), (2, .int (oI v2)), (3, .int (oI v3))] [] (cm w) (k6 v1 v2 v3)) (v1 : Int) (v2 : Int) (v3 : Int)  : En x (jvI w) 0 0 6 [(0, .ref a0), (1, .int (oI v1)), (2, .int (oI v2)), (3, .int (oI v3))] [] (cm w) (f_X6_mostNeededWay_b6_b F a0 w  k6 v1 v2 v3) := by
  unfold f_X6_mostNeededWay_b6_b
  refine E_iload_n (pc := 6) hx 3 dX6_mostNeededWay_6 rfl rfl ?_
  refine E_aload_n (pc := 7) hx 0 dX6_mostNeededWay_7 rfl rfl ?_
  refine I_getI (pc := 8) hx 2 2 rfl fc2 h0 rfl ⟨rfl, rfl, rfl⟩ g215 dX6_mostNeededWay_8 ?_
  refine E_gd (fun hr1 => ?_)
  refine I_icmp_ge (pc := 11) hx 38 dX6_mostNeededWay_11 rfl ⟨hr1.1, hr1.2⟩ ?_ ?_
  · refine E_iload_n (pc := 38) hx 1 dX6_mostNeededWay_38 rfl rfl ?_
    exact E_iret (pc := 39) hx dX6_mostNeededWay_39 rfl rfl (Nat.le_of_ble_eq_true rfl)
  refine E_aload_n (pc := 14) hx 0 dX6_mostNeededWay_14 rfl rfl ?_
  refine E_iload_n (pc := 15) hx 3 dX6_mostNeededWay_15 rfl rfl ?_
  refine I_cSI  (pc := 16) hx [.ref a0, .int (oI v3)] [] (ev_X6_pairsApartWithout F a0 h0 v3 w) sm_X6_pairsApartWithout g845 dX6_mostNeededWay_16 rfl rfl (Nat.le_of_ble_eq_true rfl) (Nat.le_of_ble_eq_true rfl) (Nat.le_of_ble_eq_true rfl) (fun r2 => ?_)
  refine E_istore (pc := 19) hx dX6_mostNeededWay_19 (Nat.le_of_ble_eq_true rfl) rfl ?_
  refine E_iload (pc := 21) hx 0 dX6_mostNeededWay_21 rfl ?_
  refine E_iload_n (pc := 23) hx 3 dX6_mostNeededWay_23 rfl rfl ?_
  refine E_gd (fun hr3 => ?_)
  refine I_icmp_le (pc := 24) hx 32 dX6_mostNeededWay_24 rfl ⟨hr3.1, hr3.2⟩ ?_ ?_
  · refine I_iinc (pc := 32) hx 1 4 dX6_mostNeededWay_32 rfl (Nat.le_of_ble_eq_true rfl) rfl ?_
    refine E_goto (pc := 35) hx 6 dX6_mostNeededWay_35 rfl ?_
    refine En.sub [2, 3, 4, 0] rfl ?_
    exact hk6 v1 v2 (v3 + 1)
  refine E_iload (pc := 27) hx 0 dX6_mostNeededWay_27 rfl ?_
  refine E_istore_n (pc := 29) hx dX6_mostNeededWay_29 rfl (Nat.le_of_ble_eq_true rfl) rfl ?_
  refine E_iload_n (pc := 30) hx 4 dX6_mostNeededWay_30 rfl rfl ?_
  refine E_istore_n (pc := 31) hx dX6_mostNeededWay_31 rfl (Nat.le_of_ble_eq_true rfl) rfl ?_
  refine I_iinc (pc := 32) hx 1 4 dX6_mostNeededWay_32 rfl (Nat.le_of_ble_eq_true rfl) rfl ?_
  refine E_goto (pc := 35) hx 6 dX6_mostNeededWay_35 rfl ?_
  refine En.sub [4, 1, 2, 0] rfl ?_
  exact hk6 v3 r2 (v3 + 1)
theorem l_X6_mostNeededWay_b6 {x : Cx} (F : Nat) (a0 : Nat) (h0 : shK a0 = 10 + 2) (w : aI) (hx : CxOK x RX6 cX6_mostNeededWay 5 3 0 (some .int))  : ∀ (n : Nat) (v1 : Int) (v2 : Int) (v3 : Int), En x (jvI w) 0 0 6 [(0, .ref a0), (1, .int (oI v1)), (2, .int (oI v2)), (3, .int (oI v3))] [] (cm w) (f_X6_mostNeededWay_b6 F a0 w  n v1 v2 v3) := by
  intro n
  induction n with
  | zero => intro v1 v2 v3; exact E_none
  | succ n ih => intro v1 v2 v3; exact l_X6_mostNeededWay_b6_b F a0 h0 w hx  _ ih v1 v2 v3
set_option maxHeartbeats 4000000 in
set_option maxRecDepth 100000 in
theorem ev_X6_mostNeededWay (F : Nat) (a0 : Nat) (h0 : shK a0 = 10 + 2) (w : aI) : Ev yX6_mostNeededWay cX6_mostNeededWay 5 (some .int) 3 0 (jvI w) [.ref a0] (cm w) (f_X6_mostNeededWay F a0 w) := by
  refine Ev.of (own := RX6) (by decide +kernel) rfl (Nat.le_of_ble_eq_true rfl) (fun x hx => ?_)
  show En x (jvI w) 0 0 0 [(0, .ref a0)] [] (cm w) _
  unfold f_X6_mostNeededWay
  refine I_iconst (pc := 0) hx (-1) dX6_mostNeededWay_0 ?_
  refine E_istore_n (pc := 1) hx dX6_mostNeededWay_1 rfl (Nat.le_of_ble_eq_true rfl) rfl ?_
  refine I_iconst (pc := 2) hx (-1) dX6_mostNeededWay_2 ?_
  refine E_istore_n (pc := 3) hx dX6_mostNeededWay_3 rfl (Nat.le_of_ble_eq_true rfl) rfl ?_
  refine I_iconst (pc := 4) hx 0 dX6_mostNeededWay_4 ?_
  refine E_istore_n (pc := 5) hx dX6_mostNeededWay_5 rfl (Nat.le_of_ble_eq_true rfl) rfl ?_
  refine En.sub [3, 2, 1, 0] rfl ?_
  exact l_X6_mostNeededWay_b6 F a0 h0 w hx F (-1) (-1) 0
set_option maxHeartbeats 4000000 in
set_option maxRecDepth 100000 in
theorem l_X6_areTunesRight_b2_b {x : Cx} (F : Nat) (a0 : Nat) (h0 : shK a0 = 10 + 2) (w : aI) (hx : CxOK x RX6 cX6_areTunesRight 4 1 0 (some .boolean))  (k2 : Int → Option Bool) (hk2 : ∀ (v1 : Int), En x (jvB w) 0 0 2 [(0, .ref a0), (1, .int (oI v1))] [] (cm w) (k2 v1)) (v1 : Int)  : En x (jvB w) 0 0 2 [(0, .ref a0), (1, .int (oI v1))] [] (cm w) (f_X6_areTunesRight_b2_b F a0 w  k2 v1) := by
  unfold f_X6_areTunesRight_b2_b
  refine E_iload_n (pc := 2) hx 1 dX6_areTunesRight_2 rfl rfl ?_
  refine E_aload_n (pc := 3) hx 0 dX6_areTunesRight_3 rfl rfl ?_
  refine I_getI (pc := 4) hx 3 3 rfl fc2 h0 rfl ⟨rfl, rfl, rfl⟩ g220 dX6_areTunesRight_4 ?_
  refine E_gd (fun hr1 => ?_)
  refine I_icmp_ge (pc := 7) hx 79 dX6_areTunesRight_7 rfl ⟨hr1.1, hr1.2⟩ ?_ ?_
  · refine I_iconst (pc := 79) hx 1 dX6_areTunesRight_79 ?_
    exact E_zret (pc := 80) hx dX6_areTunesRight_80 rfl rfl rfl (Nat.le_of_ble_eq_true rfl)
  refine E_aload_n (pc := 10) hx 0 dX6_areTunesRight_10 rfl rfl ?_
  refine E_getR (pc := 11) hx 6 fc2 h0 rfl ⟨rfl, rfl, rfl⟩ g230 dX6_areTunesRight_11 ?_
  refine E_iload_n (pc := 14) hx 1 dX6_areTunesRight_14 rfl rfl ?_
  refine I_iconst (pc := 15) hx 3 dX6_areTunesRight_15 ?_
  refine I_cVI  (pc := 16) hx [.int (oI v1), .int (oI 3)] [] (ev_X7_get F (shR a0 6) (kt_2_6 h0) v1 3 w) vm_X7_get fc6 (kt_2_6 h0) g851 dX6_areTunesRight_16 rfl rfl (Nat.le_of_ble_eq_true rfl) (Nat.le_of_ble_eq_true rfl) (Nat.le_of_ble_eq_true rfl) (fun r2 => ?_)
  refine E_istore_n (pc := 19) hx dX6_areTunesRight_19 rfl (Nat.le_of_ble_eq_true rfl) rfl ?_
  refine E_aload_n (pc := 20) hx 1 dX6_areTunesRight_20 rfl rfl ?_
  refine E_getR (pc := 21) hx 6 fc2 h0 rfl ⟨rfl, rfl, rfl⟩ g230 dX6_areTunesRight_21 ?_
  refine E_iload_n (pc := 24) hx 2 dX6_areTunesRight_24 rfl rfl ?_
  refine I_iconst (pc := 25) hx 4 dX6_areTunesRight_25 ?_
  refine I_cVI  (pc := 26) hx [.int (oI v1), .int (oI 4)] [] (ev_X7_get F (shR a0 6) (kt_2_6 h0) v1 4 w) vm_X7_get fc6 (kt_2_6 h0) g851 dX6_areTunesRight_26 rfl rfl (Nat.le_of_ble_eq_true rfl) (Nat.le_of_ble_eq_true rfl) (Nat.le_of_ble_eq_true rfl) (fun r3 => ?_)
  refine E_istore_n (pc := 29) hx dX6_areTunesRight_29 rfl (Nat.le_of_ble_eq_true rfl) rfl ?_
  refine E_iload_n (pc := 30) hx 1 dX6_areTunesRight_30 rfl rfl ?_
  refine E_gd (fun hr4 => ?_)
  refine I_if_lt (pc := 31) hx 51 dX6_areTunesRight_31 rfl hr4 ?_ ?_
  · refine I_iconst (pc := 51) hx 0 dX6_areTunesRight_51 ?_
    exact E_zret (pc := 52) hx dX6_areTunesRight_52 rfl rfl rfl (Nat.le_of_ble_eq_true rfl)
  refine E_iload_n (pc := 34) hx 1 dX6_areTunesRight_34 rfl rfl ?_
  refine I_iconst (pc := 35) hx 3 dX6_areTunesRight_35 ?_
  refine I_icmp_gt (pc := 36) hx 51 dX6_areTunesRight_36 rfl ⟨hr4, (by decide)⟩ ?_ ?_
  · refine I_iconst (pc := 51) hx 0 dX6_areTunesRight_51 ?_
    exact E_zret (pc := 52) hx dX6_areTunesRight_52 rfl rfl rfl (Nat.le_of_ble_eq_true rfl)
  refine E_iload_n (pc := 39) hx 0 dX6_areTunesRight_39 rfl rfl ?_
  refine E_gd (fun hr5 => ?_)
  refine I_if_lt (pc := 40) hx 51 dX6_areTunesRight_40 rfl hr5 ?_ ?_
  · refine I_iconst (pc := 51) hx 0 dX6_areTunesRight_51 ?_
    exact E_zret (pc := 52) hx dX6_areTunesRight_52 rfl rfl rfl (Nat.le_of_ble_eq_true rfl)
  refine E_iload_n (pc := 43) hx 0 dX6_areTunesRight_43 rfl rfl ?_
  refine E_aload_n (pc := 44) hx 2 dX6_areTunesRight_44 rfl rfl ?_
  refine I_getI (pc := 45) hx 1 1 rfl fc2 h0 rfl ⟨rfl, rfl, rfl⟩ g209 dX6_areTunesRight_45 ?_
  refine E_gd (fun hr6 => ?_)
  refine I_icmp_lt (pc := 48) hx 53 dX6_areTunesRight_48 rfl ⟨hr5, hr6⟩ ?_ ?_
  · refine E_iload_n (pc := 53) hx 1 dX6_areTunesRight_53 rfl rfl ?_
    refine I_iconst (pc := 54) hx 2 dX6_areTunesRight_54 ?_
    refine I_icmp_ne (pc := 55) hx 73 dX6_areTunesRight_55 rfl ⟨hr4, (by decide)⟩ ?_ ?_
    · refine I_iinc (pc := 73) hx 1 3 dX6_areTunesRight_73 rfl (Nat.le_of_ble_eq_true rfl) rfl ?_
      refine E_goto (pc := 76) hx 2 dX6_areTunesRight_76 rfl ?_
      refine En.sub [3, 0] rfl ?_
      exact hk2 (v1 + 1)
    refine E_iload_n (pc := 58) hx 0 dX6_areTunesRight_58 rfl rfl ?_
    refine E_aload_n (pc := 59) hx 2 dX6_areTunesRight_59 rfl rfl ?_
    refine E_getR (pc := 60) hx 6 fc2 h0 rfl ⟨rfl, rfl, rfl⟩ g230 dX6_areTunesRight_60 ?_
    refine E_iload_n (pc := 63) hx 3 dX6_areTunesRight_63 rfl rfl ?_
    refine I_iconst (pc := 64) hx 1 dX6_areTunesRight_64 ?_
    refine I_cVI  (pc := 65) hx [.int (oI v1), .int (oI 1)] [.int (oI r3)] (ev_X7_get F (shR a0 6) (kt_2_6 h0) v1 1 w) vm_X7_get fc6 (kt_2_6 h0) g851 dX6_areTunesRight_65 rfl rfl (Nat.le_of_ble_eq_true rfl) (Nat.le_of_ble_eq_true rfl) (Nat.le_of_ble_eq_true rfl) (fun r7 => ?_)
    refine E_gd (fun hr8 => ?_)
    refine I_icmp_eq (pc := 68) hx 73 dX6_areTunesRight_68 rfl ⟨hr5, hr8⟩ ?_ ?_
    · refine I_iinc (pc := 73) hx 1 3 dX6_areTunesRight_73 rfl (Nat.le_of_ble_eq_true rfl) rfl ?_
      refine E_goto (pc := 76) hx 2 dX6_areTunesRight_76 rfl ?_
      refine En.sub [3, 0] rfl ?_
      exact hk2 (v1 + 1)
    refine I_iconst (pc := 71) hx 0 dX6_areTunesRight_71 ?_
    exact E_zret (pc := 72) hx dX6_areTunesRight_72 rfl rfl rfl (Nat.le_of_ble_eq_true rfl)
  refine I_iconst (pc := 51) hx 0 dX6_areTunesRight_51 ?_
  exact E_zret (pc := 52) hx dX6_areTunesRight_52 rfl rfl rfl (Nat.le_of_ble_eq_true rfl)
theorem l_X6_areTunesRight_b2 {x : Cx} (F : Nat) (a0 : Nat) (h0 : shK a0 = 10 + 2) (w : aI) (hx : CxOK x RX6 cX6_areTunesRight 4 1 0 (some .boolean))  : ∀ (n : Nat) (v1 : Int), En x (jvB w) 0 0 2 [(0, .ref a0), (1, .int (oI v1))] [] (cm w) (f_X6_areTunesRight_b2 F a0 w  n v1) := by
  intro n
  induction n with
  | zero => intro v1; exact E_none
  | succ n ih => intro v1; exact l_X6_areTunesRight_b2_b F a0 h0 w hx  _ ih v1
set_option maxHeartbeats 4000000 in
set_option maxRecDepth 100000 in
theorem ev_X6_areTunesRight (F : Nat) (a0 : Nat) (h0 : shK a0 = 10 + 2) (w : aI) : Ev yX6_areTunesRight cX6_areTunesRight 4 (some .boolean) 1 0 (jvB w) [.ref a0] (cm w) (f_X6_areTunesRight F a0 w) := by
  refine Ev.of (own := RX6) (by decide +kernel) rfl (Nat.le_of_ble_eq_true rfl) (fun x hx => ?_)
  show En x (jvB w) 0 0 0 [(0, .ref a0)] [] (cm w) _
  unfold f_X6_areTunesRight
  refine I_iconst (pc := 0) hx 0 dX6_areTunesRight_0 ?_
  refine E_istore_n (pc := 1) hx dX6_areTunesRight_1 rfl (Nat.le_of_ble_eq_true rfl) rfl ?_
  refine En.sub [1, 0] rfl ?_
  exact l_X6_areTunesRight_b2 F a0 h0 w hx F 0
set_option maxHeartbeats 4000000 in
set_option maxRecDepth 100000 in
theorem l_X6_areAccountsRight_b35_b {x : Cx} (F : Nat) (a0 : Nat) (h0 : shK a0 = 10 + 2) (w : aI) (hx : CxOK x RX6 cX6_areAccountsRight 4 2 0 (some .boolean))  (k35 : Int → Int → Int → Option Bool) (hk35 : ∀ (v1 : Int) (v2 : Int) (v3 : Int), En x (jvB w) 0 0 35 [(0, .ref a0), (1, .int (oI v1)), (2, .int (oI v2)), (3, .int (oI v3))] [] (cm w) (k35 v1 v2 v3)) (v1 : Int) (v2 : Int) (v3 : Int)  : En x (jvB w) 0 0 35 [(0, .ref a0), (1, .int (oI v1)), (2, .int (oI v2)), (3, .int (oI v3))] [] (cm w) (f_X6_areAccountsRight_b35_b F a0 w  k35 v1 v2 v3) := by
  unfold f_X6_areAccountsRight_b35_b
  refine E_iload_n (pc := 35) hx 3 dX6_areAccountsRight_35 rfl rfl ?_
  refine E_aload_n (pc := 36) hx 0 dX6_areAccountsRight_36 rfl rfl ?_
  refine I_getI (pc := 37) hx 3 3 rfl fc2 h0 rfl ⟨rfl, rfl, rfl⟩ g220 dX6_areAccountsRight_37 ?_
  refine E_gd (fun hr2 => ?_)
  refine I_icmp_ge (pc := 40) hx 62 dX6_areAccountsRight_40 rfl ⟨hr2.1, hr2.2⟩ ?_ ?_
  · refine E_aload_n (pc := 62) hx 0 dX6_areAccountsRight_62 rfl rfl ?_
    refine E_getR (pc := 63) hx 8 fc2 h0 rfl ⟨rfl, rfl, rfl⟩ g235 dX6_areAccountsRight_63 ?_
    refine I_iconst (pc := 66) hx 0 dX6_areAccountsRight_66 ?_
    refine I_iconst (pc := 67) hx 1 dX6_areAccountsRight_67 ?_
    refine I_cVI  (pc := 68) hx [.int (oI 0), .int (oI 1)] [] (ev_X7_get F (shR a0 8) (kt_2_8 h0) 0 1 w) vm_X7_get fc6 (kt_2_8 h0) g851 dX6_areAccountsRight_68 rfl rfl (Nat.le_of_ble_eq_true rfl) (Nat.le_of_ble_eq_true rfl) (Nat.le_of_ble_eq_true rfl) (fun r3 => ?_)
    refine E_aload_n (pc := 71) hx 0 dX6_areAccountsRight_71 rfl rfl ?_
    refine I_getI (pc := 72) hx 3 3 rfl fc2 h0 rfl ⟨rfl, rfl, rfl⟩ g220 dX6_areAccountsRight_72 ?_
    refine E_gd (fun hr4 => ?_)
    refine I_icmp_ne (pc := 75) hx 171 dX6_areAccountsRight_75 rfl ⟨hr4, hr2.2⟩ ?_ ?_
    · refine I_iconst (pc := 171) hx 0 dX6_areAccountsRight_171 ?_
      exact E_zret (pc := 172) hx dX6_areAccountsRight_172 rfl rfl rfl (Nat.le_of_ble_eq_true rfl)
    refine E_aload_n (pc := 78) hx 0 dX6_areAccountsRight_78 rfl rfl ?_
    refine E_getR (pc := 79) hx 8 fc2 h0 rfl ⟨rfl, rfl, rfl⟩ g235 dX6_areAccountsRight_79 ?_
    refine I_iconst (pc := 82) hx 0 dX6_areAccountsRight_82 ?_
    refine I_iconst (pc := 83) hx 5 dX6_areAccountsRight_83 ?_
    refine I_cVI  (pc := 84) hx [.int (oI 0), .int (oI 5)] [] (ev_X7_get F (shR a0 8) (kt_2_8 h0) 0 5 w) vm_X7_get fc6 (kt_2_8 h0) g851 dX6_areAccountsRight_84 rfl rfl (Nat.le_of_ble_eq_true rfl) (Nat.le_of_ble_eq_true rfl) (Nat.le_of_ble_eq_true rfl) (fun r5 => ?_)
    refine E_aload_n (pc := 87) hx 0 dX6_areAccountsRight_87 rfl rfl ?_
    refine I_iconst (pc := 88) hx 2 dX6_areAccountsRight_88 ?_
    refine I_cVI  (pc := 89) hx [.int (oI 2)] [.int (oI r5)] (ev_X2_tunesIn F a0 h0 2 w) vm_X2_tunesIn fc2 h0 g876 dX6_areAccountsRight_89 rfl rfl (Nat.le_of_ble_eq_true rfl) (Nat.le_of_ble_eq_true rfl) (Nat.le_of_ble_eq_true rfl) (fun r6 => ?_)
    refine E_gd (fun hr7 => ?_)
    refine I_icmp_ne (pc := 92) hx 171 dX6_areAccountsRight_92 rfl ⟨hr7.1, hr7.2⟩ ?_ ?_
    · refine I_iconst (pc := 171) hx 0 dX6_areAccountsRight_171 ?_
      exact E_zret (pc := 172) hx dX6_areAccountsRight_172 rfl rfl rfl (Nat.le_of_ble_eq_true rfl)
    refine E_aload_n (pc := 95) hx 0 dX6_areAccountsRight_95 rfl rfl ?_
    refine E_getR (pc := 96) hx 8 fc2 h0 rfl ⟨rfl, rfl, rfl⟩ g235 dX6_areAccountsRight_96 ?_
    refine I_iconst (pc := 99) hx 0 dX6_areAccountsRight_99 ?_
    refine I_bipush (pc := 100) hx 8 dX6_areAccountsRight_100 rfl ?_
    refine I_cVI  (pc := 102) hx [.int (oI 0), .int (oI 8)] [] (ev_X7_get F (shR a0 8) (kt_2_8 h0) 0 8 w) vm_X7_get fc6 (kt_2_8 h0) g851 dX6_areAccountsRight_102 rfl rfl (Nat.le_of_ble_eq_true rfl) (Nat.le_of_ble_eq_true rfl) (Nat.le_of_ble_eq_true rfl) (fun r8 => ?_)
    refine E_aload_n (pc := 105) hx 0 dX6_areAccountsRight_105 rfl rfl ?_
    refine I_iconst (pc := 106) hx 3 dX6_areAccountsRight_106 ?_
    refine I_cVI  (pc := 107) hx [.int (oI 3)] [.int (oI r8)] (ev_X2_tunesIn F a0 h0 3 w) vm_X2_tunesIn fc2 h0 g876 dX6_areAccountsRight_107 rfl rfl (Nat.le_of_ble_eq_true rfl) (Nat.le_of_ble_eq_true rfl) (Nat.le_of_ble_eq_true rfl) (fun r9 => ?_)
    refine E_gd (fun hr10 => ?_)
    refine I_icmp_ne (pc := 110) hx 171 dX6_areAccountsRight_110 rfl ⟨hr10.1, hr10.2⟩ ?_ ?_
    · refine I_iconst (pc := 171) hx 0 dX6_areAccountsRight_171 ?_
      exact E_zret (pc := 172) hx dX6_areAccountsRight_172 rfl rfl rfl (Nat.le_of_ble_eq_true rfl)
    refine E_aload_n (pc := 113) hx 0 dX6_areAccountsRight_113 rfl rfl ?_
    refine I_cVI  (pc := 114) hx [] [] (ev_X2_pursesTogether F a0 h0 w) vm_X2_pursesTogether fc2 h0 g880 dX6_areAccountsRight_114 rfl rfl (Nat.le_of_ble_eq_true rfl) (Nat.le_of_ble_eq_true rfl) (Nat.le_of_ble_eq_true rfl) (fun r11 => ?_)
    refine E_iload_n (pc := 117) hx 1 dX6_areAccountsRight_117 rfl rfl ?_
    refine E_aload_n (pc := 118) hx 0 dX6_areAccountsRight_118 rfl rfl ?_
    refine E_getR (pc := 119) hx 8 fc2 h0 rfl ⟨rfl, rfl, rfl⟩ g235 dX6_areAccountsRight_119 ?_
    refine I_iconst (pc := 122) hx 0 dX6_areAccountsRight_122 ?_
    refine I_bipush (pc := 123) hx 10 dX6_areAccountsRight_123 rfl ?_
    refine I_cVI  (pc := 125) hx [.int (oI 0), .int (oI 10)] [.int (oI v1), .int (oI r11)] (ev_X7_get F (shR a0 8) (kt_2_8 h0) 0 10 w) vm_X7_get fc6 (kt_2_8 h0) g851 dX6_areAccountsRight_125 rfl rfl (Nat.le_of_ble_eq_true rfl) (Nat.le_of_ble_eq_true rfl) (Nat.le_of_ble_eq_true rfl) (fun r12 => ?_)
    refine I_iadd (pc := 128) hx dX6_areAccountsRight_128 ?_
    refine E_gd (fun hr13 => ?_)
    refine I_icmp_ne (pc := 129) hx 171 dX6_areAccountsRight_129 rfl ⟨hr13.1, hr13.2⟩ ?_ ?_
    · refine I_iconst (pc := 171) hx 0 dX6_areAccountsRight_171 ?_
      exact E_zret (pc := 172) hx dX6_areAccountsRight_172 rfl rfl rfl (Nat.le_of_ble_eq_true rfl)
    refine E_aload_n (pc := 132) hx 0 dX6_areAccountsRight_132 rfl rfl ?_
    refine E_getR (pc := 133) hx 8 fc2 h0 rfl ⟨rfl, rfl, rfl⟩ g235 dX6_areAccountsRight_133 ?_
    refine I_iconst (pc := 136) hx 0 dX6_areAccountsRight_136 ?_
    refine I_iconst (pc := 137) hx 3 dX6_areAccountsRight_137 ?_
    refine I_cVI  (pc := 138) hx [.int (oI 0), .int (oI 3)] [] (ev_X7_get F (shR a0 8) (kt_2_8 h0) 0 3 w) vm_X7_get fc6 (kt_2_8 h0) g851 dX6_areAccountsRight_138 rfl rfl (Nat.le_of_ble_eq_true rfl) (Nat.le_of_ble_eq_true rfl) (Nat.le_of_ble_eq_true rfl) (fun r14 => ?_)
    refine E_iload_n (pc := 141) hx 2 dX6_areAccountsRight_141 rfl rfl ?_
    refine E_gd (fun hr15 => ?_)
    refine I_icmp_ne (pc := 142) hx 171 dX6_areAccountsRight_142 rfl ⟨hr15.1, hr15.2⟩ ?_ ?_
    · refine I_iconst (pc := 171) hx 0 dX6_areAccountsRight_171 ?_
      exact E_zret (pc := 172) hx dX6_areAccountsRight_172 rfl rfl rfl (Nat.le_of_ble_eq_true rfl)
    refine E_aload_n (pc := 145) hx 0 dX6_areAccountsRight_145 rfl rfl ?_
    refine E_getR (pc := 146) hx 8 fc2 h0 rfl ⟨rfl, rfl, rfl⟩ g235 dX6_areAccountsRight_146 ?_
    refine I_iconst (pc := 149) hx 0 dX6_areAccountsRight_149 ?_
    refine I_bipush (pc := 150) hx 6 dX6_areAccountsRight_150 rfl ?_
    refine I_cVI  (pc := 152) hx [.int (oI 0), .int (oI 6)] [] (ev_X7_get F (shR a0 8) (kt_2_8 h0) 0 6 w) vm_X7_get fc6 (kt_2_8 h0) g851 dX6_areAccountsRight_152 rfl rfl (Nat.le_of_ble_eq_true rfl) (Nat.le_of_ble_eq_true rfl) (Nat.le_of_ble_eq_true rfl) (fun r16 => ?_)
    refine E_aload_n (pc := 155) hx 0 dX6_areAccountsRight_155 rfl rfl ?_
    refine E_getR (pc := 156) hx 8 fc2 h0 rfl ⟨rfl, rfl, rfl⟩ g235 dX6_areAccountsRight_156 ?_
    refine I_iconst (pc := 159) hx 0 dX6_areAccountsRight_159 ?_
    refine I_iconst (pc := 160) hx 5 dX6_areAccountsRight_160 ?_
    refine I_cVI  (pc := 161) hx [.int (oI 0), .int (oI 5)] [.int (oI r16)] (ev_X7_get F (shR a0 8) (kt_2_8 h0) 0 5 w) vm_X7_get fc6 (kt_2_8 h0) g851 dX6_areAccountsRight_161 rfl rfl (Nat.le_of_ble_eq_true rfl) (Nat.le_of_ble_eq_true rfl) (Nat.le_of_ble_eq_true rfl) (fun r17 => ?_)
    refine E_gd (fun hr18 => ?_)
    refine I_icmp_gt (pc := 164) hx 171 dX6_areAccountsRight_164 rfl ⟨hr18.1, hr18.2⟩ ?_ ?_
    · refine I_iconst (pc := 171) hx 0 dX6_areAccountsRight_171 ?_
      exact E_zret (pc := 172) hx dX6_areAccountsRight_172 rfl rfl rfl (Nat.le_of_ble_eq_true rfl)
    refine I_iconst (pc := 167) hx 1 dX6_areAccountsRight_167 ?_
    refine E_goto (pc := 168) hx 172 dX6_areAccountsRight_168 rfl ?_
    exact E_zret (pc := 172) hx dX6_areAccountsRight_172 rfl rfl rfl (Nat.le_of_ble_eq_true rfl)
  refine E_iload_n (pc := 43) hx 2 dX6_areAccountsRight_43 rfl rfl ?_
  refine E_aload_n (pc := 44) hx 0 dX6_areAccountsRight_44 rfl rfl ?_
  refine E_getR (pc := 45) hx 6 fc2 h0 rfl ⟨rfl, rfl, rfl⟩ g230 dX6_areAccountsRight_45 ?_
  refine E_iload_n (pc := 48) hx 3 dX6_areAccountsRight_48 rfl rfl ?_
  refine I_bipush (pc := 49) hx 11 dX6_areAccountsRight_49 rfl ?_
  refine I_cVI  (pc := 51) hx [.int (oI v3), .int (oI 11)] [.int (oI v2)] (ev_X7_get F (shR a0 6) (kt_2_6 h0) v3 11 w) vm_X7_get fc6 (kt_2_6 h0) g851 dX6_areAccountsRight_51 rfl rfl (Nat.le_of_ble_eq_true rfl) (Nat.le_of_ble_eq_true rfl) (Nat.le_of_ble_eq_true rfl) (fun r19 => ?_)
  refine I_iadd (pc := 54) hx dX6_areAccountsRight_54 ?_
  refine I_ltv (fun v2_20 => ?_)
  refine E_istore_n (pc := 55) hx dX6_areAccountsRight_55 rfl (Nat.le_of_ble_eq_true rfl) rfl ?_
  refine I_iinc (pc := 56) hx 1 3 dX6_areAccountsRight_56 rfl (Nat.le_of_ble_eq_true rfl) rfl ?_
  refine E_goto (pc := 59) hx 35 dX6_areAccountsRight_59 rfl ?_
  refine En.sub [2, 3, 1, 0] rfl ?_
  exact hk35 v1 v2_20 (v3 + 1)
theorem l_X6_areAccountsRight_b35 {x : Cx} (F : Nat) (a0 : Nat) (h0 : shK a0 = 10 + 2) (w : aI) (hx : CxOK x RX6 cX6_areAccountsRight 4 2 0 (some .boolean))  : ∀ (n : Nat) (v1 : Int) (v2 : Int) (v3 : Int), En x (jvB w) 0 0 35 [(0, .ref a0), (1, .int (oI v1)), (2, .int (oI v2)), (3, .int (oI v3))] [] (cm w) (f_X6_areAccountsRight_b35 F a0 w  n v1 v2 v3) := by
  intro n
  induction n with
  | zero => intro v1 v2 v3; exact E_none
  | succ n ih => intro v1 v2 v3; exact l_X6_areAccountsRight_b35_b F a0 h0 w hx  _ ih v1 v2 v3
set_option maxHeartbeats 4000000 in
set_option maxRecDepth 100000 in
theorem l_X6_areAccountsRight_b4_b {x : Cx} (F : Nat) (a0 : Nat) (h0 : shK a0 = 10 + 2) (w : aI) (hx : CxOK x RX6 cX6_areAccountsRight 4 2 0 (some .boolean))  (k4 : Int → Int → Option Bool) (hk4 : ∀ (v1 : Int) (v2 : Int), En x (jvB w) 0 0 4 [(0, .ref a0), (1, .int (oI v1)), (2, .int (oI v2))] [] (cm w) (k4 v1 v2)) (v1 : Int) (v2 : Int)  : En x (jvB w) 0 0 4 [(0, .ref a0), (1, .int (oI v1)), (2, .int (oI v2))] [] (cm w) (f_X6_areAccountsRight_b4_b F a0 w  k4 v1 v2) := by
  unfold f_X6_areAccountsRight_b4_b
  refine E_iload_n (pc := 4) hx 2 dX6_areAccountsRight_4 rfl rfl ?_
  refine E_aload_n (pc := 5) hx 0 dX6_areAccountsRight_5 rfl rfl ?_
  refine I_getI (pc := 6) hx 1 1 rfl fc2 h0 rfl ⟨rfl, rfl, rfl⟩ g209 dX6_areAccountsRight_6 ?_
  refine E_gd (fun hr1 => ?_)
  refine I_icmp_ge (pc := 9) hx 31 dX6_areAccountsRight_9 rfl ⟨hr1.1, hr1.2⟩ ?_ ?_
  · refine I_iconst (pc := 31) hx 0 dX6_areAccountsRight_31 ?_
    refine E_istore_n (pc := 32) hx dX6_areAccountsRight_32 rfl (Nat.le_of_ble_eq_true rfl) rfl ?_
    refine I_iconst (pc := 33) hx 0 dX6_areAccountsRight_33 ?_
    refine E_istore_n (pc := 34) hx dX6_areAccountsRight_34 rfl (Nat.le_of_ble_eq_true rfl) rfl ?_
    refine En.sub [2, 3, 1, 0] rfl ?_
    exact l_X6_areAccountsRight_b35 F a0 h0 w hx F v1 0 0
  refine E_iload_n (pc := 12) hx 1 dX6_areAccountsRight_12 rfl rfl ?_
  refine E_aload_n (pc := 13) hx 0 dX6_areAccountsRight_13 rfl rfl ?_
  refine E_getR (pc := 14) hx 4 fc2 h0 rfl ⟨rfl, rfl, rfl⟩ g222 dX6_areAccountsRight_14 ?_
  refine E_iload_n (pc := 17) hx 2 dX6_areAccountsRight_17 rfl rfl ?_
  refine I_bipush (pc := 18) hx 6 dX6_areAccountsRight_18 rfl ?_
  refine I_cVI  (pc := 20) hx [.int (oI v2), .int (oI 6)] [.int (oI v1)] (ev_X7_get F (shR a0 4) (kt_2_4 h0) v2 6 w) vm_X7_get fc6 (kt_2_4 h0) g851 dX6_areAccountsRight_20 rfl rfl (Nat.le_of_ble_eq_true rfl) (Nat.le_of_ble_eq_true rfl) (Nat.le_of_ble_eq_true rfl) (fun r21 => ?_)
  refine I_iadd (pc := 23) hx dX6_areAccountsRight_23 ?_
  refine I_ltv (fun v1_22 => ?_)
  refine E_istore_n (pc := 24) hx dX6_areAccountsRight_24 rfl (Nat.le_of_ble_eq_true rfl) rfl ?_
  refine I_iinc (pc := 25) hx 1 2 dX6_areAccountsRight_25 rfl (Nat.le_of_ble_eq_true rfl) rfl ?_
  refine E_goto (pc := 28) hx 4 dX6_areAccountsRight_28 rfl ?_
  refine En.sub [2, 1, 0] rfl ?_
  exact hk4 v1_22 (v2 + 1)
theorem l_X6_areAccountsRight_b4 {x : Cx} (F : Nat) (a0 : Nat) (h0 : shK a0 = 10 + 2) (w : aI) (hx : CxOK x RX6 cX6_areAccountsRight 4 2 0 (some .boolean))  : ∀ (n : Nat) (v1 : Int) (v2 : Int), En x (jvB w) 0 0 4 [(0, .ref a0), (1, .int (oI v1)), (2, .int (oI v2))] [] (cm w) (f_X6_areAccountsRight_b4 F a0 w  n v1 v2) := by
  intro n
  induction n with
  | zero => intro v1 v2; exact E_none
  | succ n ih => intro v1 v2; exact l_X6_areAccountsRight_b4_b F a0 h0 w hx  _ ih v1 v2
set_option maxHeartbeats 4000000 in
set_option maxRecDepth 100000 in
theorem ev_X6_areAccountsRight (F : Nat) (a0 : Nat) (h0 : shK a0 = 10 + 2) (w : aI) : Ev yX6_areAccountsRight cX6_areAccountsRight 4 (some .boolean) 2 0 (jvB w) [.ref a0] (cm w) (f_X6_areAccountsRight F a0 w) := by
  refine Ev.of (own := RX6) (by decide +kernel) rfl (Nat.le_of_ble_eq_true rfl) (fun x hx => ?_)
  show En x (jvB w) 0 0 0 [(0, .ref a0)] [] (cm w) _
  unfold f_X6_areAccountsRight
  refine I_iconst (pc := 0) hx 0 dX6_areAccountsRight_0 ?_
  refine E_istore_n (pc := 1) hx dX6_areAccountsRight_1 rfl (Nat.le_of_ble_eq_true rfl) rfl ?_
  refine I_iconst (pc := 2) hx 0 dX6_areAccountsRight_2 ?_
  refine E_istore_n (pc := 3) hx dX6_areAccountsRight_3 rfl (Nat.le_of_ble_eq_true rfl) rfl ?_
  refine En.sub [2, 1, 0] rfl ?_
  exact l_X6_areAccountsRight_b4 F a0 h0 w hx F 0 0
set_option maxHeartbeats 4000000 in
set_option maxRecDepth 100000 in
theorem ev_X8_raised (F : Nat) (p0 : Int) (p1 : Int) (w : aI) : Ev yX8_raised cX8_raised 4 (some .int) 1 0 (jvI w) [.int (oI p0), .int (oI p1)] (cm w) (f_X8_raised F p0 p1 w) := by
  refine Ev.of (own := RX8) (by decide +kernel) rfl (Nat.le_of_ble_eq_true rfl) (fun x hx => ?_)
  show En x (jvI w) 0 0 0 [(0, .int (oI p0)), (1, .int (oI p1))] [] (cm w) _
  unfold f_X8_raised
  refine I_iconst (pc := 0) hx 3 dX8_raised_0 ?_
  refine E_iload_n (pc := 1) hx 1 dX8_raised_1 rfl rfl ?_
  refine I_imul (pc := 2) hx dX8_raised_2 ?_
  refine I_ltv (fun v2_1 => ?_)
  refine E_istore_n (pc := 3) hx dX8_raised_3 rfl (Nat.le_of_ble_eq_true rfl) rfl ?_
  refine E_iload_n (pc := 4) hx 1 dX8_raised_4 rfl rfl ?_
  refine E_iload_n (pc := 5) hx 2 dX8_raised_5 rfl rfl ?_
  refine I_cNI  (pc := 6) hx [.int (oI p0), .int (oI p1)] [] (ev_X10_noteOf F p0 p1 w) sm_X10_noteOf hx.xe.2.2.1.1 dX8_raised_6 rfl rfl (Nat.le_of_ble_eq_true rfl) (Nat.le_of_ble_eq_true rfl) (Nat.le_of_ble_eq_true rfl) (fun r2 => ?_)
  refine I_iconst (pc := 9) hx 1 dX8_raised_9 ?_
  refine I_iadd (pc := 10) hx dX8_raised_10 ?_
  refine I_bipush (pc := 11) hx 7 dX8_raised_11 rfl ?_
  refine I_iand (pc := 13) hx dX8_raised_13 ?_
  refine I_ltv (fun v3_3 => ?_)
  refine E_istore_n (pc := 14) hx dX8_raised_14 rfl (Nat.le_of_ble_eq_true rfl) rfl ?_
  refine E_iload_n (pc := 15) hx 2 dX8_raised_15 rfl rfl ?_
  refine I_bipush (pc := 16) hx 7 dX8_raised_16 rfl ?_
  refine E_iload_n (pc := 18) hx 1 dX8_raised_18 rfl rfl ?_
  refine E_gd (fun hs4 => ?_)
  refine I_ishl (pc := 19) hx dX8_raised_19 hs4 ?_
  refine I_iconst (pc := 20) hx (-1) dX8_raised_20 ?_
  refine I_ixor (pc := 21) hx dX8_raised_21 ?_
  refine I_iand (pc := 22) hx dX8_raised_22 ?_
  refine E_iload_n (pc := 23) hx 0 dX8_raised_23 rfl rfl ?_
  refine E_iload_n (pc := 24) hx 1 dX8_raised_24 rfl rfl ?_
  refine E_gd (fun hs5 => ?_)
  refine I_ishl (pc := 25) hx dX8_raised_25 hs5 ?_
  refine I_ior (pc := 26) hx dX8_raised_26 ?_
  exact E_iret (pc := 27) hx dX8_raised_27 rfl rfl (Nat.le_of_ble_eq_true rfl)
set_option maxHeartbeats 4000000 in
set_option maxRecDepth 100000 in
theorem l_X8_land_b85 {x : Cx} (F : Nat) (a0 : Nat) (h0 : shK a0 = 10 + 2) (p1 : Int)  (hx : CxOK x RX8 cX8_land 6 2 0 none)   (v3 : Int) (v4 : Int) (w : aI) : En x jvV 0 0 85 [(0, .ref a0), (1, .int (oI p1)), (3, .int (oI v3)), (4, .int (oI v4))] [] (cm w) (f_X8_land_b85 F a0 p1    v3 v4 w) := by
  unfold f_X8_land_b85
  refine E_aload_n (pc := 85) hx 0 dX8_land_85 rfl rfl ?_
  refine E_getR (pc := 86) hx 6 fc2 h0 rfl ⟨rfl, rfl, rfl⟩ g231 dX8_land_86 ?_
  refine E_iload_n (pc := 89) hx 1 dX8_land_89 rfl rfl ?_
  refine I_bipush (pc := 90) hx 10 dX8_land_90 rfl ?_
  refine E_iload (pc := 92) hx 3 dX8_land_92 rfl ?_
  refine I_cVV  (pc := 94) hx [.int (oI p1), .int (oI 10), .int (oI v4)] [] (ev_X7_put F (shR a0 6) (kt_2_6 h0) p1 10 v4 w) vm_X7_put fc6 (kt_2_6 h0) g755 dX8_land_94 rfl rfl (Nat.le_of_ble_eq_true rfl) (Nat.le_of_ble_eq_true rfl) (Nat.le_of_ble_eq_true rfl) (fun w8 => ?_)
  refine E_aload_n (pc := 97) hx 0 dX8_land_97 rfl rfl ?_
  refine E_getR (pc := 98) hx 6 fc2 h0 rfl ⟨rfl, rfl, rfl⟩ g231 dX8_land_98 ?_
  refine E_iload_n (pc := 101) hx 1 dX8_land_101 rfl rfl ?_
  refine I_iconst (pc := 102) hx 3 dX8_land_102 ?_
  refine I_iconst (pc := 103) hx 0 dX8_land_103 ?_
  refine I_cVV  (pc := 104) hx [.int (oI p1), .int (oI 3), .int (oI 0)] [] (ev_X7_put F (shR a0 6) (kt_2_6 h0) p1 3 0 w8) vm_X7_put fc6 (kt_2_6 h0) g755 dX8_land_104 rfl rfl (Nat.le_of_ble_eq_true rfl) (Nat.le_of_ble_eq_true rfl) (Nat.le_of_ble_eq_true rfl) (fun w9 => ?_)
  refine E_aload_n (pc := 107) hx 0 dX8_land_107 rfl rfl ?_
  refine E_getR (pc := 108) hx 6 fc2 h0 rfl ⟨rfl, rfl, rfl⟩ g231 dX8_land_108 ?_
  refine E_iload_n (pc := 111) hx 1 dX8_land_111 rfl rfl ?_
  refine I_iconst (pc := 112) hx 5 dX8_land_112 ?_
  refine I_iconst (pc := 113) hx (-1) dX8_land_113 ?_
  refine I_cVV  (pc := 114) hx [.int (oI p1), .int (oI 5), .int (oI (-1))] [] (ev_X7_put F (shR a0 6) (kt_2_6 h0) p1 5 (-1) w9) vm_X7_put fc6 (kt_2_6 h0) g755 dX8_land_114 rfl rfl (Nat.le_of_ble_eq_true rfl) (Nat.le_of_ble_eq_true rfl) (Nat.le_of_ble_eq_true rfl) (fun w10 => ?_)
  refine E_aload_n (pc := 117) hx 0 dX8_land_117 rfl rfl ?_
  refine I_iconst (pc := 118) hx 4 dX8_land_118 ?_
  refine E_iload_n (pc := 119) hx 2 dX8_land_119 rfl rfl ?_
  refine I_cVV  (pc := 120) hx [.int (oI 4), .int (oI v3)] [] (ev_X2_enter F a0 h0 4 v3 w10) vm_X2_enter fc2 h0 g729 dX8_land_120 rfl rfl (Nat.le_of_ble_eq_true rfl) (Nat.le_of_ble_eq_true rfl) (Nat.le_of_ble_eq_true rfl) (fun w11 => ?_)
  exact E_vret (pc := 123) hx dX8_land_123 rfl rfl (Nat.le_of_ble_eq_true rfl)
set_option maxHeartbeats 4000000 in
set_option maxRecDepth 100000 in
theorem l_X8_land_b56_b {x : Cx} (F : Nat) (a0 : Nat) (h0 : shK a0 = 10 + 2) (p1 : Int)  (hx : CxOK x RX8 cX8_land 6 2 0 none)  (k56 : Int → Int → Int → Int → aI → Option aI) (hk56 : ∀ (v2 : Int) (v3 : Int) (v4 : Int) (v5 : Int) (w : aI), En x jvV 0 0 56 [(0, .ref a0), (1, .int (oI p1)), (2, .int (oI v2)), (3, .int (oI v3)), (4, .int (oI v4)), (5, .int (oI v5))] [] (cm w) (k56 v2 v3 v4 v5 w)) (v2 : Int) (v3 : Int) (v4 : Int) (v5 : Int) (w : aI) : En x jvV 0 0 56 [(0, .ref a0), (1, .int (oI p1)), (2, .int (oI v2)), (3, .int (oI v3)), (4, .int (oI v4)), (5, .int (oI v5))] [] (cm w) (f_X8_land_b56_b F a0 p1   k56 v2 v3 v4 v5 w) := by
  unfold f_X8_land_b56_b
  refine E_iload (pc := 56) hx 5 dX8_land_56 rfl ?_
  refine E_iload_n (pc := 58) hx 3 dX8_land_58 rfl rfl ?_
  refine E_gd (fun hr7 => ?_)
  refine I_icmp_ge (pc := 59) hx 85 dX8_land_59 rfl ⟨hr7.1, hr7.2⟩ ?_ ?_
  · refine En.sub [0, 1, 3, 4] rfl ?_
    exact l_X8_land_b85 F a0 h0 p1 hx v3 v4 w
  refine E_iload_n (pc := 62) hx 2 dX8_land_62 rfl rfl ?_
  refine E_gd (fun hr12 => ?_)
  refine I_if_le (pc := 63) hx 85 dX8_land_63 rfl hr12 ?_ ?_
  · refine En.sub [0, 1, 3, 4] rfl ?_
    exact l_X8_land_b85 F a0 h0 p1 hx v3 v4 w
  refine E_iload (pc := 66) hx 4 dX8_land_66 rfl ?_
  refine E_iload_n (pc := 68) hx 1 dX8_land_68 rfl rfl ?_
  refine E_iload (pc := 69) hx 5 dX8_land_69 rfl ?_
  refine I_iadd (pc := 71) hx dX8_land_71 ?_
  refine E_iload_n (pc := 72) hx 2 dX8_land_72 rfl rfl ?_
  refine E_gd (fun hr13 => ?_)
  refine E_gd (fun hd14 => ?_)
  refine I_irem (pc := 73) hx dX8_land_73 ⟨hr13, hr12, hd14⟩ ?_
  refine I_cSI  (pc := 74) hx [.int (oI v4), .int (oI (Int.tmod (p1 + v5) v2))] [] (ev_X8_raised F v4 (Int.tmod (p1 + v5) v2) w) sm_X8_raised g749 dX8_land_74 rfl rfl (Nat.le_of_ble_eq_true rfl) (Nat.le_of_ble_eq_true rfl) (Nat.le_of_ble_eq_true rfl) (fun r15 => ?_)
  refine E_istore (pc := 77) hx dX8_land_77 (Nat.le_of_ble_eq_true rfl) rfl ?_
  refine I_iinc (pc := 79) hx 1 5 dX8_land_79 rfl (Nat.le_of_ble_eq_true rfl) rfl ?_
  refine E_goto (pc := 82) hx 56 dX8_land_82 rfl ?_
  refine En.sub [2, 3, 4, 5, 1, 0] rfl ?_
  exact hk56 v2 v3 r15 (v5 + 1) w
theorem l_X8_land_b56 {x : Cx} (F : Nat) (a0 : Nat) (h0 : shK a0 = 10 + 2) (p1 : Int)  (hx : CxOK x RX8 cX8_land 6 2 0 none)  : ∀ (n : Nat) (v2 : Int) (v3 : Int) (v4 : Int) (v5 : Int) (w : aI), En x jvV 0 0 56 [(0, .ref a0), (1, .int (oI p1)), (2, .int (oI v2)), (3, .int (oI v3)), (4, .int (oI v4)), (5, .int (oI v5))] [] (cm w) (f_X8_land_b56 F a0 p1   n v2 v3 v4 v5 w) := by
  intro n
  induction n with
  | zero => intro v2 v3 v4 v5 w; exact E_none
  | succ n ih => intro v2 v3 v4 v5 w; exact l_X8_land_b56_b F a0 h0 p1  hx  _ ih v2 v3 v4 v5 w
set_option maxHeartbeats 4000000 in
set_option maxRecDepth 100000 in
theorem ev_X8_land (F : Nat) (a0 : Nat) (h0 : shK a0 = 10 + 2) (p1 : Int) (w : aI) : Ev yX8_land cX8_land 6 none 2 0 jvV [.ref a0, .int (oI p1)] (cm w) (f_X8_land F a0 p1 w) := by
  refine Ev.of (own := RX8) (by decide +kernel) rfl (Nat.le_of_ble_eq_true rfl) (fun x hx => ?_)
  show En x jvV 0 0 0 [(0, .ref a0), (1, .int (oI p1))] [] (cm w) _
  unfold f_X8_land
  refine E_aload_n (pc := 0) hx 0 dX8_land_0 rfl rfl ?_
  refine E_getR (pc := 1) hx 6 fc2 h0 rfl ⟨rfl, rfl, rfl⟩ g231 dX8_land_1 ?_
  refine E_iload_n (pc := 4) hx 1 dX8_land_4 rfl rfl ?_
  refine I_iconst (pc := 5) hx 2 dX8_land_5 ?_
  refine I_cVI  (pc := 6) hx [.int (oI p1), .int (oI 2)] [] (ev_X7_get F (shR a0 6) (kt_2_6 h0) p1 2 w) vm_X7_get fc6 (kt_2_6 h0) g733 dX8_land_6 rfl rfl (Nat.le_of_ble_eq_true rfl) (Nat.le_of_ble_eq_true rfl) (Nat.le_of_ble_eq_true rfl) (fun r1 => ?_)
  refine E_istore_n (pc := 9) hx dX8_land_9 rfl (Nat.le_of_ble_eq_true rfl) rfl ?_
  refine E_aload_n (pc := 10) hx 1 dX8_land_10 rfl rfl ?_
  refine E_aload_n (pc := 11) hx 1 dX8_land_11 rfl rfl ?_
  refine E_getR (pc := 12) hx 6 fc2 h0 rfl ⟨rfl, rfl, rfl⟩ g231 dX8_land_12 ?_
  refine E_iload_n (pc := 15) hx 2 dX8_land_15 rfl rfl ?_
  refine I_bipush (pc := 16) hx 12 dX8_land_16 rfl ?_
  refine I_cVI  (pc := 18) hx [.int (oI p1), .int (oI 12)] [.ref a0] (ev_X7_get F (shR a0 6) (kt_2_6 h0) p1 12 w) vm_X7_get fc6 (kt_2_6 h0) g733 dX8_land_18 rfl rfl (Nat.le_of_ble_eq_true rfl) (Nat.le_of_ble_eq_true rfl) (Nat.le_of_ble_eq_true rfl) (fun r2 => ?_)
  refine E_aload_n (pc := 21) hx 1 dX8_land_21 rfl rfl ?_
  refine E_getR (pc := 22) hx 6 fc2 h0 rfl ⟨rfl, rfl, rfl⟩ g231 dX8_land_22 ?_
  refine E_iload_n (pc := 25) hx 2 dX8_land_25 rfl rfl ?_
  refine I_iconst (pc := 26) hx 4 dX8_land_26 ?_
  refine I_cVI  (pc := 27) hx [.int (oI p1), .int (oI 4)] [.int (oI r2), .ref a0] (ev_X7_get F (shR a0 6) (kt_2_6 h0) p1 4 w) vm_X7_get fc6 (kt_2_6 h0) g733 dX8_land_27 rfl rfl (Nat.le_of_ble_eq_true rfl) (Nat.le_of_ble_eq_true rfl) (Nat.le_of_ble_eq_true rfl) (fun r3 => ?_)
  refine E_iload_n (pc := 30) hx 0 dX8_land_30 rfl rfl ?_
  refine E_aload_n (pc := 31) hx 1 dX8_land_31 rfl rfl ?_
  refine I_bipush (pc := 32) hx 8 dX8_land_32 rfl ?_
  refine I_cVI  (pc := 34) hx [.int (oI 8)] [.int (oI r1), .int (oI r3), .int (oI r2), .ref a0] (ev_X2_setting F a0 h0 8 w) vm_X2_setting fc2 h0 g737 dX8_land_34 rfl rfl (Nat.le_of_ble_eq_true rfl) (Nat.le_of_ble_eq_true rfl) (Nat.le_of_ble_eq_true rfl) (fun r4 => ?_)
  refine I_cVI  (pc := 37) hx [.int (oI r2), .int (oI r3), .int (oI r1), .int (oI r4)] [] (ev_X2_wrongOf F a0 h0 r2 r3 r1 r4 w) vm_X2_wrongOf fc2 h0 g741 dX8_land_37 rfl rfl (Nat.le_of_ble_eq_true rfl) (Nat.le_of_ble_eq_true rfl) (Nat.le_of_ble_eq_true rfl) (fun r5 => ?_)
  refine E_istore_n (pc := 40) hx dX8_land_40 rfl (Nat.le_of_ble_eq_true rfl) rfl ?_
  refine E_aload_n (pc := 41) hx 2 dX8_land_41 rfl rfl ?_
  refine E_getR (pc := 42) hx 6 fc2 h0 rfl ⟨rfl, rfl, rfl⟩ g231 dX8_land_42 ?_
  refine E_iload_n (pc := 45) hx 3 dX8_land_45 rfl rfl ?_
  refine I_bipush (pc := 46) hx 10 dX8_land_46 rfl ?_
  refine I_cVI  (pc := 48) hx [.int (oI p1), .int (oI 10)] [] (ev_X7_get F (shR a0 6) (kt_2_6 h0) p1 10 w) vm_X7_get fc6 (kt_2_6 h0) g733 dX8_land_48 rfl rfl (Nat.le_of_ble_eq_true rfl) (Nat.le_of_ble_eq_true rfl) (Nat.le_of_ble_eq_true rfl) (fun r6 => ?_)
  refine E_istore (pc := 51) hx dX8_land_51 (Nat.le_of_ble_eq_true rfl) rfl ?_
  refine I_iconst (pc := 53) hx 0 dX8_land_53 ?_
  refine E_istore (pc := 54) hx dX8_land_54 (Nat.le_of_ble_eq_true rfl) rfl ?_
  refine En.sub [4, 5, 3, 2, 1, 0] rfl ?_
  exact l_X8_land_b56 F a0 h0 p1 hx F r1 r5 r6 0 w
set_option maxHeartbeats 4000000 in
set_option maxRecDepth 100000 in
theorem l_X8_turned_b4_b {x : Cx} (F : Nat) (p0 : Int) (p1 : Int) (w : aI) (hx : CxOK x RX8 cX8_turned 4 1 0 (some .int))  (k4 : Int → Int → Option Int) (hk4 : ∀ (v2 : Int) (v3 : Int), En x (jvI w) 0 0 4 [(0, .int (oI p0)), (1, .int (oI p1)), (2, .int (oI v2)), (3, .int (oI v3))] [] (cm w) (k4 v2 v3)) (v2 : Int) (v3 : Int)  : En x (jvI w) 0 0 4 [(0, .int (oI p0)), (1, .int (oI p1)), (2, .int (oI v2)), (3, .int (oI v3))] [] (cm w) (f_X8_turned_b4_b F p0 p1 w  k4 v2 v3) := by
  unfold f_X8_turned_b4_b
  refine E_iload_n (pc := 4) hx 3 dX8_turned_4 rfl rfl ?_
  refine E_iload_n (pc := 5) hx 1 dX8_turned_5 rfl rfl ?_
  refine E_gd (fun hr1 => ?_)
  refine I_icmp_ge (pc := 6) hx 25 dX8_turned_6 rfl ⟨hr1.1, hr1.2⟩ ?_ ?_
  · refine E_iload_n (pc := 25) hx 2 dX8_turned_25 rfl rfl ?_
    exact E_iret (pc := 26) hx dX8_turned_26 rfl rfl (Nat.le_of_ble_eq_true rfl)
  refine E_iload_n (pc := 9) hx 2 dX8_turned_9 rfl rfl ?_
  refine I_iconst (pc := 10) hx 3 dX8_turned_10 ?_
  refine I_ishl (pc := 11) hx dX8_turned_11 (by decide) ?_
  refine E_iload_n (pc := 12) hx 0 dX8_turned_12 rfl rfl ?_
  refine E_iload_n (pc := 13) hx 3 dX8_turned_13 rfl rfl ?_
  refine I_cNI  (pc := 14) hx [.int (oI p0), .int (oI v3)] [.int (oI (shl v2 3))] (ev_X10_noteOf F p0 v3 w) sm_X10_noteOf hx.xe.2.2.1.1 dX8_turned_14 rfl rfl (Nat.le_of_ble_eq_true rfl) (Nat.le_of_ble_eq_true rfl) (Nat.le_of_ble_eq_true rfl) (fun r2 => ?_)
  refine I_ior (pc := 17) hx dX8_turned_17 ?_
  refine I_ltv (fun v2_3 => ?_)
  refine E_istore_n (pc := 18) hx dX8_turned_18 rfl (Nat.le_of_ble_eq_true rfl) rfl ?_
  refine I_iinc (pc := 19) hx 1 3 dX8_turned_19 rfl (Nat.le_of_ble_eq_true rfl) rfl ?_
  refine E_goto (pc := 22) hx 4 dX8_turned_22 rfl ?_
  refine En.sub [2, 3, 1, 0] rfl ?_
  exact hk4 v2_3 (v3 + 1)
theorem l_X8_turned_b4 {x : Cx} (F : Nat) (p0 : Int) (p1 : Int) (w : aI) (hx : CxOK x RX8 cX8_turned 4 1 0 (some .int))  : ∀ (n : Nat) (v2 : Int) (v3 : Int), En x (jvI w) 0 0 4 [(0, .int (oI p0)), (1, .int (oI p1)), (2, .int (oI v2)), (3, .int (oI v3))] [] (cm w) (f_X8_turned_b4 F p0 p1 w  n v2 v3) := by
  intro n
  induction n with
  | zero => intro v2 v3; exact E_none
  | succ n ih => intro v2 v3; exact l_X8_turned_b4_b F p0 p1 w hx  _ ih v2 v3
set_option maxHeartbeats 4000000 in
set_option maxRecDepth 100000 in
theorem ev_X8_turned (F : Nat) (p0 : Int) (p1 : Int) (w : aI) : Ev yX8_turned cX8_turned 4 (some .int) 1 0 (jvI w) [.int (oI p0), .int (oI p1)] (cm w) (f_X8_turned F p0 p1 w) := by
  refine Ev.of (own := RX8) (by decide +kernel) rfl (Nat.le_of_ble_eq_true rfl) (fun x hx => ?_)
  show En x (jvI w) 0 0 0 [(0, .int (oI p0)), (1, .int (oI p1))] [] (cm w) _
  unfold f_X8_turned
  refine I_iconst (pc := 0) hx 0 dX8_turned_0 ?_
  refine E_istore_n (pc := 1) hx dX8_turned_1 rfl (Nat.le_of_ble_eq_true rfl) rfl ?_
  refine I_iconst (pc := 2) hx 0 dX8_turned_2 ?_
  refine E_istore_n (pc := 3) hx dX8_turned_3 rfl (Nat.le_of_ble_eq_true rfl) rfl ?_
  refine En.sub [2, 3, 1, 0] rfl ?_
  exact l_X8_turned_b4 F p0 p1 w hx F 0 0
