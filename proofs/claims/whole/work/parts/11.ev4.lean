set_option maxHeartbeats 4000000 in
set_option maxRecDepth 100000 in
theorem l_X8_reachGoal_b102 {x : Cx} (F : Nat) (a0 : Nat) (h0 : shK a0 = 10 + 2) (p1 : Int)  (hx : CxOK x RX8 cX8_reachGoal 5 3 0 none)   (v2 : Int) (v3 : Int) (w : aI) : En x jvV 0 0 102 [(0, .ref a0), (1, .int (oI p1)), (2, .int (oI v2)), (3, .int (oI v3))] [] (cm w) (f_X8_reachGoal_b102 F a0 p1    v2 v3 w) := by
  unfold f_X8_reachGoal_b102
  refine E_aload_n (pc := 102) hx 0 dX8_reachGoal_102 rfl rfl ?_
  refine E_getR (pc := 103) hx 6 fc2 h0 rfl ⟨rfl, rfl, rfl⟩ g231 dX8_reachGoal_103 ?_
  refine E_iload_n (pc := 106) hx 1 dX8_reachGoal_106 rfl rfl ?_
  refine I_iconst (pc := 107) hx 3 dX8_reachGoal_107 ?_
  refine I_iconst (pc := 108) hx 2 dX8_reachGoal_108 ?_
  refine I_cVV  (pc := 109) hx [.int (oI p1), .int (oI 3), .int (oI 2)] [] (ev_X7_put F (shR a0 6) (kt_2_6 h0) p1 3 2 w) vm_X7_put fc6 (kt_2_6 h0) g755 dX8_reachGoal_109 rfl rfl (Nat.le_of_ble_eq_true rfl) (Nat.le_of_ble_eq_true rfl) (Nat.le_of_ble_eq_true rfl) (fun w5 => ?_)
  refine E_aload_n (pc := 112) hx 0 dX8_reachGoal_112 rfl rfl ?_
  refine I_iconst (pc := 113) hx 5 dX8_reachGoal_113 ?_
  refine I_iconst (pc := 114) hx 1 dX8_reachGoal_114 ?_
  refine I_cVV  (pc := 115) hx [.int (oI 5), .int (oI 1)] [] (ev_X2_enter F a0 h0 5 1 w5) vm_X2_enter fc2 h0 g729 dX8_reachGoal_115 rfl rfl (Nat.le_of_ble_eq_true rfl) (Nat.le_of_ble_eq_true rfl) (Nat.le_of_ble_eq_true rfl) (fun w6 => ?_)
  refine E_iload_n (pc := 118) hx 3 dX8_reachGoal_118 rfl rfl ?_
  refine E_gd (fun hr7 => ?_)
  refine I_if_ne (pc := 119) hx 123 dX8_reachGoal_119 rfl hr7 ?_ ?_
  · refine E_aload_n (pc := 123) hx 0 dX8_reachGoal_123 rfl rfl ?_
    refine I_bipush (pc := 124) hx 6 dX8_reachGoal_124 rfl ?_
    refine I_iconst (pc := 126) hx 1 dX8_reachGoal_126 ?_
    refine I_cVV  (pc := 127) hx [.int (oI 6), .int (oI 1)] [] (ev_X2_enter F a0 h0 6 1 w6) vm_X2_enter fc2 h0 g729 dX8_reachGoal_127 rfl rfl (Nat.le_of_ble_eq_true rfl) (Nat.le_of_ble_eq_true rfl) (Nat.le_of_ble_eq_true rfl) (fun w8 => ?_)
    refine E_aload_n (pc := 130) hx 0 dX8_reachGoal_130 rfl rfl ?_
    refine E_getR (pc := 131) hx 6 fc2 h0 rfl ⟨rfl, rfl, rfl⟩ g231 dX8_reachGoal_131 ?_
    refine E_iload_n (pc := 134) hx 1 dX8_reachGoal_134 rfl rfl ?_
    refine I_bipush (pc := 135) hx 7 dX8_reachGoal_135 rfl ?_
    refine I_cVI  (pc := 137) hx [.int (oI p1), .int (oI 7)] [] (ev_X7_get F (shR a0 6) (kt_2_6 h0) p1 7 w8) vm_X7_get fc6 (kt_2_6 h0) g733 dX8_reachGoal_137 rfl rfl (Nat.le_of_ble_eq_true rfl) (Nat.le_of_ble_eq_true rfl) (Nat.le_of_ble_eq_true rfl) (fun r9 => ?_)
    refine I_iconst (pc := 140) hx 1 dX8_reachGoal_140 ?_
    refine E_gd (fun hr10 => ?_)
    refine I_icmp_ne (pc := 141) hx 203 dX8_reachGoal_141 rfl ⟨hr10, (by decide)⟩ ?_ ?_
    · exact E_vret (pc := 203) hx dX8_reachGoal_203 rfl rfl (Nat.le_of_ble_eq_true rfl)
    refine E_aload_n (pc := 144) hx 0 dX8_reachGoal_144 rfl rfl ?_
    refine I_getI (pc := 145) hx 3 3 rfl fc2 h0 rfl ⟨rfl, rfl, rfl⟩ g218 dX8_reachGoal_145 ?_
    refine I_bipush (pc := 148) hx 30 dX8_reachGoal_148 rfl ?_
    refine E_gd (fun hr11 => ?_)
    refine I_icmp_ge (pc := 150) hx 203 dX8_reachGoal_150 rfl ⟨hr11, (by decide)⟩ ?_ ?_
    · exact E_vret (pc := 203) hx dX8_reachGoal_203 rfl rfl (Nat.le_of_ble_eq_true rfl)
    refine E_aload_n (pc := 153) hx 0 dX8_reachGoal_153 rfl rfl ?_
    refine E_getR (pc := 154) hx 6 fc2 h0 rfl ⟨rfl, rfl, rfl⟩ g231 dX8_reachGoal_154 ?_
    refine E_iload_n (pc := 157) hx 1 dX8_reachGoal_157 rfl rfl ?_
    refine I_iconst (pc := 158) hx 2 dX8_reachGoal_158 ?_
    refine I_cVI  (pc := 159) hx [.int (oI p1), .int (oI 2)] [] (ev_X7_get F (shR a0 6) (kt_2_6 h0) p1 2 w8) vm_X7_get fc6 (kt_2_6 h0) g733 dX8_reachGoal_159 rfl rfl (Nat.le_of_ble_eq_true rfl) (Nat.le_of_ble_eq_true rfl) (Nat.le_of_ble_eq_true rfl) (fun r12 => ?_)
    refine E_istore (pc := 162) hx dX8_reachGoal_162 (Nat.le_of_ble_eq_true rfl) rfl ?_
    refine E_aload_n (pc := 164) hx 1 dX8_reachGoal_164 rfl rfl ?_
    refine E_aload_n (pc := 165) hx 1 dX8_reachGoal_165 rfl rfl ?_
    refine E_getR (pc := 166) hx 6 fc2 h0 rfl ⟨rfl, rfl, rfl⟩ g231 dX8_reachGoal_166 ?_
    refine E_iload_n (pc := 169) hx 2 dX8_reachGoal_169 rfl rfl ?_
    refine I_iconst (pc := 170) hx 1 dX8_reachGoal_170 ?_
    refine I_cVI  (pc := 171) hx [.int (oI p1), .int (oI 1)] [.ref a0] (ev_X7_get F (shR a0 6) (kt_2_6 h0) p1 1 w8) vm_X7_get fc6 (kt_2_6 h0) g733 dX8_reachGoal_171 rfl rfl (Nat.le_of_ble_eq_true rfl) (Nat.le_of_ble_eq_true rfl) (Nat.le_of_ble_eq_true rfl) (fun r13 => ?_)
    refine E_aload_n (pc := 174) hx 1 dX8_reachGoal_174 rfl rfl ?_
    refine E_getR (pc := 175) hx 6 fc2 h0 rfl ⟨rfl, rfl, rfl⟩ g231 dX8_reachGoal_175 ?_
    refine E_iload_n (pc := 178) hx 2 dX8_reachGoal_178 rfl rfl ?_
    refine I_iconst (pc := 179) hx 0 dX8_reachGoal_179 ?_
    refine I_cVI  (pc := 180) hx [.int (oI p1), .int (oI 0)] [.int (oI r13), .ref a0] (ev_X7_get F (shR a0 6) (kt_2_6 h0) p1 0 w8) vm_X7_get fc6 (kt_2_6 h0) g733 dX8_reachGoal_180 rfl rfl (Nat.le_of_ble_eq_true rfl) (Nat.le_of_ble_eq_true rfl) (Nat.le_of_ble_eq_true rfl) (fun r14 => ?_)
    refine E_iload (pc := 183) hx 0 dX8_reachGoal_183 rfl ?_
    refine E_iload_n (pc := 185) hx 3 dX8_reachGoal_185 rfl rfl ?_
    refine E_iload (pc := 186) hx 0 dX8_reachGoal_186 rfl ?_
    refine I_cSI  (pc := 188) hx [.int (oI v2), .int (oI r12)] [.int (oI r12), .int (oI r14), .int (oI r13), .ref a0] (ev_X8_turned F v2 r12 w8) sm_X8_turned g760 dX8_reachGoal_188 rfl rfl (Nat.le_of_ble_eq_true rfl) (Nat.le_of_ble_eq_true rfl) (Nat.le_of_ble_eq_true rfl) (fun r15 => ?_)
    refine I_iconst (pc := 191) hx 1 dX8_reachGoal_191 ?_
    refine I_iconst (pc := 192) hx 0 dX8_reachGoal_192 ?_
    refine I_cVIW  (pc := 193) hx [.int (oI r13), .int (oI r14), .int (oI r12), .int (oI r15), .int (oI 1), .int (oI 0)] [] (ev_X2_addTune F a0 h0 r13 r14 r12 r15 1 0 w8) vm_X2_addTune fc2 h0 g763 dX8_reachGoal_193 rfl rfl (Nat.le_of_ble_eq_true rfl) (Nat.le_of_ble_eq_true rfl) (Nat.le_of_ble_eq_true rfl) (fun r16 w17 => ?_)
    refine E_pop (pc := 196) hx dX8_reachGoal_196 rfl ?_
    refine E_aload_n (pc := 197) hx 1 dX8_reachGoal_197 rfl rfl ?_
    refine I_iconst (pc := 198) hx 2 dX8_reachGoal_198 ?_
    refine I_iconst (pc := 199) hx 1 dX8_reachGoal_199 ?_
    refine I_cVV  (pc := 200) hx [.int (oI 2), .int (oI 1)] [] (ev_X2_enter F a0 h0 2 1 w17) vm_X2_enter fc2 h0 g729 dX8_reachGoal_200 rfl rfl (Nat.le_of_ble_eq_true rfl) (Nat.le_of_ble_eq_true rfl) (Nat.le_of_ble_eq_true rfl) (fun w18 => ?_)
    exact E_vret (pc := 203) hx dX8_reachGoal_203 rfl rfl (Nat.le_of_ble_eq_true rfl)
  exact E_vret (pc := 122) hx dX8_reachGoal_122 rfl rfl (Nat.le_of_ble_eq_true rfl)
set_option maxHeartbeats 4000000 in
set_option maxRecDepth 100000 in
theorem l_X8_reachGoal_b30 {x : Cx} (F : Nat) (a0 : Nat) (h0 : shK a0 = 10 + 2) (p1 : Int)  (hx : CxOK x RX8 cX8_reachGoal 5 3 0 none)   (v2 : Int) (z0 : Int) (w : aI) : En x jvV 0 0 30 [(0, .ref a0), (1, .int (oI p1)), (2, .int (oI v2))] [.int (oI z0)] (cm w) (f_X8_reachGoal_b30 F a0 p1    v2 z0 w) := by
  unfold f_X8_reachGoal_b30
  refine E_istore_n (pc := 30) hx dX8_reachGoal_30 rfl (Nat.le_of_ble_eq_true rfl) rfl ?_
  refine E_iload_n (pc := 31) hx 0 dX8_reachGoal_31 rfl rfl ?_
  refine E_gd (fun hr4 => ?_)
  refine I_if_ne (pc := 32) hx 102 dX8_reachGoal_32 rfl hr4 ?_ ?_
  · refine En.sub [1, 2, 3, 0] rfl ?_
    exact l_X8_reachGoal_b102 F a0 h0 p1 hx v2 z0 w
  refine E_aload_n (pc := 35) hx 1 dX8_reachGoal_35 rfl rfl ?_
  refine E_getR (pc := 36) hx 6 fc2 h0 rfl ⟨rfl, rfl, rfl⟩ g231 dX8_reachGoal_36 ?_
  refine E_iload_n (pc := 39) hx 2 dX8_reachGoal_39 rfl rfl ?_
  refine I_bipush (pc := 40) hx 8 dX8_reachGoal_40 rfl ?_
  refine I_cVI  (pc := 42) hx [.int (oI p1), .int (oI 8)] [] (ev_X7_get F (shR a0 6) (kt_2_6 h0) p1 8 w) vm_X7_get fc6 (kt_2_6 h0) g733 dX8_reachGoal_42 rfl rfl (Nat.le_of_ble_eq_true rfl) (Nat.le_of_ble_eq_true rfl) (Nat.le_of_ble_eq_true rfl) (fun r19 => ?_)
  refine E_aload_n (pc := 45) hx 1 dX8_reachGoal_45 rfl rfl ?_
  refine I_bipush (pc := 46) hx 10 dX8_reachGoal_46 rfl ?_
  refine I_cVI  (pc := 48) hx [.int (oI 10)] [.int (oI r19)] (ev_X2_setting F a0 h0 10 w) vm_X2_setting fc2 h0 g737 dX8_reachGoal_48 rfl rfl (Nat.le_of_ble_eq_true rfl) (Nat.le_of_ble_eq_true rfl) (Nat.le_of_ble_eq_true rfl) (fun r20 => ?_)
  refine E_gd (fun hr21 => ?_)
  refine I_icmp_ge (pc := 51) hx 102 dX8_reachGoal_51 rfl ⟨hr21.1, hr21.2⟩ ?_ ?_
  · refine En.sub [1, 2, 3, 0] rfl ?_
    exact l_X8_reachGoal_b102 F a0 h0 p1 hx v2 z0 w
  refine E_aload_n (pc := 54) hx 1 dX8_reachGoal_54 rfl rfl ?_
  refine E_getR (pc := 55) hx 6 fc2 h0 rfl ⟨rfl, rfl, rfl⟩ g231 dX8_reachGoal_55 ?_
  refine E_iload_n (pc := 58) hx 2 dX8_reachGoal_58 rfl rfl ?_
  refine I_bipush (pc := 59) hx 8 dX8_reachGoal_59 rfl ?_
  refine I_iconst (pc := 61) hx 1 dX8_reachGoal_61 ?_
  refine I_cVV  (pc := 62) hx [.int (oI p1), .int (oI 8), .int (oI 1)] [] (ev_X7_grow F (shR a0 6) (kt_2_6 h0) p1 8 1 w) vm_X7_grow fc6 (kt_2_6 h0) g759 dX8_reachGoal_62 rfl rfl (Nat.le_of_ble_eq_true rfl) (Nat.le_of_ble_eq_true rfl) (Nat.le_of_ble_eq_true rfl) (fun w22 => ?_)
  refine E_aload_n (pc := 65) hx 1 dX8_reachGoal_65 rfl rfl ?_
  refine E_getR (pc := 66) hx 6 fc2 h0 rfl ⟨rfl, rfl, rfl⟩ g231 dX8_reachGoal_66 ?_
  refine E_iload_n (pc := 69) hx 2 dX8_reachGoal_69 rfl rfl ?_
  refine I_bipush (pc := 70) hx 10 dX8_reachGoal_70 rfl ?_
  refine E_iload_n (pc := 72) hx 3 dX8_reachGoal_72 rfl rfl ?_
  refine I_cVV  (pc := 73) hx [.int (oI p1), .int (oI 10), .int (oI v2)] [] (ev_X7_put F (shR a0 6) (kt_2_6 h0) p1 10 v2 w22) vm_X7_put fc6 (kt_2_6 h0) g755 dX8_reachGoal_73 rfl rfl (Nat.le_of_ble_eq_true rfl) (Nat.le_of_ble_eq_true rfl) (Nat.le_of_ble_eq_true rfl) (fun w23 => ?_)
  refine E_aload_n (pc := 76) hx 1 dX8_reachGoal_76 rfl rfl ?_
  refine E_getR (pc := 77) hx 6 fc2 h0 rfl ⟨rfl, rfl, rfl⟩ g231 dX8_reachGoal_77 ?_
  refine E_iload_n (pc := 80) hx 2 dX8_reachGoal_80 rfl rfl ?_
  refine I_iconst (pc := 81) hx 4 dX8_reachGoal_81 ?_
  refine E_aload_n (pc := 82) hx 1 dX8_reachGoal_82 rfl rfl ?_
  refine E_getR (pc := 83) hx 6 fc2 h0 rfl ⟨rfl, rfl, rfl⟩ g231 dX8_reachGoal_83 ?_
  refine E_iload_n (pc := 86) hx 2 dX8_reachGoal_86 rfl rfl ?_
  refine I_iconst (pc := 87) hx 0 dX8_reachGoal_87 ?_
  refine I_cVI  (pc := 88) hx [.int (oI p1), .int (oI 0)] [.int (oI 4), .int (oI p1), .ref (shR a0 6)] (ev_X7_get F (shR a0 6) (kt_2_6 h0) p1 0 w23) vm_X7_get fc6 (kt_2_6 h0) g733 dX8_reachGoal_88 rfl rfl (Nat.le_of_ble_eq_true rfl) (Nat.le_of_ble_eq_true rfl) (Nat.le_of_ble_eq_true rfl) (fun r24 => ?_)
  refine I_cVV  (pc := 91) hx [.int (oI p1), .int (oI 4), .int (oI r24)] [] (ev_X7_put F (shR a0 6) (kt_2_6 h0) p1 4 r24 w23) vm_X7_put fc6 (kt_2_6 h0) g755 dX8_reachGoal_91 rfl rfl (Nat.le_of_ble_eq_true rfl) (Nat.le_of_ble_eq_true rfl) (Nat.le_of_ble_eq_true rfl) (fun w25 => ?_)
  refine E_aload_n (pc := 94) hx 1 dX8_reachGoal_94 rfl rfl ?_
  refine I_bipush (pc := 95) hx 7 dX8_reachGoal_95 rfl ?_
  refine I_iconst (pc := 97) hx 1 dX8_reachGoal_97 ?_
  refine I_cVV  (pc := 98) hx [.int (oI 7), .int (oI 1)] [] (ev_X2_enter F a0 h0 7 1 w25) vm_X2_enter fc2 h0 g729 dX8_reachGoal_98 rfl rfl (Nat.le_of_ble_eq_true rfl) (Nat.le_of_ble_eq_true rfl) (Nat.le_of_ble_eq_true rfl) (fun w26 => ?_)
  exact E_vret (pc := 101) hx dX8_reachGoal_101 rfl rfl (Nat.le_of_ble_eq_true rfl)
set_option maxHeartbeats 4000000 in
set_option maxRecDepth 100000 in
theorem ev_X8_reachGoal (F : Nat) (a0 : Nat) (h0 : shK a0 = 10 + 2) (p1 : Int) (w : aI) : Ev yX8_reachGoal cX8_reachGoal 5 none 3 0 jvV [.ref a0, .int (oI p1)] (cm w) (f_X8_reachGoal F a0 p1 w) := by
  refine Ev.of (own := RX8) (by decide +kernel) rfl (Nat.le_of_ble_eq_true rfl) (fun x hx => ?_)
  show En x jvV 0 0 0 [(0, .ref a0), (1, .int (oI p1))] [] (cm w) _
  unfold f_X8_reachGoal
  refine E_aload_n (pc := 0) hx 0 dX8_reachGoal_0 rfl rfl ?_
  refine E_getR (pc := 1) hx 6 fc2 h0 rfl ⟨rfl, rfl, rfl⟩ g231 dX8_reachGoal_1 ?_
  refine E_iload_n (pc := 4) hx 1 dX8_reachGoal_4 rfl rfl ?_
  refine I_bipush (pc := 5) hx 9 dX8_reachGoal_5 rfl ?_
  refine I_cVI  (pc := 7) hx [.int (oI p1), .int (oI 9)] [] (ev_X7_get F (shR a0 6) (kt_2_6 h0) p1 9 w) vm_X7_get fc6 (kt_2_6 h0) g733 dX8_reachGoal_7 rfl rfl (Nat.le_of_ble_eq_true rfl) (Nat.le_of_ble_eq_true rfl) (Nat.le_of_ble_eq_true rfl) (fun r1 => ?_)
  refine E_istore_n (pc := 10) hx dX8_reachGoal_10 rfl (Nat.le_of_ble_eq_true rfl) rfl ?_
  refine E_aload_n (pc := 11) hx 1 dX8_reachGoal_11 rfl rfl ?_
  refine E_getR (pc := 12) hx 6 fc2 h0 rfl ⟨rfl, rfl, rfl⟩ g231 dX8_reachGoal_12 ?_
  refine E_iload_n (pc := 15) hx 2 dX8_reachGoal_15 rfl rfl ?_
  refine I_bipush (pc := 16) hx 10 dX8_reachGoal_16 rfl ?_
  refine I_cVI  (pc := 18) hx [.int (oI p1), .int (oI 10)] [] (ev_X7_get F (shR a0 6) (kt_2_6 h0) p1 10 w) vm_X7_get fc6 (kt_2_6 h0) g733 dX8_reachGoal_18 rfl rfl (Nat.le_of_ble_eq_true rfl) (Nat.le_of_ble_eq_true rfl) (Nat.le_of_ble_eq_true rfl) (fun r2 => ?_)
  refine E_iload_n (pc := 21) hx 0 dX8_reachGoal_21 rfl rfl ?_
  refine E_gd (fun hr3 => ?_)
  refine I_icmp_ne (pc := 22) hx 29 dX8_reachGoal_22 rfl ⟨hr3.1, hr3.2⟩ ?_ ?_
  · refine I_iconst (pc := 29) hx 0 dX8_reachGoal_29 ?_
    refine En.sub [1, 2, 0] rfl ?_
    exact l_X8_reachGoal_b30 F a0 h0 p1 hx r1 0 w
  refine I_iconst (pc := 25) hx 1 dX8_reachGoal_25 ?_
  refine E_goto (pc := 26) hx 30 dX8_reachGoal_26 rfl ?_
  refine En.sub [1, 2, 0] rfl ?_
  exact l_X8_reachGoal_b30 F a0 h0 p1 hx r1 1 w
set_option maxHeartbeats 4000000 in
set_option maxRecDepth 100000 in
theorem l_X8_landAll_b7_b {x : Cx} (F : Nat) (a0 : Nat) (h0 : shK a0 = 10 + 2)  (hx : CxOK x RX8 cX8_landAll 3 4 0 none)  (k7 : Int → Int → aI → Option aI) (hk7 : ∀ (v1 : Int) (v2 : Int) (w : aI), En x jvV 0 0 7 [(0, .ref a0), (1, .int (oI v1)), (2, .int (oI v2))] [] (cm w) (k7 v1 v2 w)) (v1 : Int) (v2 : Int) (w : aI) : En x jvV 0 0 7 [(0, .ref a0), (1, .int (oI v1)), (2, .int (oI v2))] [] (cm w) (f_X8_landAll_b7_b F a0   k7 v1 v2 w) := by
  unfold f_X8_landAll_b7_b
  refine E_iload_n (pc := 7) hx 2 dX8_landAll_7 rfl rfl ?_
  refine E_iload_n (pc := 8) hx 1 dX8_landAll_8 rfl rfl ?_
  refine E_gd (fun hr2 => ?_)
  refine I_icmp_ge (pc := 9) hx 78 dX8_landAll_9 rfl ⟨hr2.1, hr2.2⟩ ?_ ?_
  · exact E_vret (pc := 78) hx dX8_landAll_78 rfl rfl (Nat.le_of_ble_eq_true rfl)
  refine E_aload_n (pc := 12) hx 0 dX8_landAll_12 rfl rfl ?_
  refine E_getR (pc := 13) hx 6 fc2 h0 rfl ⟨rfl, rfl, rfl⟩ g231 dX8_landAll_13 ?_
  refine E_iload_n (pc := 16) hx 2 dX8_landAll_16 rfl rfl ?_
  refine I_iconst (pc := 17) hx 3 dX8_landAll_17 ?_
  refine I_cVI  (pc := 18) hx [.int (oI v2), .int (oI 3)] [] (ev_X7_get F (shR a0 6) (kt_2_6 h0) v2 3 w) vm_X7_get fc6 (kt_2_6 h0) g733 dX8_landAll_18 rfl rfl (Nat.le_of_ble_eq_true rfl) (Nat.le_of_ble_eq_true rfl) (Nat.le_of_ble_eq_true rfl) (fun r3 => ?_)
  refine I_iconst (pc := 21) hx 1 dX8_landAll_21 ?_
  refine E_gd (fun hr4 => ?_)
  refine I_icmp_ne (pc := 22) hx 72 dX8_landAll_22 rfl ⟨hr4, (by decide)⟩ ?_ ?_
  · refine I_iinc (pc := 72) hx 1 2 dX8_landAll_72 rfl (Nat.le_of_ble_eq_true rfl) rfl ?_
    refine E_goto (pc := 75) hx 7 dX8_landAll_75 rfl ?_
    refine En.sub [1, 2, 0] rfl ?_
    exact hk7 v1 (v2 + 1) w
  refine E_aload_n (pc := 25) hx 0 dX8_landAll_25 rfl rfl ?_
  refine E_getR (pc := 26) hx 6 fc2 h0 rfl ⟨rfl, rfl, rfl⟩ g231 dX8_landAll_26 ?_
  refine E_iload_n (pc := 29) hx 2 dX8_landAll_29 rfl rfl ?_
  refine I_iconst (pc := 30) hx 5 dX8_landAll_30 ?_
  refine I_cVI  (pc := 31) hx [.int (oI v2), .int (oI 5)] [] (ev_X7_get F (shR a0 6) (kt_2_6 h0) v2 5 w) vm_X7_get fc6 (kt_2_6 h0) g733 dX8_landAll_31 rfl rfl (Nat.le_of_ble_eq_true rfl) (Nat.le_of_ble_eq_true rfl) (Nat.le_of_ble_eq_true rfl) (fun r5 => ?_)
  refine E_aload_n (pc := 34) hx 0 dX8_landAll_34 rfl rfl ?_
  refine I_getI (pc := 35) hx 0 0 rfl fc2 h0 rfl ⟨rfl, rfl, rfl⟩ g203 dX8_landAll_35 ?_
  refine E_gd (fun hr6 => ?_)
  refine I_icmp_ne (pc := 38) hx 72 dX8_landAll_38 rfl ⟨hr6.1, hr6.2⟩ ?_ ?_
  · refine I_iinc (pc := 72) hx 1 2 dX8_landAll_72 rfl (Nat.le_of_ble_eq_true rfl) rfl ?_
    refine E_goto (pc := 75) hx 7 dX8_landAll_75 rfl ?_
    refine En.sub [1, 2, 0] rfl ?_
    exact hk7 v1 (v2 + 1) w
  refine E_aload_n (pc := 41) hx 0 dX8_landAll_41 rfl rfl ?_
  refine E_iload_n (pc := 42) hx 2 dX8_landAll_42 rfl rfl ?_
  refine I_cSV  (pc := 43) hx [.ref a0, .int (oI v2)] [] (ev_X8_land F a0 h0 v2 w) sm_X8_land g734 dX8_landAll_43 rfl rfl (Nat.le_of_ble_eq_true rfl) (Nat.le_of_ble_eq_true rfl) (Nat.le_of_ble_eq_true rfl) (fun w7 => ?_)
  refine E_aload_n (pc := 46) hx 0 dX8_landAll_46 rfl rfl ?_
  refine E_getR (pc := 47) hx 6 fc2 h0 rfl ⟨rfl, rfl, rfl⟩ g231 dX8_landAll_47 ?_
  refine E_iload_n (pc := 50) hx 2 dX8_landAll_50 rfl rfl ?_
  refine I_iconst (pc := 51) hx 4 dX8_landAll_51 ?_
  refine I_cVI  (pc := 52) hx [.int (oI v2), .int (oI 4)] [] (ev_X7_get F (shR a0 6) (kt_2_6 h0) v2 4 w7) vm_X7_get fc6 (kt_2_6 h0) g733 dX8_landAll_52 rfl rfl (Nat.le_of_ble_eq_true rfl) (Nat.le_of_ble_eq_true rfl) (Nat.le_of_ble_eq_true rfl) (fun r8 => ?_)
  refine E_aload_n (pc := 55) hx 0 dX8_landAll_55 rfl rfl ?_
  refine E_getR (pc := 56) hx 6 fc2 h0 rfl ⟨rfl, rfl, rfl⟩ g231 dX8_landAll_56 ?_
  refine E_iload_n (pc := 59) hx 2 dX8_landAll_59 rfl rfl ?_
  refine I_iconst (pc := 60) hx 1 dX8_landAll_60 ?_
  refine I_cVI  (pc := 61) hx [.int (oI v2), .int (oI 1)] [.int (oI r8)] (ev_X7_get F (shR a0 6) (kt_2_6 h0) v2 1 w7) vm_X7_get fc6 (kt_2_6 h0) g733 dX8_landAll_61 rfl rfl (Nat.le_of_ble_eq_true rfl) (Nat.le_of_ble_eq_true rfl) (Nat.le_of_ble_eq_true rfl) (fun r9 => ?_)
  refine E_gd (fun hr10 => ?_)
  refine I_icmp_ne (pc := 64) hx 72 dX8_landAll_64 rfl ⟨hr10.1, hr10.2⟩ ?_ ?_
  · refine I_iinc (pc := 72) hx 1 2 dX8_landAll_72 rfl (Nat.le_of_ble_eq_true rfl) rfl ?_
    refine E_goto (pc := 75) hx 7 dX8_landAll_75 rfl ?_
    refine En.sub [1, 2, 0] rfl ?_
    exact hk7 v1 (v2 + 1) w7
  refine E_aload_n (pc := 67) hx 0 dX8_landAll_67 rfl rfl ?_
  refine E_iload_n (pc := 68) hx 2 dX8_landAll_68 rfl rfl ?_
  refine I_cSV  (pc := 69) hx [.ref a0, .int (oI v2)] [] (ev_X8_reachGoal F a0 h0 v2 w7) sm_X8_reachGoal g756 dX8_landAll_69 rfl rfl (Nat.le_of_ble_eq_true rfl) (Nat.le_of_ble_eq_true rfl) (Nat.le_of_ble_eq_true rfl) (fun w11 => ?_)
  refine I_iinc (pc := 72) hx 1 2 dX8_landAll_72 rfl (Nat.le_of_ble_eq_true rfl) rfl ?_
  refine E_goto (pc := 75) hx 7 dX8_landAll_75 rfl ?_
  refine En.sub [1, 2, 0] rfl ?_
  exact hk7 v1 (v2 + 1) w11
theorem l_X8_landAll_b7 {x : Cx} (F : Nat) (a0 : Nat) (h0 : shK a0 = 10 + 2)  (hx : CxOK x RX8 cX8_landAll 3 4 0 none)  : ∀ (n : Nat) (v1 : Int) (v2 : Int) (w : aI), En x jvV 0 0 7 [(0, .ref a0), (1, .int (oI v1)), (2, .int (oI v2))] [] (cm w) (f_X8_landAll_b7 F a0   n v1 v2 w) := by
  intro n
  induction n with
  | zero => intro v1 v2 w; exact E_none
  | succ n ih => intro v1 v2 w; exact l_X8_landAll_b7_b F a0 h0  hx  _ ih v1 v2 w
set_option maxHeartbeats 4000000 in
set_option maxRecDepth 100000 in
theorem ev_X8_landAll (F : Nat) (a0 : Nat) (h0 : shK a0 = 10 + 2) (w : aI) : Ev yX8_landAll cX8_landAll 3 none 4 0 jvV [.ref a0] (cm w) (f_X8_landAll F a0 w) := by
  refine Ev.of (own := RX8) (by decide +kernel) rfl (Nat.le_of_ble_eq_true rfl) (fun x hx => ?_)
  show En x jvV 0 0 0 [(0, .ref a0)] [] (cm w) _
  unfold f_X8_landAll
  refine E_aload_n (pc := 0) hx 0 dX8_landAll_0 rfl rfl ?_
  refine I_getI (pc := 1) hx 3 3 rfl fc2 h0 rfl ⟨rfl, rfl, rfl⟩ g218 dX8_landAll_1 ?_
  refine I_ltv (fun v1_1 => ?_)
  refine E_istore_n (pc := 4) hx dX8_landAll_4 rfl (Nat.le_of_ble_eq_true rfl) rfl ?_
  refine I_iconst (pc := 5) hx 0 dX8_landAll_5 ?_
  refine E_istore_n (pc := 6) hx dX8_landAll_6 rfl (Nat.le_of_ble_eq_true rfl) rfl ?_
  refine En.sub [2, 1, 0] rfl ?_
  exact l_X8_landAll_b7 F a0 h0 hx F v1_1 0 w
set_option maxHeartbeats 4000000 in
set_option maxRecDepth 100000 in
theorem l_X8_roofsWithTunes_b4_b {x : Cx} (F : Nat) (a0 : Nat) (h0 : shK a0 = 10 + 2) (w : aI) (hx : CxOK x RX8 cX8_roofsWithTunes 3 1 0 (some .int))  (k4 : Int → Int → Option Int) (hk4 : ∀ (v1 : Int) (v2 : Int), En x (jvI w) 0 0 4 [(0, .ref a0), (1, .int (oI v1)), (2, .int (oI v2))] [] (cm w) (k4 v1 v2)) (v1 : Int) (v2 : Int)  : En x (jvI w) 0 0 4 [(0, .ref a0), (1, .int (oI v1)), (2, .int (oI v2))] [] (cm w) (f_X8_roofsWithTunes_b4_b F a0 w  k4 v1 v2) := by
  unfold f_X8_roofsWithTunes_b4_b
  refine E_iload_n (pc := 4) hx 2 dX8_roofsWithTunes_4 rfl rfl ?_
  refine E_aload_n (pc := 5) hx 0 dX8_roofsWithTunes_5 rfl rfl ?_
  refine I_getI (pc := 6) hx 3 3 rfl fc2 h0 rfl ⟨rfl, rfl, rfl⟩ g218 dX8_roofsWithTunes_6 ?_
  refine E_gd (fun hr1 => ?_)
  refine I_icmp_ge (pc := 9) hx 44 dX8_roofsWithTunes_9 rfl ⟨hr1.1, hr1.2⟩ ?_ ?_
  · refine E_iload_n (pc := 44) hx 1 dX8_roofsWithTunes_44 rfl rfl ?_
    exact E_iret (pc := 45) hx dX8_roofsWithTunes_45 rfl rfl (Nat.le_of_ble_eq_true rfl)
  refine E_aload_n (pc := 12) hx 0 dX8_roofsWithTunes_12 rfl rfl ?_
  refine E_getR (pc := 13) hx 6 fc2 h0 rfl ⟨rfl, rfl, rfl⟩ g231 dX8_roofsWithTunes_13 ?_
  refine E_iload_n (pc := 16) hx 2 dX8_roofsWithTunes_16 rfl rfl ?_
  refine I_iconst (pc := 17) hx 3 dX8_roofsWithTunes_17 ?_
  refine I_cVI  (pc := 18) hx [.int (oI v2), .int (oI 3)] [] (ev_X7_get F (shR a0 6) (kt_2_6 h0) v2 3 w) vm_X7_get fc6 (kt_2_6 h0) g733 dX8_roofsWithTunes_18 rfl rfl (Nat.le_of_ble_eq_true rfl) (Nat.le_of_ble_eq_true rfl) (Nat.le_of_ble_eq_true rfl) (fun r2 => ?_)
  refine E_gd (fun hr3 => ?_)
  refine I_if_ne (pc := 21) hx 38 dX8_roofsWithTunes_21 rfl hr3 ?_ ?_
  · refine I_iinc (pc := 38) hx 1 2 dX8_roofsWithTunes_38 rfl (Nat.le_of_ble_eq_true rfl) rfl ?_
    refine E_goto (pc := 41) hx 4 dX8_roofsWithTunes_41 rfl ?_
    refine En.sub [1, 2, 0] rfl ?_
    exact hk4 v1 (v2 + 1)
  refine E_iload_n (pc := 24) hx 1 dX8_roofsWithTunes_24 rfl rfl ?_
  refine I_iconst (pc := 25) hx 1 dX8_roofsWithTunes_25 ?_
  refine E_aload_n (pc := 26) hx 0 dX8_roofsWithTunes_26 rfl rfl ?_
  refine E_getR (pc := 27) hx 6 fc2 h0 rfl ⟨rfl, rfl, rfl⟩ g231 dX8_roofsWithTunes_27 ?_
  refine E_iload_n (pc := 30) hx 2 dX8_roofsWithTunes_30 rfl rfl ?_
  refine I_iconst (pc := 31) hx 4 dX8_roofsWithTunes_31 ?_
  refine I_cVI  (pc := 32) hx [.int (oI v2), .int (oI 4)] [.int (oI 1), .int (oI v1)] (ev_X7_get F (shR a0 6) (kt_2_6 h0) v2 4 w) vm_X7_get fc6 (kt_2_6 h0) g733 dX8_roofsWithTunes_32 rfl rfl (Nat.le_of_ble_eq_true rfl) (Nat.le_of_ble_eq_true rfl) (Nat.le_of_ble_eq_true rfl) (fun r4 => ?_)
  refine E_gd (fun hs5 => ?_)
  refine I_ishl (pc := 35) hx dX8_roofsWithTunes_35 hs5 ?_
  refine I_ior (pc := 36) hx dX8_roofsWithTunes_36 ?_
  refine I_ltv (fun v1_6 => ?_)
  refine E_istore_n (pc := 37) hx dX8_roofsWithTunes_37 rfl (Nat.le_of_ble_eq_true rfl) rfl ?_
  refine I_iinc (pc := 38) hx 1 2 dX8_roofsWithTunes_38 rfl (Nat.le_of_ble_eq_true rfl) rfl ?_
  refine E_goto (pc := 41) hx 4 dX8_roofsWithTunes_41 rfl ?_
  refine En.sub [2, 1, 0] rfl ?_
  exact hk4 v1_6 (v2 + 1)
theorem l_X8_roofsWithTunes_b4 {x : Cx} (F : Nat) (a0 : Nat) (h0 : shK a0 = 10 + 2) (w : aI) (hx : CxOK x RX8 cX8_roofsWithTunes 3 1 0 (some .int))  : ∀ (n : Nat) (v1 : Int) (v2 : Int), En x (jvI w) 0 0 4 [(0, .ref a0), (1, .int (oI v1)), (2, .int (oI v2))] [] (cm w) (f_X8_roofsWithTunes_b4 F a0 w  n v1 v2) := by
  intro n
  induction n with
  | zero => intro v1 v2; exact E_none
  | succ n ih => intro v1 v2; exact l_X8_roofsWithTunes_b4_b F a0 h0 w hx  _ ih v1 v2
set_option maxHeartbeats 4000000 in
set_option maxRecDepth 100000 in
theorem ev_X8_roofsWithTunes (F : Nat) (a0 : Nat) (h0 : shK a0 = 10 + 2) (w : aI) : Ev yX8_roofsWithTunes cX8_roofsWithTunes 3 (some .int) 1 0 (jvI w) [.ref a0] (cm w) (f_X8_roofsWithTunes F a0 w) := by
  refine Ev.of (own := RX8) (by decide +kernel) rfl (Nat.le_of_ble_eq_true rfl) (fun x hx => ?_)
  show En x (jvI w) 0 0 0 [(0, .ref a0)] [] (cm w) _
  unfold f_X8_roofsWithTunes
  refine I_iconst (pc := 0) hx 0 dX8_roofsWithTunes_0 ?_
  refine E_istore_n (pc := 1) hx dX8_roofsWithTunes_1 rfl (Nat.le_of_ble_eq_true rfl) rfl ?_
  refine I_iconst (pc := 2) hx 0 dX8_roofsWithTunes_2 ?_
  refine E_istore_n (pc := 3) hx dX8_roofsWithTunes_3 rfl (Nat.le_of_ble_eq_true rfl) rfl ?_
  refine En.sub [2, 1, 0] rfl ?_
  exact l_X8_roofsWithTunes_b4 F a0 h0 w hx F 0 0
set_option maxHeartbeats 4000000 in
set_option maxRecDepth 100000 in
theorem ev_X8_breathsFor (F : Nat) (a0 : Nat) (h0 : shK a0 = 10 + 2) (p1 : Int) (p2 : Int) (w : aI) : Ev yX8_breathsFor cX8_breathsFor 4 (some .int) 1 0 (jvI w) [.ref a0, .int (oI p1), .int (oI p2)] (cm w) (f_X8_breathsFor F a0 p1 p2 w) := by
  refine Ev.of (own := RX8) (by decide +kernel) rfl (Nat.le_of_ble_eq_true rfl) (fun x hx => ?_)
  show En x (jvI w) 0 0 0 [(0, .ref a0), (1, .int (oI p1)), (2, .int (oI p2))] [] (cm w) _
  unfold f_X8_breathsFor
  refine I_iconst (pc := 0) hx 1 dX8_breathsFor_0 ?_
  refine E_aload_n (pc := 1) hx 0 dX8_breathsFor_1 rfl rfl ?_
  refine E_getR (pc := 2) hx 4 fc2 h0 rfl ⟨rfl, rfl, rfl⟩ g223 dX8_breathsFor_2 ?_
  refine E_iload_n (pc := 5) hx 1 dX8_breathsFor_5 rfl rfl ?_
  refine I_iconst (pc := 6) hx 0 dX8_breathsFor_6 ?_
  refine I_cVI  (pc := 7) hx [.int (oI p1), .int (oI 0)] [.int (oI 1)] (ev_X7_get F (shR a0 4) (kt_2_4 h0) p1 0 w) vm_X7_get fc6 (kt_2_4 h0) g733 dX8_breathsFor_7 rfl rfl (Nat.le_of_ble_eq_true rfl) (Nat.le_of_ble_eq_true rfl) (Nat.le_of_ble_eq_true rfl) (fun r1 => ?_)
  refine E_gd (fun hr2 => ?_)
  refine I_mmax (pc := 10) hx ⟨(by decide), hr2⟩ g805 g746 g121 g747 (Nat.le_of_ble_eq_true rfl) (Nat.le_of_ble_eq_true rfl) (Nat.le_of_ble_eq_true rfl) dX8_breathsFor_10 ?_
  refine I_ltv (fun v3_3 => ?_)
  refine E_istore_n (pc := 13) hx dX8_breathsFor_13 rfl (Nat.le_of_ble_eq_true rfl) rfl ?_
  refine E_aload_n (pc := 14) hx 1 dX8_breathsFor_14 rfl rfl ?_
  refine E_getR (pc := 15) hx 6 fc2 h0 rfl ⟨rfl, rfl, rfl⟩ g231 dX8_breathsFor_15 ?_
  refine E_iload_n (pc := 18) hx 3 dX8_breathsFor_18 rfl rfl ?_
  refine I_iconst (pc := 19) hx 2 dX8_breathsFor_19 ?_
  refine I_cVI  (pc := 20) hx [.int (oI p2), .int (oI 2)] [] (ev_X7_get F (shR a0 6) (kt_2_6 h0) p2 2 w) vm_X7_get fc6 (kt_2_6 h0) g733 dX8_breathsFor_20 rfl rfl (Nat.le_of_ble_eq_true rfl) (Nat.le_of_ble_eq_true rfl) (Nat.le_of_ble_eq_true rfl) (fun r4 => ?_)
  refine E_iload_n (pc := 23) hx 0 dX8_breathsFor_23 rfl rfl ?_
  refine I_iadd (pc := 24) hx dX8_breathsFor_24 ?_
  refine I_iconst (pc := 25) hx 1 dX8_breathsFor_25 ?_
  refine I_isub (pc := 26) hx dX8_breathsFor_26 ?_
  refine E_iload_n (pc := 27) hx 0 dX8_breathsFor_27 rfl rfl ?_
  refine E_gd (fun hr5 => ?_)
  refine E_gd (fun hd6 => ?_)
  refine I_idiv (pc := 28) hx dX8_breathsFor_28 ⟨hr5.1, hr5.2, hd6⟩ ?_
  exact E_iret (pc := 29) hx dX8_breathsFor_29 rfl rfl (Nat.le_of_ble_eq_true rfl)
set_option maxHeartbeats 4000000 in
set_option maxRecDepth 100000 in
theorem ev_X8_whistle (F : Nat) (a0 : Nat) (h0 : shK a0 = 10 + 2) (p1 : Int) (p2 : Int) (w : aI) : Ev yX8_whistle cX8_whistle 7 none 2 0 jvV [.ref a0, .int (oI p1), .int (oI p2)] (cm w) (f_X8_whistle F a0 p1 p2 w) := by
  refine Ev.of (own := RX8) (by decide +kernel) rfl (Nat.le_of_ble_eq_true rfl) (fun x hx => ?_)
  show En x jvV 0 0 0 [(0, .ref a0), (1, .int (oI p1)), (2, .int (oI p2))] [] (cm w) _
  unfold f_X8_whistle
  refine E_aload_n (pc := 0) hx 0 dX8_whistle_0 rfl rfl ?_
  refine E_getR (pc := 1) hx 4 fc2 h0 rfl ⟨rfl, rfl, rfl⟩ g223 dX8_whistle_1 ?_
  refine E_iload_n (pc := 4) hx 1 dX8_whistle_4 rfl rfl ?_
  refine I_iconst (pc := 5) hx 2 dX8_whistle_5 ?_
  refine I_cVI  (pc := 6) hx [.int (oI p1), .int (oI 2)] [] (ev_X7_get F (shR a0 4) (kt_2_4 h0) p1 2 w) vm_X7_get fc6 (kt_2_4 h0) g733 dX8_whistle_6 rfl rfl (Nat.le_of_ble_eq_true rfl) (Nat.le_of_ble_eq_true rfl) (Nat.le_of_ble_eq_true rfl) (fun r1 => ?_)
  refine E_aload_n (pc := 9) hx 0 dX8_whistle_9 rfl rfl ?_
  refine E_iload_n (pc := 10) hx 2 dX8_whistle_10 rfl rfl ?_
  refine I_cVI  (pc := 11) hx [.int (oI p2)] [.int (oI r1)] (ev_X2_barsOfTune F a0 h0 p2 w) vm_X2_barsOfTune fc2 h0 g800 dX8_whistle_11 rfl rfl (Nat.le_of_ble_eq_true rfl) (Nat.le_of_ble_eq_true rfl) (Nat.le_of_ble_eq_true rfl) (fun r2 => ?_)
  refine I_imul (pc := 14) hx dX8_whistle_14 ?_
  refine I_ltv (fun v3_3 => ?_)
  refine E_istore_n (pc := 15) hx dX8_whistle_15 rfl (Nat.le_of_ble_eq_true rfl) rfl ?_
  refine E_aload_n (pc := 16) hx 1 dX8_whistle_16 rfl rfl ?_
  refine E_getR (pc := 17) hx 4 fc2 h0 rfl ⟨rfl, rfl, rfl⟩ g223 dX8_whistle_17 ?_
  refine E_aload_n (pc := 20) hx 1 dX8_whistle_20 rfl rfl ?_
  refine E_getR (pc := 21) hx 6 fc2 h0 rfl ⟨rfl, rfl, rfl⟩ g231 dX8_whistle_21 ?_
  refine E_iload_n (pc := 24) hx 3 dX8_whistle_24 rfl rfl ?_
  refine I_iconst (pc := 25) hx 0 dX8_whistle_25 ?_
  refine I_cVI  (pc := 26) hx [.int (oI p2), .int (oI 0)] [.ref (shR a0 4)] (ev_X7_get F (shR a0 6) (kt_2_6 h0) p2 0 w) vm_X7_get fc6 (kt_2_6 h0) g733 dX8_whistle_26 rfl rfl (Nat.le_of_ble_eq_true rfl) (Nat.le_of_ble_eq_true rfl) (Nat.le_of_ble_eq_true rfl) (fun r4 => ?_)
  refine I_iconst (pc := 29) hx 3 dX8_whistle_29 ?_
  refine E_iload_n (pc := 30) hx 0 dX8_whistle_30 rfl rfl ?_
  refine I_ineg (pc := 31) hx dX8_whistle_31 ?_
  refine I_cVV  (pc := 32) hx [.int (oI r4), .int (oI 3), .int (oI (-v3_3))] [] (ev_X7_grow F (shR a0 4) (kt_2_4 h0) r4 3 (-v3_3) w) vm_X7_grow fc6 (kt_2_4 h0) g759 dX8_whistle_32 rfl rfl (Nat.le_of_ble_eq_true rfl) (Nat.le_of_ble_eq_true rfl) (Nat.le_of_ble_eq_true rfl) (fun w5 => ?_)
  refine E_aload_n (pc := 35) hx 1 dX8_whistle_35 rfl rfl ?_
  refine E_getR (pc := 36) hx 4 fc2 h0 rfl ⟨rfl, rfl, rfl⟩ g223 dX8_whistle_36 ?_
  refine E_iload_n (pc := 39) hx 2 dX8_whistle_39 rfl rfl ?_
  refine I_iconst (pc := 40) hx 3 dX8_whistle_40 ?_
  refine E_iload_n (pc := 41) hx 0 dX8_whistle_41 rfl rfl ?_
  refine I_cVV  (pc := 42) hx [.int (oI p1), .int (oI 3), .int (oI v3_3)] [] (ev_X7_grow F (shR a0 4) (kt_2_4 h0) p1 3 v3_3 w5) vm_X7_grow fc6 (kt_2_4 h0) g759 dX8_whistle_42 rfl rfl (Nat.le_of_ble_eq_true rfl) (Nat.le_of_ble_eq_true rfl) (Nat.le_of_ble_eq_true rfl) (fun w6 => ?_)
  refine E_aload_n (pc := 45) hx 1 dX8_whistle_45 rfl rfl ?_
  refine I_bipush (pc := 46) hx 9 dX8_whistle_46 rfl ?_
  refine E_iload_n (pc := 48) hx 0 dX8_whistle_48 rfl rfl ?_
  refine I_cVV  (pc := 49) hx [.int (oI 9), .int (oI v3_3)] [] (ev_X2_enter F a0 h0 9 v3_3 w6) vm_X2_enter fc2 h0 g729 dX8_whistle_49 rfl rfl (Nat.le_of_ble_eq_true rfl) (Nat.le_of_ble_eq_true rfl) (Nat.le_of_ble_eq_true rfl) (fun w7 => ?_)
  refine E_aload_n (pc := 52) hx 1 dX8_whistle_52 rfl rfl ?_
  refine E_iload_n (pc := 53) hx 3 dX8_whistle_53 rfl rfl ?_
  refine I_cVI  (pc := 54) hx [.int (oI p2)] [] (ev_X2_nextOf F a0 h0 p2 w7) vm_X2_nextOf fc2 h0 g801 dX8_whistle_54 rfl rfl (Nat.le_of_ble_eq_true rfl) (Nat.le_of_ble_eq_true rfl) (Nat.le_of_ble_eq_true rfl) (fun r8 => ?_)
  refine E_istore (pc := 57) hx dX8_whistle_57 (Nat.le_of_ble_eq_true rfl) rfl ?_
  refine E_aload_n (pc := 59) hx 2 dX8_whistle_59 rfl rfl ?_
  refine E_getR (pc := 60) hx 9 fc2 h0 rfl ⟨rfl, rfl, rfl⟩ g240 dX8_whistle_60 ?_
  refine E_getR (pc := 63) hx 0 fc3 (kt_2_9 h0) rfl ⟨rfl, rfl, rfl⟩ g188 dX8_whistle_63 ?_
  refine E_iload_n (pc := 66) hx 3 dX8_whistle_66 rfl rfl ?_
  refine E_iload (pc := 67) hx 0 dX8_whistle_67 rfl ?_
  refine I_cVI  (pc := 69) hx [.int (oI p1), .int (oI r8)] [] (ev_X7_get F (shR (shR a0 9) 0) (kt_3_0 (kt_2_9 h0)) p1 r8 w7) vm_X7_get fc6 (kt_3_0 (kt_2_9 h0)) g733 dX8_whistle_69 rfl rfl (Nat.le_of_ble_eq_true rfl) (Nat.le_of_ble_eq_true rfl) (Nat.le_of_ble_eq_true rfl) (fun r9 => ?_)
  refine E_istore (pc := 72) hx dX8_whistle_72 (Nat.le_of_ble_eq_true rfl) rfl ?_
  refine E_aload_n (pc := 74) hx 3 dX8_whistle_74 rfl rfl ?_
  refine I_getI (pc := 75) hx 0 0 rfl fc2 h0 rfl ⟨rfl, rfl, rfl⟩ g203 dX8_whistle_75 ?_
  refine E_aload_n (pc := 78) hx 3 dX8_whistle_78 rfl rfl ?_
  refine E_iload_n (pc := 79) hx 4 dX8_whistle_79 rfl rfl ?_
  refine E_iload_n (pc := 80) hx 5 dX8_whistle_80 rfl rfl ?_
  refine I_cSI  (pc := 81) hx [.ref a0, .int (oI p1), .int (oI p2)] [.int (oI (w7 a0 0))] (ev_X8_breathsFor F a0 h0 p1 p2 w7) sm_X8_breathsFor g802 dX8_whistle_81 rfl rfl (Nat.le_of_ble_eq_true rfl) (Nat.le_of_ble_eq_true rfl) (Nat.le_of_ble_eq_true rfl) (fun r10 => ?_)
  refine I_iadd (pc := 84) hx dX8_whistle_84 ?_
  refine I_ltv (fun v6_11 => ?_)
  refine E_istore (pc := 85) hx dX8_whistle_85 (Nat.le_of_ble_eq_true rfl) rfl ?_
  refine E_aload_n (pc := 87) hx 4 dX8_whistle_87 rfl rfl ?_
  refine E_getR (pc := 88) hx 4 fc2 h0 rfl ⟨rfl, rfl, rfl⟩ g223 dX8_whistle_88 ?_
  refine E_iload_n (pc := 91) hx 5 dX8_whistle_91 rfl rfl ?_
  refine I_iconst (pc := 92) hx 4 dX8_whistle_92 ?_
  refine E_iload (pc := 93) hx 0 dX8_whistle_93 rfl ?_
  refine I_cVV  (pc := 95) hx [.int (oI p1), .int (oI 4), .int (oI v6_11)] [] (ev_X7_put F (shR a0 4) (kt_2_4 h0) p1 4 v6_11 w7) vm_X7_put fc6 (kt_2_4 h0) g755 dX8_whistle_95 rfl rfl (Nat.le_of_ble_eq_true rfl) (Nat.le_of_ble_eq_true rfl) (Nat.le_of_ble_eq_true rfl) (fun w12 => ?_)
  refine E_aload_n (pc := 98) hx 4 dX8_whistle_98 rfl rfl ?_
  refine E_getR (pc := 99) hx 4 fc2 h0 rfl ⟨rfl, rfl, rfl⟩ g223 dX8_whistle_99 ?_
  refine E_iload_n (pc := 102) hx 5 dX8_whistle_102 rfl rfl ?_
  refine I_bipush (pc := 103) hx 7 dX8_whistle_103 rfl ?_
  refine I_iconst (pc := 105) hx 1 dX8_whistle_105 ?_
  refine I_cVV  (pc := 106) hx [.int (oI p1), .int (oI 7), .int (oI 1)] [] (ev_X7_grow F (shR a0 4) (kt_2_4 h0) p1 7 1 w12) vm_X7_grow fc6 (kt_2_4 h0) g759 dX8_whistle_106 rfl rfl (Nat.le_of_ble_eq_true rfl) (Nat.le_of_ble_eq_true rfl) (Nat.le_of_ble_eq_true rfl) (fun w13 => ?_)
  refine E_aload_n (pc := 109) hx 4 dX8_whistle_109 rfl rfl ?_
  refine E_getR (pc := 110) hx 6 fc2 h0 rfl ⟨rfl, rfl, rfl⟩ g231 dX8_whistle_110 ?_
  refine E_iload_n (pc := 113) hx 6 dX8_whistle_113 rfl rfl ?_
  refine I_iconst (pc := 114) hx 3 dX8_whistle_114 ?_
  refine I_iconst (pc := 115) hx 1 dX8_whistle_115 ?_
  refine I_cVV  (pc := 116) hx [.int (oI p2), .int (oI 3), .int (oI 1)] [] (ev_X7_put F (shR a0 6) (kt_2_6 h0) p2 3 1 w13) vm_X7_put fc6 (kt_2_6 h0) g755 dX8_whistle_116 rfl rfl (Nat.le_of_ble_eq_true rfl) (Nat.le_of_ble_eq_true rfl) (Nat.le_of_ble_eq_true rfl) (fun w14 => ?_)
  refine E_aload_n (pc := 119) hx 4 dX8_whistle_119 rfl rfl ?_
  refine E_getR (pc := 120) hx 6 fc2 h0 rfl ⟨rfl, rfl, rfl⟩ g231 dX8_whistle_120 ?_
  refine E_iload_n (pc := 123) hx 6 dX8_whistle_123 rfl rfl ?_
  refine I_iconst (pc := 124) hx 4 dX8_whistle_124 ?_
  refine E_iload (pc := 125) hx 2 dX8_whistle_125 rfl ?_
  refine I_cVV  (pc := 127) hx [.int (oI p2), .int (oI 4), .int (oI r8)] [] (ev_X7_put F (shR a0 6) (kt_2_6 h0) p2 4 r8 w14) vm_X7_put fc6 (kt_2_6 h0) g755 dX8_whistle_127 rfl rfl (Nat.le_of_ble_eq_true rfl) (Nat.le_of_ble_eq_true rfl) (Nat.le_of_ble_eq_true rfl) (fun w15 => ?_)
  refine E_aload_n (pc := 130) hx 4 dX8_whistle_130 rfl rfl ?_
  refine E_getR (pc := 131) hx 6 fc2 h0 rfl ⟨rfl, rfl, rfl⟩ g231 dX8_whistle_131 ?_
  refine E_iload_n (pc := 134) hx 6 dX8_whistle_134 rfl rfl ?_
  refine I_iconst (pc := 135) hx 5 dX8_whistle_135 ?_
  refine E_iload (pc := 136) hx 0 dX8_whistle_136 rfl ?_
  refine E_iload (pc := 138) hx 1 dX8_whistle_138 rfl ?_
  refine I_iadd (pc := 140) hx dX8_whistle_140 ?_
  refine I_cVV  (pc := 141) hx [.int (oI p2), .int (oI 5), .int (oI (v6_11 + r9))] [] (ev_X7_put F (shR a0 6) (kt_2_6 h0) p2 5 (v6_11 + r9) w15) vm_X7_put fc6 (kt_2_6 h0) g755 dX8_whistle_141 rfl rfl (Nat.le_of_ble_eq_true rfl) (Nat.le_of_ble_eq_true rfl) (Nat.le_of_ble_eq_true rfl) (fun w16 => ?_)
  refine E_aload_n (pc := 144) hx 4 dX8_whistle_144 rfl rfl ?_
  refine E_getR (pc := 145) hx 6 fc2 h0 rfl ⟨rfl, rfl, rfl⟩ g231 dX8_whistle_145 ?_
  refine E_iload_n (pc := 148) hx 6 dX8_whistle_148 rfl rfl ?_
  refine I_bipush (pc := 149) hx 12 dX8_whistle_149 rfl ?_
  refine E_iload (pc := 151) hx 1 dX8_whistle_151 rfl ?_
  refine I_cVV  (pc := 153) hx [.int (oI p2), .int (oI 12), .int (oI r9)] [] (ev_X7_put F (shR a0 6) (kt_2_6 h0) p2 12 r9 w16) vm_X7_put fc6 (kt_2_6 h0) g755 dX8_whistle_153 rfl rfl (Nat.le_of_ble_eq_true rfl) (Nat.le_of_ble_eq_true rfl) (Nat.le_of_ble_eq_true rfl) (fun w17 => ?_)
  refine E_aload_n (pc := 156) hx 4 dX8_whistle_156 rfl rfl ?_
  refine E_getR (pc := 157) hx 6 fc2 h0 rfl ⟨rfl, rfl, rfl⟩ g231 dX8_whistle_157 ?_
  refine E_iload_n (pc := 160) hx 6 dX8_whistle_160 rfl rfl ?_
  refine I_bipush (pc := 161) hx 11 dX8_whistle_161 rfl ?_
  refine I_iconst (pc := 163) hx 1 dX8_whistle_163 ?_
  refine I_cVV  (pc := 164) hx [.int (oI p2), .int (oI 11), .int (oI 1)] [] (ev_X7_grow F (shR a0 6) (kt_2_6 h0) p2 11 1 w17) vm_X7_grow fc6 (kt_2_6 h0) g759 dX8_whistle_164 rfl rfl (Nat.le_of_ble_eq_true rfl) (Nat.le_of_ble_eq_true rfl) (Nat.le_of_ble_eq_true rfl) (fun w18 => ?_)
  refine E_aload_n (pc := 167) hx 4 dX8_whistle_167 rfl rfl ?_
  refine I_iconst (pc := 168) hx 3 dX8_whistle_168 ?_
  refine I_iconst (pc := 169) hx 1 dX8_whistle_169 ?_
  refine I_cVV  (pc := 170) hx [.int (oI 3), .int (oI 1)] [] (ev_X2_enter F a0 h0 3 1 w18) vm_X2_enter fc2 h0 g729 dX8_whistle_170 rfl rfl (Nat.le_of_ble_eq_true rfl) (Nat.le_of_ble_eq_true rfl) (Nat.le_of_ble_eq_true rfl) (fun w19 => ?_)
  exact E_vret (pc := 173) hx dX8_whistle_173 rfl rfl (Nat.le_of_ble_eq_true rfl)
set_option maxHeartbeats 4000000 in
set_option maxRecDepth 100000 in
theorem l_X8_whistleAll_b7_b {x : Cx} (F : Nat) (a0 : Nat) (h0 : shK a0 = 10 + 2)  (hx : CxOK x RX8 cX8_whistleAll 4 3 0 none)  (k7 : Int → Int → aI → Option aI) (hk7 : ∀ (v1 : Int) (v2 : Int) (w : aI), En x jvV 0 0 7 [(0, .ref a0), (1, .int (oI v1)), (2, .int (oI v2))] [] (cm w) (k7 v1 v2 w)) (v1 : Int) (v2 : Int) (w : aI) : En x jvV 0 0 7 [(0, .ref a0), (1, .int (oI v1)), (2, .int (oI v2))] [] (cm w) (f_X8_whistleAll_b7_b F a0   k7 v1 v2 w) := by
  unfold f_X8_whistleAll_b7_b
  refine E_iload_n (pc := 7) hx 2 dX8_whistleAll_7 rfl rfl ?_
  refine E_aload_n (pc := 8) hx 0 dX8_whistleAll_8 rfl rfl ?_
  refine I_getI (pc := 9) hx 1 1 rfl fc2 h0 rfl ⟨rfl, rfl, rfl⟩ g210 dX8_whistleAll_9 ?_
  refine E_gd (fun hr2 => ?_)
  refine I_icmp_ge (pc := 12) hx 59 dX8_whistleAll_12 rfl ⟨hr2.1, hr2.2⟩ ?_ ?_
  · exact E_vret (pc := 59) hx dX8_whistleAll_59 rfl rfl (Nat.le_of_ble_eq_true rfl)
  refine E_iload_n (pc := 15) hx 1 dX8_whistleAll_15 rfl rfl ?_
  refine E_iload_n (pc := 16) hx 2 dX8_whistleAll_16 rfl rfl ?_
  refine E_gd (fun hr3 => ?_)
  refine E_gd (fun hs4 => ?_)
  refine I_ishr (pc := 17) hx dX8_whistleAll_17 ⟨hr3, hs4⟩ ?_
  refine I_iconst (pc := 18) hx 1 dX8_whistleAll_18 ?_
  refine I_iand (pc := 19) hx dX8_whistleAll_19 ?_
  refine I_iconst (pc := 20) hx 1 dX8_whistleAll_20 ?_
  refine E_gd (fun hr5 => ?_)
  refine I_icmp_ne (pc := 21) hx 53 dX8_whistleAll_21 rfl ⟨hr5, (by decide)⟩ ?_ ?_
  · refine I_iinc (pc := 53) hx 1 2 dX8_whistleAll_53 rfl (Nat.le_of_ble_eq_true rfl) rfl ?_
    refine E_goto (pc := 56) hx 7 dX8_whistleAll_56 rfl ?_
    refine En.sub [1, 2, 0] rfl ?_
    exact hk7 v1 (v2 + 1) w
  refine E_aload_n (pc := 24) hx 0 dX8_whistleAll_24 rfl rfl ?_
  refine E_iload_n (pc := 25) hx 2 dX8_whistleAll_25 rfl rfl ?_
  refine E_aload_n (pc := 26) hx 0 dX8_whistleAll_26 rfl rfl ?_
  refine I_getI (pc := 27) hx 0 0 rfl fc2 h0 rfl ⟨rfl, rfl, rfl⟩ g203 dX8_whistleAll_27 ?_
  refine I_cVB  (pc := 30) hx [.int (oI v2), .int (oI (w a0 0))] [] (ev_X2_isBusy F a0 h0 v2 (w a0 0) w) vm_X2_isBusy fc2 h0 g770 dX8_whistleAll_30 rfl rfl (Nat.le_of_ble_eq_true rfl) (Nat.le_of_ble_eq_true rfl) (Nat.le_of_ble_eq_true rfl) (fun r6 => ?_)
  refine I_ifB_ne (pc := 33) hx 53 dX8_whistleAll_33 rfl ?_ ?_
  · refine I_iinc (pc := 53) hx 1 2 dX8_whistleAll_53 rfl (Nat.le_of_ble_eq_true rfl) rfl ?_
    refine E_goto (pc := 56) hx 7 dX8_whistleAll_56 rfl ?_
    refine En.sub [1, 2, 0] rfl ?_
    exact hk7 v1 (v2 + 1) w
  refine E_aload_n (pc := 36) hx 0 dX8_whistleAll_36 rfl rfl ?_
  refine E_iload_n (pc := 37) hx 2 dX8_whistleAll_37 rfl rfl ?_
  refine I_cVI  (pc := 38) hx [.int (oI v2)] [] (ev_X2_firstToGoFrom F a0 h0 v2 w) vm_X2_firstToGoFrom fc2 h0 g774 dX8_whistleAll_38 rfl rfl (Nat.le_of_ble_eq_true rfl) (Nat.le_of_ble_eq_true rfl) (Nat.le_of_ble_eq_true rfl) (fun r7 => ?_)
  refine E_istore_n (pc := 41) hx dX8_whistleAll_41 rfl (Nat.le_of_ble_eq_true rfl) rfl ?_
  refine E_iload_n (pc := 42) hx 0 dX8_whistleAll_42 rfl rfl ?_
  refine I_iconst (pc := 43) hx (-1) dX8_whistleAll_43 ?_
  refine E_gd (fun hr8 => ?_)
  refine I_icmp_eq (pc := 44) hx 53 dX8_whistleAll_44 rfl ⟨hr8, (by decide)⟩ ?_ ?_
  · refine I_iinc (pc := 53) hx 1 3 dX8_whistleAll_53 rfl (Nat.le_of_ble_eq_true rfl) rfl ?_
    refine E_goto (pc := 56) hx 7 dX8_whistleAll_56 rfl ?_
    refine En.sub [2, 3, 0] rfl ?_
    exact hk7 v1 (v2 + 1) w
  refine E_aload_n (pc := 47) hx 1 dX8_whistleAll_47 rfl rfl ?_
  refine E_iload_n (pc := 48) hx 3 dX8_whistleAll_48 rfl rfl ?_
  refine E_iload_n (pc := 49) hx 0 dX8_whistleAll_49 rfl rfl ?_
  refine I_cSV  (pc := 50) hx [.ref a0, .int (oI v2), .int (oI r7)] [] (ev_X8_whistle F a0 h0 v2 r7 w) sm_X8_whistle g797 dX8_whistleAll_50 rfl rfl (Nat.le_of_ble_eq_true rfl) (Nat.le_of_ble_eq_true rfl) (Nat.le_of_ble_eq_true rfl) (fun w9 => ?_)
  refine I_iinc (pc := 53) hx 1 3 dX8_whistleAll_53 rfl (Nat.le_of_ble_eq_true rfl) rfl ?_
  refine E_goto (pc := 56) hx 7 dX8_whistleAll_56 rfl ?_
  refine En.sub [2, 3, 0] rfl ?_
  exact hk7 v1 (v2 + 1) w9
theorem l_X8_whistleAll_b7 {x : Cx} (F : Nat) (a0 : Nat) (h0 : shK a0 = 10 + 2)  (hx : CxOK x RX8 cX8_whistleAll 4 3 0 none)  : ∀ (n : Nat) (v1 : Int) (v2 : Int) (w : aI), En x jvV 0 0 7 [(0, .ref a0), (1, .int (oI v1)), (2, .int (oI v2))] [] (cm w) (f_X8_whistleAll_b7 F a0   n v1 v2 w) := by
  intro n
  induction n with
  | zero => intro v1 v2 w; exact E_none
  | succ n ih => intro v1 v2 w; exact l_X8_whistleAll_b7_b F a0 h0  hx  _ ih v1 v2 w
set_option maxHeartbeats 4000000 in
set_option maxRecDepth 100000 in
theorem ev_X8_whistleAll (F : Nat) (a0 : Nat) (h0 : shK a0 = 10 + 2) (w : aI) : Ev yX8_whistleAll cX8_whistleAll 4 none 3 0 jvV [.ref a0] (cm w) (f_X8_whistleAll F a0 w) := by
  refine Ev.of (own := RX8) (by decide +kernel) rfl (Nat.le_of_ble_eq_true rfl) (fun x hx => ?_)
  show En x jvV 0 0 0 [(0, .ref a0)] [] (cm w) _
  unfold f_X8_whistleAll
  refine E_aload_n (pc := 0) hx 0 dX8_whistleAll_0 rfl rfl ?_
  refine I_cSI  (pc := 1) hx [.ref a0] [] (ev_X8_roofsWithTunes F a0 h0 w) sm_X8_roofsWithTunes g767 dX8_whistleAll_1 rfl rfl (Nat.le_of_ble_eq_true rfl) (Nat.le_of_ble_eq_true rfl) (Nat.le_of_ble_eq_true rfl) (fun r1 => ?_)
  refine E_istore_n (pc := 4) hx dX8_whistleAll_4 rfl (Nat.le_of_ble_eq_true rfl) rfl ?_
  refine I_iconst (pc := 5) hx 0 dX8_whistleAll_5 ?_
  refine E_istore_n (pc := 6) hx dX8_whistleAll_6 rfl (Nat.le_of_ble_eq_true rfl) rfl ?_
  refine En.sub [2, 1, 0] rfl ?_
  exact l_X8_whistleAll_b7 F a0 h0 hx F r1 0 w
set_option maxHeartbeats 4000000 in
set_option maxRecDepth 100000 in
theorem l_X8_loseAll_b2_b {x : Cx} (F : Nat) (a0 : Nat) (h0 : shK a0 = 10 + 2)  (hx : CxOK x RX8 cX8_loseAll 2 2 0 none)  (k2 : Int → aI → Option aI) (hk2 : ∀ (v1 : Int) (w : aI), En x jvV 0 0 2 [(0, .ref a0), (1, .int (oI v1))] [] (cm w) (k2 v1 w)) (v1 : Int) (w : aI) : En x jvV 0 0 2 [(0, .ref a0), (1, .int (oI v1))] [] (cm w) (f_X8_loseAll_b2_b F a0   k2 v1 w) := by
  unfold f_X8_loseAll_b2_b
  refine E_iload_n (pc := 2) hx 1 dX8_loseAll_2 rfl rfl ?_
  refine E_aload_n (pc := 3) hx 0 dX8_loseAll_3 rfl rfl ?_
  refine I_getI (pc := 4) hx 3 3 rfl fc2 h0 rfl ⟨rfl, rfl, rfl⟩ g218 dX8_loseAll_4 ?_
  refine E_gd (fun hr1 => ?_)
  refine I_icmp_ge (pc := 7) hx 54 dX8_loseAll_7 rfl ⟨hr1.1, hr1.2⟩ ?_ ?_
  · exact E_vret (pc := 54) hx dX8_loseAll_54 rfl rfl (Nat.le_of_ble_eq_true rfl)
  refine E_aload_n (pc := 10) hx 0 dX8_loseAll_10 rfl rfl ?_
  refine E_getR (pc := 11) hx 6 fc2 h0 rfl ⟨rfl, rfl, rfl⟩ g231 dX8_loseAll_11 ?_
  refine E_iload_n (pc := 14) hx 1 dX8_loseAll_14 rfl rfl ?_
  refine I_iconst (pc := 15) hx 3 dX8_loseAll_15 ?_
  refine I_cVI  (pc := 16) hx [.int (oI v1), .int (oI 3)] [] (ev_X7_get F (shR a0 6) (kt_2_6 h0) v1 3 w) vm_X7_get fc6 (kt_2_6 h0) g733 dX8_loseAll_16 rfl rfl (Nat.le_of_ble_eq_true rfl) (Nat.le_of_ble_eq_true rfl) (Nat.le_of_ble_eq_true rfl) (fun r2 => ?_)
  refine E_gd (fun hr3 => ?_)
  refine I_if_ne (pc := 19) hx 48 dX8_loseAll_19 rfl hr3 ?_ ?_
  · refine I_iinc (pc := 48) hx 1 1 dX8_loseAll_48 rfl (Nat.le_of_ble_eq_true rfl) rfl ?_
    refine E_goto (pc := 51) hx 2 dX8_loseAll_51 rfl ?_
    refine En.sub [1, 0] rfl ?_
    exact hk2 (v1 + 1) w
  refine E_aload_n (pc := 22) hx 0 dX8_loseAll_22 rfl rfl ?_
  refine E_iload_n (pc := 23) hx 1 dX8_loseAll_23 rfl rfl ?_
  refine I_cVI  (pc := 24) hx [.int (oI v1)] [] (ev_X2_nextOf F a0 h0 v1 w) vm_X2_nextOf fc2 h0 g801 dX8_loseAll_24 rfl rfl (Nat.le_of_ble_eq_true rfl) (Nat.le_of_ble_eq_true rfl) (Nat.le_of_ble_eq_true rfl) (fun r4 => ?_)
  refine I_iconst (pc := 27) hx (-1) dX8_loseAll_27 ?_
  refine E_gd (fun hr5 => ?_)
  refine I_icmp_ne (pc := 28) hx 48 dX8_loseAll_28 rfl ⟨hr5, (by decide)⟩ ?_ ?_
  · refine I_iinc (pc := 48) hx 1 1 dX8_loseAll_48 rfl (Nat.le_of_ble_eq_true rfl) rfl ?_
    refine E_goto (pc := 51) hx 2 dX8_loseAll_51 rfl ?_
    refine En.sub [1, 0] rfl ?_
    exact hk2 (v1 + 1) w
  refine E_aload_n (pc := 31) hx 0 dX8_loseAll_31 rfl rfl ?_
  refine E_getR (pc := 32) hx 6 fc2 h0 rfl ⟨rfl, rfl, rfl⟩ g231 dX8_loseAll_32 ?_
  refine E_iload_n (pc := 35) hx 1 dX8_loseAll_35 rfl rfl ?_
  refine I_iconst (pc := 36) hx 3 dX8_loseAll_36 ?_
  refine I_iconst (pc := 37) hx 3 dX8_loseAll_37 ?_
  refine I_cVV  (pc := 38) hx [.int (oI v1), .int (oI 3), .int (oI 3)] [] (ev_X7_put F (shR a0 6) (kt_2_6 h0) v1 3 3 w) vm_X7_put fc6 (kt_2_6 h0) g755 dX8_loseAll_38 rfl rfl (Nat.le_of_ble_eq_true rfl) (Nat.le_of_ble_eq_true rfl) (Nat.le_of_ble_eq_true rfl) (fun w6 => ?_)
  refine E_aload_n (pc := 41) hx 0 dX8_loseAll_41 rfl rfl ?_
  refine I_bipush (pc := 42) hx 8 dX8_loseAll_42 rfl ?_
  refine I_iconst (pc := 44) hx 1 dX8_loseAll_44 ?_
  refine I_cVV  (pc := 45) hx [.int (oI 8), .int (oI 1)] [] (ev_X2_enter F a0 h0 8 1 w6) vm_X2_enter fc2 h0 g729 dX8_loseAll_45 rfl rfl (Nat.le_of_ble_eq_true rfl) (Nat.le_of_ble_eq_true rfl) (Nat.le_of_ble_eq_true rfl) (fun w7 => ?_)
  refine I_iinc (pc := 48) hx 1 1 dX8_loseAll_48 rfl (Nat.le_of_ble_eq_true rfl) rfl ?_
  refine E_goto (pc := 51) hx 2 dX8_loseAll_51 rfl ?_
  refine En.sub [1, 0] rfl ?_
  exact hk2 (v1 + 1) w7
theorem l_X8_loseAll_b2 {x : Cx} (F : Nat) (a0 : Nat) (h0 : shK a0 = 10 + 2)  (hx : CxOK x RX8 cX8_loseAll 2 2 0 none)  : ∀ (n : Nat) (v1 : Int) (w : aI), En x jvV 0 0 2 [(0, .ref a0), (1, .int (oI v1))] [] (cm w) (f_X8_loseAll_b2 F a0   n v1 w) := by
  intro n
  induction n with
  | zero => intro v1 w; exact E_none
  | succ n ih => intro v1 w; exact l_X8_loseAll_b2_b F a0 h0  hx  _ ih v1 w
set_option maxHeartbeats 4000000 in
set_option maxRecDepth 100000 in
theorem ev_X8_loseAll (F : Nat) (a0 : Nat) (h0 : shK a0 = 10 + 2) (w : aI) : Ev yX8_loseAll cX8_loseAll 2 none 2 0 jvV [.ref a0] (cm w) (f_X8_loseAll F a0 w) := by
  refine Ev.of (own := RX8) (by decide +kernel) rfl (Nat.le_of_ble_eq_true rfl) (fun x hx => ?_)
  show En x jvV 0 0 0 [(0, .ref a0)] [] (cm w) _
  unfold f_X8_loseAll
  refine I_iconst (pc := 0) hx 0 dX8_loseAll_0 ?_
  refine E_istore_n (pc := 1) hx dX8_loseAll_1 rfl (Nat.le_of_ble_eq_true rfl) rfl ?_
  refine En.sub [1, 0] rfl ?_
  exact l_X8_loseAll_b2 F a0 h0 hx F 0 w
set_option maxHeartbeats 4000000 in
set_option maxRecDepth 100000 in
theorem l_X8_run_b2_b {x : Cx} (F : Nat) (a0 : Nat) (h0 : shK a0 = 10 + 2) (p1 : Int)  (hx : CxOK x RX8 cX8_run 3 5 0 none)  (k2 : Int → aI → Option aI) (hk2 : ∀ (v2 : Int) (w : aI), En x jvV 0 0 2 [(0, .ref a0), (1, .int (oI p1)), (2, .int (oI v2))] [] (cm w) (k2 v2 w)) (v2 : Int) (w : aI) : En x jvV 0 0 2 [(0, .ref a0), (1, .int (oI p1)), (2, .int (oI v2))] [] (cm w) (f_X8_run_b2_b F a0 p1   k2 v2 w) := by
  unfold f_X8_run_b2_b
  refine E_iload_n (pc := 2) hx 2 dX8_run_2 rfl rfl ?_
  refine E_iload_n (pc := 3) hx 1 dX8_run_3 rfl rfl ?_
  refine E_gd (fun hr1 => ?_)
  refine I_icmp_ge (pc := 4) hx 57 dX8_run_4 rfl ⟨hr1.1, hr1.2⟩ ?_ ?_
  · exact E_vret (pc := 57) hx dX8_run_57 rfl rfl (Nat.le_of_ble_eq_true rfl)
  refine E_aload_n (pc := 7) hx 0 dX8_run_7 rfl rfl ?_
  refine E_dup (pc := 8) hx dX8_run_8 rfl ?_
  refine I_getI (pc := 9) hx 0 0 rfl fc2 h0 rfl ⟨rfl, rfl, rfl⟩ g203 dX8_run_9 ?_
  refine I_iconst (pc := 12) hx 1 dX8_run_12 ?_
  refine I_iadd (pc := 13) hx dX8_run_13 ?_
  refine I_put (pc := 14) hx 0 0 rfl .int tyX2 fc2 tyX2_ok h0 rfl ⟨rfl, rfl, rfl, rfl, pfd_I⟩ rfl rfl g203 dX8_run_14 (fun w2 => ?_)
  refine E_aload_n (pc := 17) hx 0 dX8_run_17 rfl rfl ?_
  refine I_iconst (pc := 18) hx 0 dX8_run_18 ?_
  refine I_iconst (pc := 19) hx 1 dX8_run_19 ?_
  refine I_cVV  (pc := 20) hx [.int (oI 0), .int (oI 1)] [] (ev_X2_enter F a0 h0 0 1 w2) vm_X2_enter fc2 h0 g729 dX8_run_20 rfl rfl (Nat.le_of_ble_eq_true rfl) (Nat.le_of_ble_eq_true rfl) (Nat.le_of_ble_eq_true rfl) (fun w3 => ?_)
  refine E_aload_n (pc := 23) hx 0 dX8_run_23 rfl rfl ?_
  refine I_cSV  (pc := 24) hx [.ref a0] [] (ev_X8_landAll F a0 h0 w3) sm_X8_landAll g730 dX8_run_24 rfl rfl (Nat.le_of_ble_eq_true rfl) (Nat.le_of_ble_eq_true rfl) (Nat.le_of_ble_eq_true rfl) (fun w4 => ?_)
  refine E_aload_n (pc := 27) hx 0 dX8_run_27 rfl rfl ?_
  refine I_getI (pc := 28) hx 0 0 rfl fc2 h0 rfl ⟨rfl, rfl, rfl⟩ g203 dX8_run_28 ?_
  refine I_bipush (pc := 31) hx 60 dX8_run_31 rfl ?_
  refine E_gd (fun hr5 => ?_)
  refine I_irem (pc := 33) hx dX8_run_33 ⟨hr5, (by decide), (by decide)⟩ ?_
  refine E_aload_n (pc := 34) hx 0 dX8_run_34 rfl rfl ?_
  refine I_bipush (pc := 35) hx 9 dX8_run_35 rfl ?_
  refine I_cVI  (pc := 37) hx [.int (oI 9)] [.int (oI (Int.tmod (w4 a0 0) 60))] (ev_X2_setting F a0 h0 9 w4) vm_X2_setting fc2 h0 g737 dX8_run_37 rfl rfl (Nat.le_of_ble_eq_true rfl) (Nat.le_of_ble_eq_true rfl) (Nat.le_of_ble_eq_true rfl) (fun r6 => ?_)
  refine E_gd (fun hr7 => ?_)
  refine I_icmp_ge (pc := 40) hx 47 dX8_run_40 rfl ⟨hr7.1, hr7.2⟩ ?_ ?_
  · refine E_aload_n (pc := 47) hx 0 dX8_run_47 rfl rfl ?_
    refine I_cSV  (pc := 48) hx [.ref a0] [] (ev_X8_loseAll F a0 h0 w4) sm_X8_loseAll g806 dX8_run_48 rfl rfl (Nat.le_of_ble_eq_true rfl) (Nat.le_of_ble_eq_true rfl) (Nat.le_of_ble_eq_true rfl) (fun w8 => ?_)
    refine I_iinc (pc := 51) hx 1 2 dX8_run_51 rfl (Nat.le_of_ble_eq_true rfl) rfl ?_
    refine E_goto (pc := 54) hx 2 dX8_run_54 rfl ?_
    refine En.sub [1, 2, 0] rfl ?_
    exact hk2 (v2 + 1) w8
  refine E_aload_n (pc := 43) hx 0 dX8_run_43 rfl rfl ?_
  refine I_cSV  (pc := 44) hx [.ref a0] [] (ev_X8_whistleAll F a0 h0 w4) sm_X8_whistleAll g764 dX8_run_44 rfl rfl (Nat.le_of_ble_eq_true rfl) (Nat.le_of_ble_eq_true rfl) (Nat.le_of_ble_eq_true rfl) (fun w9 => ?_)
  refine E_aload_n (pc := 47) hx 0 dX8_run_47 rfl rfl ?_
  refine I_cSV  (pc := 48) hx [.ref a0] [] (ev_X8_loseAll F a0 h0 w9) sm_X8_loseAll g806 dX8_run_48 rfl rfl (Nat.le_of_ble_eq_true rfl) (Nat.le_of_ble_eq_true rfl) (Nat.le_of_ble_eq_true rfl) (fun w10 => ?_)
  refine I_iinc (pc := 51) hx 1 2 dX8_run_51 rfl (Nat.le_of_ble_eq_true rfl) rfl ?_
  refine E_goto (pc := 54) hx 2 dX8_run_54 rfl ?_
  refine En.sub [1, 2, 0] rfl ?_
  exact hk2 (v2 + 1) w10
theorem l_X8_run_b2 {x : Cx} (F : Nat) (a0 : Nat) (h0 : shK a0 = 10 + 2) (p1 : Int)  (hx : CxOK x RX8 cX8_run 3 5 0 none)  : ∀ (n : Nat) (v2 : Int) (w : aI), En x jvV 0 0 2 [(0, .ref a0), (1, .int (oI p1)), (2, .int (oI v2))] [] (cm w) (f_X8_run_b2 F a0 p1   n v2 w) := by
  intro n
  induction n with
  | zero => intro v2 w; exact E_none
  | succ n ih => intro v2 w; exact l_X8_run_b2_b F a0 h0 p1  hx  _ ih v2 w
set_option maxHeartbeats 4000000 in
set_option maxRecDepth 100000 in
theorem ev_X8_run (F : Nat) (a0 : Nat) (h0 : shK a0 = 10 + 2) (p1 : Int) (w : aI) : Ev yX8_run cX8_run 3 none 5 0 jvV [.ref a0, .int (oI p1)] (cm w) (f_X8_run F a0 p1 w) := by
  refine Ev.of (own := RX8) (by decide +kernel) rfl (Nat.le_of_ble_eq_true rfl) (fun x hx => ?_)
  show En x jvV 0 0 0 [(0, .ref a0), (1, .int (oI p1))] [] (cm w) _
  unfold f_X8_run
  refine I_iconst (pc := 0) hx 0 dX8_run_0 ?_
  refine E_istore_n (pc := 1) hx dX8_run_1 rfl (Nat.le_of_ble_eq_true rfl) rfl ?_
  refine En.sub [1, 2, 0] rfl ?_
  exact l_X8_run_b2 F a0 h0 p1 hx F 0 w
set_option maxHeartbeats 4000000 in
set_option maxRecDepth 100000 in
theorem l_X10_appendFour_b3_b {x : Cx} (F : Nat) (a0 : Nat) (h0 : shK a0 = 10 + 8) (p1 : Int)  (hx : CxOK x RX10 cX10_appendFour 3 1 0 none)  (k3 : Int → aI → Option aI) (hk3 : ∀ (v2 : Int) (w : aI), En x jvV 0 0 3 [(0, .ref a0), (1, .int (oI p1)), (2, .int (oI v2))] [] (cm w) (k3 v2 w)) (v2 : Int) (w : aI) : En x jvV 0 0 3 [(0, .ref a0), (1, .int (oI p1)), (2, .int (oI v2))] [] (cm w) (f_X10_appendFour_b3_b F a0 p1   k3 v2 w) := by
  unfold f_X10_appendFour_b3_b
  refine E_iload_n (pc := 3) hx 2 dX10_appendFour_3 rfl rfl ?_
  refine E_gd (fun hr1 => ?_)
  refine I_if_lt (pc := 4) hx 27 dX10_appendFour_4 rfl hr1 ?_ ?_
  · exact E_vret (pc := 27) hx dX10_appendFour_27 rfl rfl (Nat.le_of_ble_eq_true rfl)
  refine E_aload_n (pc := 7) hx 0 dX10_appendFour_7 rfl rfl ?_
  refine E_getR (pc := 8) hx 0 fc8 h0 rfl ⟨rfl, rfl, rfl⟩ g588 dX10_appendFour_8 ?_
  refine E_iload_n (pc := 11) hx 1 dX10_appendFour_11 rfl rfl ?_
  refine E_iload_n (pc := 12) hx 2 dX10_appendFour_12 rfl rfl ?_
  refine I_iushr (pc := 13) hx dX10_appendFour_13 ?_
  refine I_sipush (pc := 14) hx 255 dX10_appendFour_14 rfl ?_
  refine I_iand (pc := 17) hx dX10_appendFour_17 ?_
  refine I_cVV  (pc := 18) hx [.int (oI (andI (iusI p1 v2) 255))] [] (ev_X0_add F (shR a0 0) (kt_8_0 h0) (andI (iusI p1 v2) 255) w) vm_X0_add fc0 (kt_8_0 h0) g629 dX10_appendFour_18 rfl rfl (Nat.le_of_ble_eq_true rfl) (Nat.le_of_ble_eq_true rfl) (Nat.le_of_ble_eq_true rfl) (fun w2 => ?_)
  refine I_iinc (pc := 21) hx (-8) 2 dX10_appendFour_21 rfl (Nat.le_of_ble_eq_true rfl) rfl ?_
  refine E_goto (pc := 24) hx 3 dX10_appendFour_24 rfl ?_
  refine En.sub [1, 2, 0] rfl ?_
  exact hk3 (v2 + (-8)) w2
theorem l_X10_appendFour_b3 {x : Cx} (F : Nat) (a0 : Nat) (h0 : shK a0 = 10 + 8) (p1 : Int)  (hx : CxOK x RX10 cX10_appendFour 3 1 0 none)  : ∀ (n : Nat) (v2 : Int) (w : aI), En x jvV 0 0 3 [(0, .ref a0), (1, .int (oI p1)), (2, .int (oI v2))] [] (cm w) (f_X10_appendFour_b3 F a0 p1   n v2 w) := by
  intro n
  induction n with
  | zero => intro v2 w; exact E_none
  | succ n ih => intro v2 w; exact l_X10_appendFour_b3_b F a0 h0 p1  hx  _ ih v2 w
set_option maxHeartbeats 4000000 in
set_option maxRecDepth 100000 in
theorem ev_X10_appendFour (F : Nat) (a0 : Nat) (h0 : shK a0 = 10 + 8) (p1 : Int) (w : aI) : Ev yX10_appendFour cX10_appendFour 3 none 1 0 jvV [.ref a0, .int (oI p1)] (cm w) (f_X10_appendFour F a0 p1 w) := by
  refine Ev.of (own := RX10) (by decide +kernel) rfl (Nat.le_of_ble_eq_true rfl) (fun x hx => ?_)
  show En x jvV 0 0 0 [(0, .ref a0), (1, .int (oI p1))] [] (cm w) _
  unfold f_X10_appendFour
  refine I_bipush (pc := 0) hx 24 dX10_appendFour_0 rfl ?_
  refine E_istore_n (pc := 2) hx dX10_appendFour_2 rfl (Nat.le_of_ble_eq_true rfl) rfl ?_
  refine En.sub [1, 2, 0] rfl ?_
  exact l_X10_appendFour_b3 F a0 h0 p1 hx F 24 w
set_option maxHeartbeats 4000000 in
set_option maxRecDepth 100000 in
theorem ev_X10_appendInput (F : Nat) (a0 : Nat) (h0 : shK a0 = 10 + 8) (p1 : Int) (p2 : Int) (p3 : Int) (p4 : Int) (p5 : Int) (w : aI) : Ev yX10_appendInput cX10_appendInput 6 (some .int) 2 0 jvIW [.ref a0, .int (oI p1), .int (oI p2), .int (oI p3), .int (oI p4), .int (oI p5)] (cm w) (f_X10_appendInput F a0 p1 p2 p3 p4 p5 w) := by
  refine Ev.of (own := RX10) (by decide +kernel) rfl (Nat.le_of_ble_eq_true rfl) (fun x hx => ?_)
  show En x jvIW 0 0 0 [(0, .ref a0), (1, .int (oI p1)), (2, .int (oI p2)), (3, .int (oI p3)), (4, .int (oI p4)), (5, .int (oI p5))] [] (cm w) _
  unfold f_X10_appendInput
  refine E_aload_n (pc := 0) hx 0 dX10_appendInput_0 rfl rfl ?_
  refine E_getR (pc := 1) hx 0 fc8 h0 rfl ⟨rfl, rfl, rfl⟩ g588 dX10_appendInput_1 ?_
  refine I_cVI  (pc := 4) hx [] [] (ev_X0_size F (shR a0 0) (kt_8_0 h0) w) vm_X0_size fc0 (kt_8_0 h0) g624 dX10_appendInput_4 rfl rfl (Nat.le_of_ble_eq_true rfl) (Nat.le_of_ble_eq_true rfl) (Nat.le_of_ble_eq_true rfl) (fun r1 => ?_)
  refine I_bipush (pc := 7) hx 20 dX10_appendInput_7 rfl ?_
  refine I_iadd (pc := 9) hx dX10_appendInput_9 ?_
  refine I_sipush (pc := 10) hx 800 dX10_appendInput_10 rfl ?_
  refine E_gd (fun hr2 => ?_)
  refine I_icmp_le (pc := 13) hx 18 dX10_appendInput_13 rfl ⟨hr2, (by decide)⟩ ?_ ?_
  · refine E_aload_n (pc := 18) hx 0 dX10_appendInput_18 rfl rfl ?_
    refine E_iload_n (pc := 19) hx 1 dX10_appendInput_19 rfl rfl ?_
    refine I_cVV  (pc := 20) hx [.int (oI p1)] [] (ev_X10_appendFour F a0 h0 p1 w) vm_X10_appendFour fc8 h0 g625 dX10_appendInput_20 rfl rfl (Nat.le_of_ble_eq_true rfl) (Nat.le_of_ble_eq_true rfl) (Nat.le_of_ble_eq_true rfl) (fun w3 => ?_)
    refine E_aload_n (pc := 23) hx 0 dX10_appendInput_23 rfl rfl ?_
    refine E_iload_n (pc := 24) hx 2 dX10_appendInput_24 rfl rfl ?_
    refine I_cVV  (pc := 25) hx [.int (oI p2)] [] (ev_X10_appendFour F a0 h0 p2 w3) vm_X10_appendFour fc8 h0 g625 dX10_appendInput_25 rfl rfl (Nat.le_of_ble_eq_true rfl) (Nat.le_of_ble_eq_true rfl) (Nat.le_of_ble_eq_true rfl) (fun w4 => ?_)
    refine E_aload_n (pc := 28) hx 0 dX10_appendInput_28 rfl rfl ?_
    refine E_iload_n (pc := 29) hx 3 dX10_appendInput_29 rfl rfl ?_
    refine I_cVV  (pc := 30) hx [.int (oI p3)] [] (ev_X10_appendFour F a0 h0 p3 w4) vm_X10_appendFour fc8 h0 g625 dX10_appendInput_30 rfl rfl (Nat.le_of_ble_eq_true rfl) (Nat.le_of_ble_eq_true rfl) (Nat.le_of_ble_eq_true rfl) (fun w5 => ?_)
    refine E_aload_n (pc := 33) hx 0 dX10_appendInput_33 rfl rfl ?_
    refine E_iload (pc := 34) hx 4 dX10_appendInput_34 rfl ?_
    refine I_cVV  (pc := 36) hx [.int (oI p4)] [] (ev_X10_appendFour F a0 h0 p4 w5) vm_X10_appendFour fc8 h0 g625 dX10_appendInput_36 rfl rfl (Nat.le_of_ble_eq_true rfl) (Nat.le_of_ble_eq_true rfl) (Nat.le_of_ble_eq_true rfl) (fun w6 => ?_)
    refine E_aload_n (pc := 39) hx 0 dX10_appendInput_39 rfl rfl ?_
    refine E_iload (pc := 40) hx 5 dX10_appendInput_40 rfl ?_
    refine I_cVV  (pc := 42) hx [.int (oI p5)] [] (ev_X10_appendFour F a0 h0 p5 w6) vm_X10_appendFour fc8 h0 g625 dX10_appendInput_42 rfl rfl (Nat.le_of_ble_eq_true rfl) (Nat.le_of_ble_eq_true rfl) (Nat.le_of_ble_eq_true rfl) (fun w7 => ?_)
    refine E_aload_n (pc := 45) hx 0 dX10_appendInput_45 rfl rfl ?_
    refine E_getR (pc := 46) hx 0 fc8 h0 rfl ⟨rfl, rfl, rfl⟩ g588 dX10_appendInput_46 ?_
    refine I_cVI  (pc := 49) hx [] [] (ev_X0_size F (shR a0 0) (kt_8_0 h0) w7) vm_X0_size fc0 (kt_8_0 h0) g624 dX10_appendInput_49 rfl rfl (Nat.le_of_ble_eq_true rfl) (Nat.le_of_ble_eq_true rfl) (Nat.le_of_ble_eq_true rfl) (fun r8 => ?_)
    exact E_iret (pc := 52) hx dX10_appendInput_52 rfl rfl (Nat.le_of_ble_eq_true rfl)
  refine I_iconst (pc := 16) hx (-1) dX10_appendInput_16 ?_
  exact E_iret (pc := 17) hx dX10_appendInput_17 rfl rfl (Nat.le_of_ble_eq_true rfl)
set_option maxHeartbeats 4000000 in
set_option maxRecDepth 100000 in
theorem ev_X10_truncateInput (F : Nat) (a0 : Nat) (h0 : shK a0 = 10 + 8) (p1 : Int) (w : aI) : Ev yX10_truncateInput cX10_truncateInput 2 (some .boolean) 1 0 jvBW [.ref a0, .int (oI p1)] (cm w) (f_X10_truncateInput F a0 p1 w) := by
  refine Ev.of (own := RX10) (by decide +kernel) rfl (Nat.le_of_ble_eq_true rfl) (fun x hx => ?_)
  show En x jvBW 0 0 0 [(0, .ref a0), (1, .int (oI p1))] [] (cm w) _
  unfold f_X10_truncateInput
  refine E_aload_n (pc := 0) hx 0 dX10_truncateInput_0 rfl rfl ?_
  refine E_getR (pc := 1) hx 0 fc8 h0 rfl ⟨rfl, rfl, rfl⟩ g588 dX10_truncateInput_1 ?_
  refine E_iload_n (pc := 4) hx 1 dX10_truncateInput_4 rfl rfl ?_
  refine I_cVBW  (pc := 5) hx [.int (oI p1)] [] (ev_X0_cutTo F (shR a0 0) (kt_8_0 h0) p1 w) vm_X0_cutTo fc0 (kt_8_0 h0) g634 dX10_truncateInput_5 rfl rfl (Nat.le_of_ble_eq_true rfl) (Nat.le_of_ble_eq_true rfl) (Nat.le_of_ble_eq_true rfl) (fun r1 w2 => ?_)
  exact E_zret (pc := 8) hx dX10_truncateInput_8 rfl (bI_nar _) rfl (Nat.le_of_ble_eq_true rfl)
set_option maxHeartbeats 4000000 in
set_option maxRecDepth 100000 in
theorem ev_X10_loadPost (F : Nat) (a0 : Nat) (h0 : shK a0 = 10 + 8) (w : aI) : Ev yX10_loadPost cX10_loadPost 2 (some .int) 10 0 jvIW [.ref a0] (cm w) (f_X10_loadPost F a0 w) := by
  refine Ev.of (own := RX10) (by decide +kernel) rfl (Nat.le_of_ble_eq_true rfl) (fun x hx => ?_)
  show En x jvIW 0 0 0 [(0, .ref a0)] [] (cm w) _
  unfold f_X10_loadPost
  refine E_aload_n (pc := 0) hx 0 dX10_loadPost_0 rfl rfl ?_
  refine E_getR (pc := 1) hx 3 fc8 h0 rfl ⟨rfl, rfl, rfl⟩ g591 dX10_loadPost_1 ?_
  refine I_cVBW  (pc := 4) hx [] [] (ev_X5_isRead F (shR a0 3) (kt_8_3 h0) w) vm_X5_isRead fc5 (kt_8_3 h0) g408 dX10_loadPost_4 rfl rfl (Nat.le_of_ble_eq_true rfl) (Nat.le_of_ble_eq_true rfl) (Nat.le_of_ble_eq_true rfl) (fun r1 w2 => ?_)
  refine E_istore_n (pc := 7) hx dX10_loadPost_7 rfl (Nat.le_of_ble_eq_true rfl) rfl ?_
  refine E_aload_n (pc := 8) hx 1 dX10_loadPost_8 rfl rfl ?_
  refine E_getR (pc := 9) hx 0 fc8 h0 rfl ⟨rfl, rfl, rfl⟩ g588 dX10_loadPost_9 ?_
  refine I_cVV  (pc := 12) hx [] [] (ev_X0_clear F (shR a0 0) (kt_8_0 h0) w2) vm_X0_clear fc0 (kt_8_0 h0) g584 dX10_loadPost_12 rfl rfl (Nat.le_of_ble_eq_true rfl) (Nat.le_of_ble_eq_true rfl) (Nat.le_of_ble_eq_true rfl) (fun w3 => ?_)
  refine E_iload_n (pc := 15) hx 0 dX10_loadPost_15 rfl rfl ?_
  refine I_ifB_ne (pc := 16) hx 21 dX10_loadPost_16 rfl ?_ ?_
  · refine E_aload_n (pc := 21) hx 1 dX10_loadPost_21 rfl rfl ?_
    refine E_getR (pc := 22) hx 5 fc8 h0 rfl ⟨rfl, rfl, rfl⟩ g593 dX10_loadPost_22 ?_
    refine E_aload_n (pc := 25) hx 1 dX10_loadPost_25 rfl rfl ?_
    refine E_getR (pc := 26) hx 7 fc8 h0 rfl ⟨rfl, rfl, rfl⟩ g595 dX10_loadPost_26 ?_
    refine I_cVV  (pc := 29) hx [.ref (shR a0 7)] [] (ev_X2_copyFrom F (shR a0 5) (kt_8_5 h0) (shR a0 7) (kt_8_7 h0) w3) vm_X2_copyFrom fc2 (kt_8_5 h0) g565 dX10_loadPost_29 rfl rfl (Nat.le_of_ble_eq_true rfl) (Nat.le_of_ble_eq_true rfl) (Nat.le_of_ble_eq_true rfl) (fun w4 => ?_)
    refine E_aload_n (pc := 32) hx 1 dX10_loadPost_32 rfl rfl ?_
    refine E_getR (pc := 33) hx 8 fc8 h0 rfl ⟨rfl, rfl, rfl⟩ g596 dX10_loadPost_33 ?_
    refine I_cVV  (pc := 36) hx [] [] (ev_X1_forget F (shR a0 8) (kt_8_8 h0) w4) vm_X1_forget fc1 (kt_8_8 h0) g642 dX10_loadPost_36 rfl rfl (Nat.le_of_ble_eq_true rfl) (Nat.le_of_ble_eq_true rfl) (Nat.le_of_ble_eq_true rfl) (fun w5 => ?_)
    refine E_aload_n (pc := 39) hx 1 dX10_loadPost_39 rfl rfl ?_
    refine I_iconst (pc := 40) hx 0 dX10_loadPost_40 ?_
    refine I_put (pc := 41) hx 9 9 rfl .boolean tyX10 fc8 tyX10_ok h0 rfl ⟨rfl, rfl, rfl, rfl, pfd_Z⟩ rfl rfl g597 dX10_loadPost_41 (fun w6 => ?_)
    refine E_aload_n (pc := 44) hx 1 dX10_loadPost_44 rfl rfl ?_
    refine E_getR (pc := 45) hx 5 fc8 h0 rfl ⟨rfl, rfl, rfl⟩ g593 dX10_loadPost_45 ?_
    refine I_getI (pc := 48) hx 2 2 rfl fc2 (kt_8_5 h0) rfl ⟨rfl, rfl, rfl⟩ g216 dX10_loadPost_48 ?_
    exact E_iret (pc := 51) hx dX10_loadPost_51 rfl rfl (Nat.le_of_ble_eq_true rfl)
  refine I_iconst (pc := 19) hx (-1) dX10_loadPost_19 ?_
  exact E_iret (pc := 20) hx dX10_loadPost_20 rfl rfl (Nat.le_of_ble_eq_true rfl)
set_option maxHeartbeats 4000000 in
set_option maxRecDepth 100000 in
theorem l_X10_isSent_b63 {x : Cx} (F : Nat) (a0 : Nat) (h0 : shK a0 = 10 + 8) (p1 : Int) (p2 : Int) (p3 : Int)  (hx : CxOK x RX10 cX10_isSent 7 3 0 (some .boolean))   (v4 : Int) (v5 : Int) (z0 : Int) (w : aI) : En x jvBW 0 0 63 [(0, .ref a0), (1, .int (oI p1)), (2, .int (oI p2)), (4, .int (oI v4)), (5, .int (oI v5))] [.int (oI z0)] (cm w) (f_X10_isSent_b63 F a0 p1 p2 p3    v4 v5 z0 w) := by
  unfold f_X10_isSent_b63
  refine E_istore (pc := 63) hx dX10_isSent_63 (Nat.le_of_ble_eq_true rfl) rfl ?_
  refine E_aload_n (pc := 65) hx 1 dX10_isSent_65 rfl rfl ?_
  refine E_getR (pc := 66) hx 5 fc8 h0 rfl ⟨rfl, rfl, rfl⟩ g593 dX10_isSent_66 ?_
  refine E_iload_n (pc := 69) hx 2 dX10_isSent_69 rfl rfl ?_
  refine E_iload_n (pc := 70) hx 3 dX10_isSent_70 rfl rfl ?_
  refine E_iload (pc := 71) hx 4 dX10_isSent_71 rfl ?_
  refine E_iload (pc := 73) hx 5 dX10_isSent_73 rfl ?_
  refine I_iconst (pc := 75) hx 0 dX10_isSent_75 ?_
  refine E_iload (pc := 76) hx 0 dX10_isSent_76 rfl ?_
  refine I_cVIW  (pc := 78) hx [.int (oI p1), .int (oI p2), .int (oI v4), .int (oI v5), .int (oI 0), .int (oI z0)] [] (ev_X2_addTune F (shR a0 5) (kt_8_5 h0) p1 p2 v4 v5 0 z0 w) vm_X2_addTune fc2 (kt_8_5 h0) g710 dX10_isSent_78 rfl rfl (Nat.le_of_ble_eq_true rfl) (Nat.le_of_ble_eq_true rfl) (Nat.le_of_ble_eq_true rfl) (fun r6 w7 => ?_)
  refine E_pop (pc := 81) hx dX10_isSent_81 rfl ?_
  refine I_iconst (pc := 82) hx 1 dX10_isSent_82 ?_
  exact E_zret (pc := 83) hx dX10_isSent_83 rfl rfl rfl (Nat.le_of_ble_eq_true rfl)
set_option maxHeartbeats 4000000 in
set_option maxRecDepth 100000 in
theorem ev_X10_isSent (F : Nat) (a0 : Nat) (h0 : shK a0 = 10 + 8) (p1 : Int) (p2 : Int) (p3 : Int) (w : aI) : Ev yX10_isSent cX10_isSent 7 (some .boolean) 3 0 jvBW [.ref a0, .int (oI p1), .int (oI p2), .int (oI p3)] (cm w) (f_X10_isSent F a0 p1 p2 p3 w) := by
  refine Ev.of (own := RX10) (by decide +kernel) rfl (Nat.le_of_ble_eq_true rfl) (fun x hx => ?_)
  show En x jvBW 0 0 0 [(0, .ref a0), (1, .int (oI p1)), (2, .int (oI p2)), (3, .int (oI p3))] [] (cm w) _
  unfold f_X10_isSent
  refine E_aload_n (pc := 0) hx 0 dX10_isSent_0 rfl rfl ?_
  refine E_getR (pc := 1) hx 5 fc8 h0 rfl ⟨rfl, rfl, rfl⟩ g593 dX10_isSent_1 ?_
  refine I_getI (pc := 4) hx 3 3 rfl fc2 (kt_8_5 h0) rfl ⟨rfl, rfl, rfl⟩ g219 dX10_isSent_4 ?_
  refine I_bipush (pc := 7) hx 30 dX10_isSent_7 rfl ?_
  refine E_gd (fun hr1 => ?_)
  refine I_icmp_lt (pc := 9) hx 14 dX10_isSent_9 rfl ⟨hr1, (by decide)⟩ ?_ ?_
  · refine E_aload_n (pc := 14) hx 0 dX10_isSent_14 rfl rfl ?_
    refine E_getR (pc := 15) hx 4 fc8 h0 rfl ⟨rfl, rfl, rfl⟩ g592 dX10_isSent_15 ?_
    refine E_getR (pc := 18) hx 2 fc4 (kt_8_4 h0) rfl ⟨rfl, rfl, rfl⟩ g339 dX10_isSent_18 ?_
    refine E_iload_n (pc := 21) hx 3 dX10_isSent_21 rfl rfl ?_
    refine I_iconst (pc := 22) hx 4 dX10_isSent_22 ?_
    refine I_cVI  (pc := 23) hx [.int (oI p3), .int (oI 4)] [] (ev_X7_get F (shR (shR a0 4) 2) (kt_4_2 (kt_8_4 h0)) p3 4 w) vm_X7_get fc6 (kt_4_2 (kt_8_4 h0)) g705 dX10_isSent_23 rfl rfl (Nat.le_of_ble_eq_true rfl) (Nat.le_of_ble_eq_true rfl) (Nat.le_of_ble_eq_true rfl) (fun r2 => ?_)
    refine E_istore (pc := 26) hx dX10_isSent_26 (Nat.le_of_ble_eq_true rfl) rfl ?_
    refine E_aload_n (pc := 28) hx 1 dX10_isSent_28 rfl rfl ?_
    refine E_getR (pc := 29) hx 4 fc8 h0 rfl ⟨rfl, rfl, rfl⟩ g592 dX10_isSent_29 ?_
    refine E_getR (pc := 32) hx 2 fc4 (kt_8_4 h0) rfl ⟨rfl, rfl, rfl⟩ g339 dX10_isSent_32 ?_
    refine E_iload_n (pc := 35) hx 4 dX10_isSent_35 rfl rfl ?_
    refine I_iconst (pc := 36) hx 3 dX10_isSent_36 ?_
    refine I_cVI  (pc := 37) hx [.int (oI p3), .int (oI 3)] [] (ev_X7_get F (shR (shR a0 4) 2) (kt_4_2 (kt_8_4 h0)) p3 3 w) vm_X7_get fc6 (kt_4_2 (kt_8_4 h0)) g705 dX10_isSent_37 rfl rfl (Nat.le_of_ble_eq_true rfl) (Nat.le_of_ble_eq_true rfl) (Nat.le_of_ble_eq_true rfl) (fun r3 => ?_)
    refine E_istore (pc := 40) hx dX10_isSent_40 (Nat.le_of_ble_eq_true rfl) rfl ?_
    refine E_aload_n (pc := 42) hx 2 dX10_isSent_42 rfl rfl ?_
    refine E_getR (pc := 43) hx 4 fc8 h0 rfl ⟨rfl, rfl, rfl⟩ g592 dX10_isSent_43 ?_
    refine E_getR (pc := 46) hx 2 fc4 (kt_8_4 h0) rfl ⟨rfl, rfl, rfl⟩ g339 dX10_isSent_46 ?_
    refine E_iload_n (pc := 49) hx 5 dX10_isSent_49 rfl rfl ?_
    refine I_iconst (pc := 50) hx 0 dX10_isSent_50 ?_
    refine I_cVI  (pc := 51) hx [.int (oI p3), .int (oI 0)] [] (ev_X7_get F (shR (shR a0 4) 2) (kt_4_2 (kt_8_4 h0)) p3 0 w) vm_X7_get fc6 (kt_4_2 (kt_8_4 h0)) g705 dX10_isSent_51 rfl rfl (Nat.le_of_ble_eq_true rfl) (Nat.le_of_ble_eq_true rfl) (Nat.le_of_ble_eq_true rfl) (fun r4 => ?_)
    refine I_iconst (pc := 54) hx 1 dX10_isSent_54 ?_
    refine E_gd (fun hr5 => ?_)
    refine I_icmp_ne (pc := 55) hx 62 dX10_isSent_55 rfl ⟨hr5, (by decide)⟩ ?_ ?_
    · refine I_iconst (pc := 62) hx 0 dX10_isSent_62 ?_
      refine En.sub [2, 3, 4, 1, 0] rfl ?_
      exact l_X10_isSent_b63 F a0 h0 p1 p2 p3 hx r2 r3 0 w
    refine I_iconst (pc := 58) hx 1 dX10_isSent_58 ?_
    refine E_goto (pc := 59) hx 63 dX10_isSent_59 rfl ?_
    refine En.sub [2, 3, 4, 1, 0] rfl ?_
    exact l_X10_isSent_b63 F a0 h0 p1 p2 p3 hx r2 r3 1 w
  refine I_iconst (pc := 12) hx 0 dX10_isSent_12 ?_
  exact E_zret (pc := 13) hx dX10_isSent_13 rfl rfl rfl (Nat.le_of_ble_eq_true rfl)
set_option maxHeartbeats 4000000 in
set_option maxRecDepth 100000 in
theorem ev_X10_isPlayed (F : Nat) (a0 : Nat) (h0 : shK a0 = 10 + 8) (p1 : Int) (w : aI) : Ev yX10_isPlayed cX10_isPlayed 6 (some .boolean) 6 0 jvBW [.ref a0, .int (oI p1)] (cm w) (f_X10_isPlayed F a0 p1 w) := by
  refine Ev.of (own := RX10) (by decide +kernel) rfl (Nat.le_of_ble_eq_true rfl) (fun x hx => ?_)
  show En x jvBW 0 0 0 [(0, .ref a0), (1, .int (oI p1))] [] (cm w) _
  unfold f_X10_isPlayed
  refine E_aload_n (pc := 0) hx 0 dX10_isPlayed_0 rfl rfl ?_
  refine E_getR (pc := 1) hx 4 fc8 h0 rfl ⟨rfl, rfl, rfl⟩ g592 dX10_isPlayed_1 ?_
  refine E_getR (pc := 4) hx 2 fc4 (kt_8_4 h0) rfl ⟨rfl, rfl, rfl⟩ g339 dX10_isPlayed_4 ?_
  refine E_iload_n (pc := 7) hx 1 dX10_isPlayed_7 rfl rfl ?_
  refine I_iconst (pc := 8) hx 1 dX10_isPlayed_8 ?_
  refine I_cVI  (pc := 9) hx [.int (oI p1), .int (oI 1)] [] (ev_X7_get F (shR (shR a0 4) 2) (kt_4_2 (kt_8_4 h0)) p1 1 w) vm_X7_get fc6 (kt_4_2 (kt_8_4 h0)) g705 dX10_isPlayed_9 rfl rfl (Nat.le_of_ble_eq_true rfl) (Nat.le_of_ble_eq_true rfl) (Nat.le_of_ble_eq_true rfl) (fun r1 => ?_)
  refine E_istore_n (pc := 12) hx dX10_isPlayed_12 rfl (Nat.le_of_ble_eq_true rfl) rfl ?_
  refine E_aload_n (pc := 13) hx 1 dX10_isPlayed_13 rfl rfl ?_
  refine E_getR (pc := 14) hx 4 fc8 h0 rfl ⟨rfl, rfl, rfl⟩ g592 dX10_isPlayed_14 ?_
  refine E_getR (pc := 17) hx 2 fc4 (kt_8_4 h0) rfl ⟨rfl, rfl, rfl⟩ g339 dX10_isPlayed_17 ?_
  refine E_iload_n (pc := 20) hx 2 dX10_isPlayed_20 rfl rfl ?_
  refine I_iconst (pc := 21) hx 2 dX10_isPlayed_21 ?_
  refine I_cVI  (pc := 22) hx [.int (oI p1), .int (oI 2)] [] (ev_X7_get F (shR (shR a0 4) 2) (kt_4_2 (kt_8_4 h0)) p1 2 w) vm_X7_get fc6 (kt_4_2 (kt_8_4 h0)) g705 dX10_isPlayed_22 rfl rfl (Nat.le_of_ble_eq_true rfl) (Nat.le_of_ble_eq_true rfl) (Nat.le_of_ble_eq_true rfl) (fun r2 => ?_)
  refine E_istore_n (pc := 25) hx dX10_isPlayed_25 rfl (Nat.le_of_ble_eq_true rfl) rfl ?_
  refine E_aload_n (pc := 26) hx 2 dX10_isPlayed_26 rfl rfl ?_
  refine E_getR (pc := 27) hx 4 fc8 h0 rfl ⟨rfl, rfl, rfl⟩ g592 dX10_isPlayed_27 ?_
  refine E_getR (pc := 30) hx 2 fc4 (kt_8_4 h0) rfl ⟨rfl, rfl, rfl⟩ g339 dX10_isPlayed_30 ?_
  refine E_iload_n (pc := 33) hx 3 dX10_isPlayed_33 rfl rfl ?_
  refine I_iconst (pc := 34) hx 3 dX10_isPlayed_34 ?_
  refine I_cVI  (pc := 35) hx [.int (oI p1), .int (oI 3)] [] (ev_X7_get F (shR (shR a0 4) 2) (kt_4_2 (kt_8_4 h0)) p1 3 w) vm_X7_get fc6 (kt_4_2 (kt_8_4 h0)) g705 dX10_isPlayed_35 rfl rfl (Nat.le_of_ble_eq_true rfl) (Nat.le_of_ble_eq_true rfl) (Nat.le_of_ble_eq_true rfl) (fun r3 => ?_)
  refine E_istore (pc := 38) hx dX10_isPlayed_38 (Nat.le_of_ble_eq_true rfl) rfl ?_
  refine E_aload_n (pc := 40) hx 3 dX10_isPlayed_40 rfl rfl ?_
  refine E_getR (pc := 41) hx 4 fc8 h0 rfl ⟨rfl, rfl, rfl⟩ g592 dX10_isPlayed_41 ?_
  refine E_getR (pc := 44) hx 2 fc4 (kt_8_4 h0) rfl ⟨rfl, rfl, rfl⟩ g339 dX10_isPlayed_44 ?_
  refine E_iload_n (pc := 47) hx 4 dX10_isPlayed_47 rfl rfl ?_
  refine I_iconst (pc := 48) hx 0 dX10_isPlayed_48 ?_
  refine I_cVI  (pc := 49) hx [.int (oI p1), .int (oI 0)] [] (ev_X7_get F (shR (shR a0 4) 2) (kt_4_2 (kt_8_4 h0)) p1 0 w) vm_X7_get fc6 (kt_4_2 (kt_8_4 h0)) g705 dX10_isPlayed_49 rfl rfl (Nat.le_of_ble_eq_true rfl) (Nat.le_of_ble_eq_true rfl) (Nat.le_of_ble_eq_true rfl) (fun r4 => ?_)
  refine E_istore (pc := 52) hx dX10_isPlayed_52 (Nat.le_of_ble_eq_true rfl) rfl ?_
  refine E_iload (pc := 54) hx 0 dX10_isPlayed_54 rfl ?_
  refine E_gd (fun hr5 => ?_)
  refine E_case (fun hc6 => ?_) (fun hc6 => ?_)
  · refine E_tIn (pc := 56) hx 92 dX10_isPlayed_56 (by rw [oI_toInt hr5]; omega) (by rw [oI_toInt hr5]; omega) (by rw [hc6]; rfl) rfl ?_
    refine E_aload_n (pc := 92) hx 4 dX10_isPlayed_92 rfl rfl ?_
    refine E_iload_n (pc := 93) hx 3 dX10_isPlayed_93 rfl rfl ?_
    refine E_iload_n (pc := 94) hx 2 dX10_isPlayed_94 rfl rfl ?_
    refine E_iload_n (pc := 95) hx 5 dX10_isPlayed_95 rfl rfl ?_
    refine I_cVBW  (pc := 96) hx [.int (oI r1), .int (oI r2), .int (oI p1)] [] (ev_X10_isSent F a0 h0 r1 r2 p1 w) vm_X10_isSent fc8 h0 g706 dX10_isPlayed_96 rfl rfl (Nat.le_of_ble_eq_true rfl) (Nat.le_of_ble_eq_true rfl) (Nat.le_of_ble_eq_true rfl) (fun r7 w8 => ?_)
    exact E_zret (pc := 99) hx dX10_isPlayed_99 rfl (bI_nar _) rfl (Nat.le_of_ble_eq_true rfl)
  refine E_case (fun hc9 => ?_) (fun hc9 => ?_)
  · refine E_tIn (pc := 56) hx 92 dX10_isPlayed_56 (by rw [oI_toInt hr5]; omega) (by rw [oI_toInt hr5]; omega) (by rw [hc9]; rfl) rfl ?_
    refine E_aload_n (pc := 92) hx 4 dX10_isPlayed_92 rfl rfl ?_
    refine E_iload_n (pc := 93) hx 3 dX10_isPlayed_93 rfl rfl ?_
    refine E_iload_n (pc := 94) hx 2 dX10_isPlayed_94 rfl rfl ?_
    refine E_iload_n (pc := 95) hx 5 dX10_isPlayed_95 rfl rfl ?_
    refine I_cVBW  (pc := 96) hx [.int (oI r1), .int (oI r2), .int (oI p1)] [] (ev_X10_isSent F a0 h0 r1 r2 p1 w) vm_X10_isSent fc8 h0 g706 dX10_isPlayed_96 rfl rfl (Nat.le_of_ble_eq_true rfl) (Nat.le_of_ble_eq_true rfl) (Nat.le_of_ble_eq_true rfl) (fun r10 w11 => ?_)
    exact E_zret (pc := 99) hx dX10_isPlayed_99 rfl (bI_nar _) rfl (Nat.le_of_ble_eq_true rfl)
  refine E_case (fun hc12 => ?_) (fun hc12 => ?_)
  · refine E_tIn (pc := 56) hx 100 dX10_isPlayed_56 (by rw [oI_toInt hr5]; omega) (by rw [oI_toInt hr5]; omega) (by rw [hc12]; rfl) rfl ?_
    refine E_aload_n (pc := 100) hx 4 dX10_isPlayed_100 rfl rfl ?_
    refine E_getR (pc := 101) hx 5 fc8 h0 rfl ⟨rfl, rfl, rfl⟩ g593 dX10_isPlayed_101 ?_
    refine E_iload (pc := 104) hx 1 dX10_isPlayed_104 rfl ?_
    refine I_cVB  (pc := 106) hx [.int (oI r3)] [] (ev_X2_hasTimeFor F (shR a0 5) (kt_8_5 h0) r3 w) vm_X2_hasTimeFor fc2 (kt_8_5 h0) g722 dX10_isPlayed_106 rfl rfl (Nat.le_of_ble_eq_true rfl) (Nat.le_of_ble_eq_true rfl) (Nat.le_of_ble_eq_true rfl) (fun r13 => ?_)
    refine I_ifB_ne (pc := 109) hx 114 dX10_isPlayed_109 rfl ?_ ?_
    · refine E_aload_n (pc := 114) hx 4 dX10_isPlayed_114 rfl rfl ?_
      refine E_getR (pc := 115) hx 5 fc8 h0 rfl ⟨rfl, rfl, rfl⟩ g593 dX10_isPlayed_115 ?_
      refine E_iload (pc := 118) hx 1 dX10_isPlayed_118 rfl ?_
      refine I_cSV  (pc := 120) hx [.ref (shR a0 5), .int (oI r3)] [] (ev_X8_run F (shR a0 5) (kt_8_5 h0) r3 w) sm_X8_run g726 dX10_isPlayed_120 rfl rfl (Nat.le_of_ble_eq_true rfl) (Nat.le_of_ble_eq_true rfl) (Nat.le_of_ble_eq_true rfl) (fun w14 => ?_)
      refine I_iconst (pc := 123) hx 1 dX10_isPlayed_123 ?_
      exact E_zret (pc := 124) hx dX10_isPlayed_124 rfl rfl rfl (Nat.le_of_ble_eq_true rfl)
    refine I_iconst (pc := 112) hx 0 dX10_isPlayed_112 ?_
    exact E_zret (pc := 113) hx dX10_isPlayed_113 rfl rfl rfl (Nat.le_of_ble_eq_true rfl)
  refine E_case (fun hc15 => ?_) (fun hc15 => ?_)
  · refine E_tIn (pc := 56) hx 125 dX10_isPlayed_56 (by rw [oI_toInt hr5]; omega) (by rw [oI_toInt hr5]; omega) (by rw [hc15]; rfl) rfl ?_
    refine E_aload_n (pc := 125) hx 4 dX10_isPlayed_125 rfl rfl ?_
    refine E_getR (pc := 126) hx 5 fc8 h0 rfl ⟨rfl, rfl, rfl⟩ g593 dX10_isPlayed_126 ?_
    refine E_iload_n (pc := 129) hx 3 dX10_isPlayed_129 rfl rfl ?_
    refine E_iload (pc := 130) hx 1 dX10_isPlayed_130 rfl ?_
    refine I_cVB  (pc := 132) hx [.int (oI r1), .int (oI r3)] [] (ev_X2_hasRoomFor F (shR a0 5) (kt_8_5 h0) r1 r3 w) vm_X2_hasRoomFor fc2 (kt_8_5 h0) g809 dX10_isPlayed_132 rfl rfl (Nat.le_of_ble_eq_true rfl) (Nat.le_of_ble_eq_true rfl) (Nat.le_of_ble_eq_true rfl) (fun r16 => ?_)
    refine I_ifB_ne (pc := 135) hx 140 dX10_isPlayed_135 rfl ?_ ?_
    · refine E_aload_n (pc := 140) hx 4 dX10_isPlayed_140 rfl rfl ?_
      refine E_getR (pc := 141) hx 5 fc8 h0 rfl ⟨rfl, rfl, rfl⟩ g593 dX10_isPlayed_141 ?_
      refine E_iload_n (pc := 144) hx 3 dX10_isPlayed_144 rfl rfl ?_
      refine E_iload (pc := 145) hx 1 dX10_isPlayed_145 rfl ?_
      refine I_cVV  (pc := 147) hx [.int (oI r1), .int (oI r3)] [] (ev_X2_takeCoins F (shR a0 5) (kt_8_5 h0) r1 r3 w) vm_X2_takeCoins fc2 (kt_8_5 h0) g813 dX10_isPlayed_147 rfl rfl (Nat.le_of_ble_eq_true rfl) (Nat.le_of_ble_eq_true rfl) (Nat.le_of_ble_eq_true rfl) (fun w17 => ?_)
      refine I_iconst (pc := 150) hx 1 dX10_isPlayed_150 ?_
      exact E_zret (pc := 151) hx dX10_isPlayed_151 rfl rfl rfl (Nat.le_of_ble_eq_true rfl)
    refine I_iconst (pc := 138) hx 0 dX10_isPlayed_138 ?_
    exact E_zret (pc := 139) hx dX10_isPlayed_139 rfl rfl rfl (Nat.le_of_ble_eq_true rfl)
  refine E_case (fun hc18 => ?_) (fun hc18 => ?_)
  · refine E_tIn (pc := 56) hx 152 dX10_isPlayed_56 (by rw [oI_toInt hr5]; omega) (by rw [oI_toInt hr5]; omega) (by rw [hc18]; rfl) rfl ?_
    refine E_aload_n (pc := 152) hx 4 dX10_isPlayed_152 rfl rfl ?_
    refine E_getR (pc := 153) hx 5 fc8 h0 rfl ⟨rfl, rfl, rfl⟩ g593 dX10_isPlayed_153 ?_
    refine E_iload_n (pc := 156) hx 3 dX10_isPlayed_156 rfl rfl ?_
    refine E_iload_n (pc := 157) hx 2 dX10_isPlayed_157 rfl rfl ?_
    refine I_cVBW  (pc := 158) hx [.int (oI r1), .int (oI r2)] [] (ev_X2_cutWay F (shR a0 5) (kt_8_5 h0) r1 r2 w) vm_X2_cutWay fc2 (kt_8_5 h0) g817 dX10_isPlayed_158 rfl rfl (Nat.le_of_ble_eq_true rfl) (Nat.le_of_ble_eq_true rfl) (Nat.le_of_ble_eq_true rfl) (fun r19 w20 => ?_)
    exact E_zret (pc := 161) hx dX10_isPlayed_161 rfl (bI_nar _) rfl (Nat.le_of_ble_eq_true rfl)
  refine E_tOut (pc := 56) hx 162 dX10_isPlayed_56 (swI_out hr5 (by omega)) rfl ?_
  refine E_aload_n (pc := 162) hx 4 dX10_isPlayed_162 rfl rfl ?_
  refine E_getR (pc := 163) hx 5 fc8 h0 rfl ⟨rfl, rfl, rfl⟩ g593 dX10_isPlayed_163 ?_
  refine E_iload (pc := 166) hx 0 dX10_isPlayed_166 rfl ?_
  refine E_iload (pc := 168) hx 1 dX10_isPlayed_168 rfl ?_
  refine I_cVV  (pc := 170) hx [.int (oI r4), .int (oI r3)] [] (ev_X2_settle F (shR a0 5) (kt_8_5 h0) r4 r3 w) vm_X2_settle fc2 (kt_8_5 h0) g829 dX10_isPlayed_170 rfl rfl (Nat.le_of_ble_eq_true rfl) (Nat.le_of_ble_eq_true rfl) (Nat.le_of_ble_eq_true rfl) (fun w21 => ?_)
  refine I_iconst (pc := 173) hx 1 dX10_isPlayed_173 ?_
  exact E_zret (pc := 174) hx dX10_isPlayed_174 rfl rfl rfl (Nat.le_of_ble_eq_true rfl)
set_option maxHeartbeats 4000000 in
set_option maxRecDepth 100000 in
theorem l_X10_playScript_b34_b {x : Cx} (F : Nat) (a0 : Nat) (h0 : shK a0 = 10 + 8)  (hx : CxOK x RX10 cX10_playScript 3 10 0 (some .int))  (k34 : Int → aI → Option (Int × aI)) (hk34 : ∀ (v2 : Int) (w : aI), En x jvIW 0 0 34 [(0, .ref a0), (2, .int (oI v2))] [] (cm w) (k34 v2 w)) (v2 : Int) (w : aI) : En x jvIW 0 0 34 [(0, .ref a0), (2, .int (oI v2))] [] (cm w) (f_X10_playScript_b34_b F a0   k34 v2 w) := by
  unfold f_X10_playScript_b34_b
  refine E_iload_n (pc := 34) hx 1 dX10_playScript_34 rfl rfl ?_
  refine E_aload_n (pc := 35) hx 0 dX10_playScript_35 rfl rfl ?_
  refine E_getR (pc := 36) hx 4 fc8 h0 rfl ⟨rfl, rfl, rfl⟩ g592 dX10_playScript_36 ?_
  refine I_getI (pc := 39) hx 3 3 rfl fc4 (kt_8_4 h0) rfl ⟨rfl, rfl, rfl⟩ g341 dX10_playScript_39 ?_
  refine E_gd (fun hr5 => ?_)
  refine I_icmp_ge (pc := 42) hx 59 dX10_playScript_42 rfl ⟨hr5.1, hr5.2⟩ ?_ ?_
  · refine E_iload_n (pc := 59) hx 1 dX10_playScript_59 rfl rfl ?_
    exact E_iret (pc := 60) hx dX10_playScript_60 rfl rfl (Nat.le_of_ble_eq_true rfl)
  refine E_aload_n (pc := 45) hx 0 dX10_playScript_45 rfl rfl ?_
  refine E_iload_n (pc := 46) hx 1 dX10_playScript_46 rfl rfl ?_
  refine I_cVBW  (pc := 47) hx [.int (oI v2)] [] (ev_X10_isPlayed F a0 h0 v2 w) vm_X10_isPlayed fc8 h0 g701 dX10_playScript_47 rfl rfl (Nat.le_of_ble_eq_true rfl) (Nat.le_of_ble_eq_true rfl) (Nat.le_of_ble_eq_true rfl) (fun r6 w7 => ?_)
  refine I_ifB_eq (pc := 50) hx 59 dX10_playScript_50 rfl ?_ ?_
  · refine E_iload_n (pc := 59) hx 1 dX10_playScript_59 rfl rfl ?_
    exact E_iret (pc := 60) hx dX10_playScript_60 rfl rfl (Nat.le_of_ble_eq_true rfl)
  refine I_iinc (pc := 53) hx 1 1 dX10_playScript_53 rfl (Nat.le_of_ble_eq_true rfl) rfl ?_
  refine E_goto (pc := 56) hx 34 dX10_playScript_56 rfl ?_
  refine En.sub [1, 0] rfl ?_
  exact hk34 (v2 + 1) w7
theorem l_X10_playScript_b34 {x : Cx} (F : Nat) (a0 : Nat) (h0 : shK a0 = 10 + 8)  (hx : CxOK x RX10 cX10_playScript 3 10 0 (some .int))  : ∀ (n : Nat) (v2 : Int) (w : aI), En x jvIW 0 0 34 [(0, .ref a0), (2, .int (oI v2))] [] (cm w) (f_X10_playScript_b34 F a0   n v2 w) := by
  intro n
  induction n with
  | zero => intro v2 w; exact E_none
  | succ n ih => intro v2 w; exact l_X10_playScript_b34_b F a0 h0  hx  _ ih v2 w
set_option maxHeartbeats 4000000 in
set_option maxRecDepth 100000 in
theorem ev_X10_playScript (F : Nat) (a0 : Nat) (h0 : shK a0 = 10 + 8) (w : aI) : Ev yX10_playScript cX10_playScript 3 (some .int) 10 0 jvIW [.ref a0] (cm w) (f_X10_playScript F a0 w) := by
  refine Ev.of (own := RX10) (by decide +kernel) rfl (Nat.le_of_ble_eq_true rfl) (fun x hx => ?_)
  show En x jvIW 0 0 0 [(0, .ref a0)] [] (cm w) _
  unfold f_X10_playScript
  refine E_aload_n (pc := 0) hx 0 dX10_playScript_0 rfl rfl ?_
  refine E_getR (pc := 1) hx 4 fc8 h0 rfl ⟨rfl, rfl, rfl⟩ g592 dX10_playScript_1 ?_
  refine I_cVBW  (pc := 4) hx [] [] (ev_X4_isRead F (shR a0 4) (kt_8_4 h0) w) vm_X4_isRead fc4 (kt_8_4 h0) g650 dX10_playScript_4 rfl rfl (Nat.le_of_ble_eq_true rfl) (Nat.le_of_ble_eq_true rfl) (Nat.le_of_ble_eq_true rfl) (fun r1 w2 => ?_)
  refine E_istore_n (pc := 7) hx dX10_playScript_7 rfl (Nat.le_of_ble_eq_true rfl) rfl ?_
  refine E_aload_n (pc := 8) hx 1 dX10_playScript_8 rfl rfl ?_
  refine E_getR (pc := 9) hx 0 fc8 h0 rfl ⟨rfl, rfl, rfl⟩ g588 dX10_playScript_9 ?_
  refine I_cVV  (pc := 12) hx [] [] (ev_X0_clear F (shR a0 0) (kt_8_0 h0) w2) vm_X0_clear fc0 (kt_8_0 h0) g584 dX10_playScript_12 rfl rfl (Nat.le_of_ble_eq_true rfl) (Nat.le_of_ble_eq_true rfl) (Nat.le_of_ble_eq_true rfl) (fun w3 => ?_)
  refine E_iload_n (pc := 15) hx 0 dX10_playScript_15 rfl rfl ?_
  refine I_ifB_ne (pc := 16) hx 21 dX10_playScript_16 rfl ?_ ?_
  · refine E_aload_n (pc := 21) hx 1 dX10_playScript_21 rfl rfl ?_
    refine E_getR (pc := 22) hx 8 fc8 h0 rfl ⟨rfl, rfl, rfl⟩ g596 dX10_playScript_22 ?_
    refine E_aload_n (pc := 25) hx 1 dX10_playScript_25 rfl rfl ?_
    refine E_getR (pc := 26) hx 5 fc8 h0 rfl ⟨rfl, rfl, rfl⟩ g593 dX10_playScript_26 ?_
    refine I_cVV  (pc := 29) hx [.ref (shR a0 5)] [] (ev_X1_keep F (shR a0 8) (kt_8_8 h0) (shR a0 5) (kt_8_5 h0) w3) vm_X1_keep fc1 (kt_8_8 h0) g692 dX10_playScript_29 rfl rfl (Nat.le_of_ble_eq_true rfl) (Nat.le_of_ble_eq_true rfl) (Nat.le_of_ble_eq_true rfl) (fun w4 => ?_)
    refine I_iconst (pc := 32) hx 0 dX10_playScript_32 ?_
    refine E_istore_n (pc := 33) hx dX10_playScript_33 rfl (Nat.le_of_ble_eq_true rfl) rfl ?_
    refine En.sub [2, 0] rfl ?_
    exact l_X10_playScript_b34 F a0 h0 hx F 0 w4
  refine I_iconst (pc := 19) hx (-1) dX10_playScript_19 ?_
  exact E_iret (pc := 20) hx dX10_playScript_20 rfl rfl (Nat.le_of_ble_eq_true rfl)
set_option maxHeartbeats 4000000 in
set_option maxRecDepth 100000 in
theorem ev_X10_errorCode (F : Nat) (a0 : Nat) (h0 : shK a0 = 10 + 8) (w : aI) : Ev yX10_errorCode cX10_errorCode 1 (some .int) 0 0 (jvI w) [.ref a0] (cm w) (f_X10_errorCode F a0 w) := by
  refine Ev.of (own := RX10) (by decide +kernel) rfl (Nat.le_of_ble_eq_true rfl) (fun x hx => ?_)
  show En x (jvI w) 0 0 0 [(0, .ref a0)] [] (cm w) _
  unfold f_X10_errorCode
  refine E_aload_n (pc := 0) hx 0 dX10_errorCode_0 rfl rfl ?_
  refine E_getR (pc := 1) hx 2 fc8 h0 rfl ⟨rfl, rfl, rfl⟩ g590 dX10_errorCode_1 ?_
  refine I_getI (pc := 4) hx 5 5 rfl fc7 (kt_8_2 h0) rfl ⟨rfl, rfl, rfl⟩ g297 dX10_errorCode_4 ?_
  exact E_iret (pc := 7) hx dX10_errorCode_7 rfl rfl (Nat.le_of_ble_eq_true rfl)
set_option maxHeartbeats 4000000 in
set_option maxRecDepth 100000 in
theorem ev_X10_errorOffset (F : Nat) (a0 : Nat) (h0 : shK a0 = 10 + 8) (w : aI) : Ev yX10_errorOffset cX10_errorOffset 1 (some .int) 0 0 (jvI w) [.ref a0] (cm w) (f_X10_errorOffset F a0 w) := by
  refine Ev.of (own := RX10) (by decide +kernel) rfl (Nat.le_of_ble_eq_true rfl) (fun x hx => ?_)
  show En x (jvI w) 0 0 0 [(0, .ref a0)] [] (cm w) _
  unfold f_X10_errorOffset
  refine E_aload_n (pc := 0) hx 0 dX10_errorOffset_0 rfl rfl ?_
  refine E_getR (pc := 1) hx 2 fc8 h0 rfl ⟨rfl, rfl, rfl⟩ g590 dX10_errorOffset_1 ?_
  refine I_getI (pc := 4) hx 6 6 rfl fc7 (kt_8_2 h0) rfl ⟨rfl, rfl, rfl⟩ g299 dX10_errorOffset_4 ?_
  exact E_iret (pc := 7) hx dX10_errorOffset_7 rfl rfl (Nat.le_of_ble_eq_true rfl)
set_option maxHeartbeats 4000000 in
set_option maxRecDepth 100000 in
theorem ev_X10_needNumber (F : Nat) (a0 : Nat) (h0 : shK a0 = 10 + 8) (p1 : Int) (p2 : Int) (p3 : Int) (w : aI) : Ev yX10_needNumber cX10_needNumber 4 none 6 1 (jvN w) [.ref a0, .int (oI p1), .int (oI p2), .int (oI p3)] (cm w) (f_X10_needNumber F a0 p1 p2 p3 w) := by
  refine Ev.of (own := RX10) (by decide +kernel) rfl (Nat.le_of_ble_eq_true rfl) (fun x hx => ?_)
  show En x (jvN w) 1 0 0 [(0, .ref a0), (1, .int (oI p1)), (2, .int (oI p2)), (3, .int (oI p3))] [] (cm w) _
  unfold f_X10_needNumber
  refine E_iload_n (pc := 0) hx 1 dX10_needNumber_0 rfl rfl ?_
  refine E_iload_n (pc := 1) hx 2 dX10_needNumber_1 rfl rfl ?_
  refine E_gd (fun hr1 => ?_)
  refine I_icmp_lt (pc := 2) hx 10 dX10_needNumber_2 rfl ⟨hr1.1, hr1.2⟩ ?_ ?_
  · exact E_thrw (pc := 10) hx (i := 11) (text := (xStr.getD 11 ("", 0, "", 0)).2.2.1) xtA (by decide +kernel) dX10_needNumber_10 dX10_needNumber_13 dX10_needNumber_14 dX10_needNumber_17 dX10_needNumber_20 (Nat.le_of_ble_eq_true rfl) (Nat.le_of_ble_eq_true rfl) (Nat.le_of_ble_eq_true rfl) rfl
  refine E_iload_n (pc := 5) hx 1 dX10_needNumber_5 rfl rfl ?_
  refine E_iload_n (pc := 6) hx 3 dX10_needNumber_6 rfl rfl ?_
  refine E_gd (fun hr2 => ?_)
  refine I_icmp_le (pc := 7) hx 21 dX10_needNumber_7 rfl ⟨hr1.1, hr2⟩ ?_ ?_
  · exact E_vret (pc := 21) hx dX10_needNumber_21 rfl rfl (Nat.le_of_ble_eq_true rfl)
  exact E_thrw (pc := 10) hx (i := 11) (text := (xStr.getD 11 ("", 0, "", 0)).2.2.1) xtA (by decide +kernel) dX10_needNumber_10 dX10_needNumber_13 dX10_needNumber_14 dX10_needNumber_17 dX10_needNumber_20 (Nat.le_of_ble_eq_true rfl) (Nat.le_of_ble_eq_true rfl) (Nat.le_of_ble_eq_true rfl) rfl
set_option maxHeartbeats 4000000 in
set_option maxRecDepth 100000 in
theorem ev_X10_count (F : Nat) (a0 : Nat) (h0 : shK a0 = 10 + 8) (p1 : Int) (w : aI) : Ev yX10_count cX10_count 2 (some .int) 7 1 jvT [.ref a0, .int (oI p1)] (cm w) (f_X10_count F a0 p1 w) := by
  refine Ev.of (own := RX10) (by decide +kernel) rfl (Nat.le_of_ble_eq_true rfl) (fun x hx => ?_)
  show En x jvT 1 0 0 [(0, .ref a0), (1, .int (oI p1))] [] (cm w) _
  unfold f_X10_count
  refine E_aload_n (pc := 0) hx 0 dX10_count_0 rfl rfl ?_
  refine E_iload_n (pc := 1) hx 1 dX10_count_1 rfl rfl ?_
  refine I_iconst (pc := 2) hx 0 dX10_count_2 ?_
  refine I_bipush (pc := 3) hx 13 dX10_count_3 rfl ?_
  refine I_cVN (hcv := rfl) (pc := 5) hx [.int (oI p1), .int (oI 0), .int (oI 13)] [] (ev_X10_needNumber F a0 h0 p1 0 13 w) vm_X10_needNumber fc8 h0 g932 dX10_count_5 rfl rfl (Nat.le_of_ble_eq_true rfl) (Nat.le_of_ble_eq_true rfl) (Nat.le_of_ble_eq_true rfl) ?_
  refine E_iload_n (pc := 8) hx 1 dX10_count_8 rfl rfl ?_
  refine I_bipush (pc := 9) hx 13 dX10_count_9 rfl ?_
  refine E_gd (fun hr1 => ?_)
  refine I_icmp_ne (pc := 11) hx 24 dX10_count_11 rfl ⟨hr1, (by decide)⟩ ?_ ?_
  · refine E_aload_n (pc := 24) hx 0 dX10_count_24 rfl rfl ?_
    refine E_getR (pc := 25) hx 5 fc8 h0 rfl ⟨rfl, rfl, rfl⟩ g593 dX10_count_25 ?_
    refine E_iload_n (pc := 28) hx 1 dX10_count_28 rfl rfl ?_
    refine I_cVI  (pc := 29) hx [.int (oI p1)] [] (ev_X2_numberOfAll F (shR a0 5) (kt_8_5 h0) p1 w) vm_X2_numberOfAll fc2 (kt_8_5 h0) g1008 dX10_count_29 rfl rfl (Nat.le_of_ble_eq_true rfl) (Nat.le_of_ble_eq_true rfl) (Nat.le_of_ble_eq_true rfl) (fun r2 => ?_)
    exact E_iret (pc := 32) hx dX10_count_32 rfl rfl (Nat.le_of_ble_eq_true rfl)
  refine E_aload_n (pc := 14) hx 0 dX10_count_14 rfl rfl ?_
  refine E_getR (pc := 15) hx 8 fc8 h0 rfl ⟨rfl, rfl, rfl⟩ g596 dX10_count_15 ?_
  refine I_cVI  (pc := 18) hx [] [] (ev_X1_size F (shR a0 8) (kt_8_8 h0) w) vm_X1_size fc1 (kt_8_8 h0) g1004 dX10_count_18 rfl rfl (Nat.le_of_ble_eq_true rfl) (Nat.le_of_ble_eq_true rfl) (Nat.le_of_ble_eq_true rfl) (fun r3 => ?_)
  refine E_goto (pc := 21) hx 32 dX10_count_21 rfl ?_
  exact E_iret (pc := 32) hx dX10_count_32 rfl rfl (Nat.le_of_ble_eq_true rfl)
set_option maxHeartbeats 4000000 in
set_option maxRecDepth 100000 in
theorem ev_X10_account (F : Nat) (a0 : Nat) (h0 : shK a0 = 10 + 8) (p1 : Int) (w : aI) : Ev yX10_account cX10_account 2 (some .int) 7 1 jvT [.ref a0, .int (oI p1)] (cm w) (f_X10_account F a0 p1 w) := by
  refine Ev.of (own := RX10) (by decide +kernel) rfl (Nat.le_of_ble_eq_true rfl) (fun x hx => ?_)
  show En x jvT 1 0 0 [(0, .ref a0), (1, .int (oI p1))] [] (cm w) _
  unfold f_X10_account
  refine E_aload_n (pc := 0) hx 0 dX10_account_0 rfl rfl ?_
  refine E_iload_n (pc := 1) hx 1 dX10_account_1 rfl rfl ?_
  refine I_iconst (pc := 2) hx 0 dX10_account_2 ?_
  refine I_bipush (pc := 3) hx 10 dX10_account_3 rfl ?_
  refine I_cVN (hcv := rfl) (pc := 5) hx [.int (oI p1), .int (oI 0), .int (oI 10)] [] (ev_X10_needNumber F a0 h0 p1 0 10 w) vm_X10_needNumber fc8 h0 g932 dX10_account_5 rfl rfl (Nat.le_of_ble_eq_true rfl) (Nat.le_of_ble_eq_true rfl) (Nat.le_of_ble_eq_true rfl) ?_
  refine E_aload_n (pc := 8) hx 0 dX10_account_8 rfl rfl ?_
  refine E_getR (pc := 9) hx 5 fc8 h0 rfl ⟨rfl, rfl, rfl⟩ g593 dX10_account_9 ?_
  refine E_getR (pc := 12) hx 8 fc2 (kt_8_5 h0) rfl ⟨rfl, rfl, rfl⟩ g236 dX10_account_12 ?_
  refine I_iconst (pc := 15) hx 0 dX10_account_15 ?_
  refine E_iload_n (pc := 16) hx 1 dX10_account_16 rfl rfl ?_
  refine I_cVI  (pc := 17) hx [.int (oI 0), .int (oI p1)] [] (ev_X7_get F (shR (shR a0 5) 8) (kt_2_8 (kt_8_5 h0)) 0 p1 w) vm_X7_get fc6 (kt_2_8 (kt_8_5 h0)) g705 dX10_account_17 rfl rfl (Nat.le_of_ble_eq_true rfl) (Nat.le_of_ble_eq_true rfl) (Nat.le_of_ble_eq_true rfl) (fun r1 => ?_)
  exact E_iret (pc := 20) hx dX10_account_20 rfl rfl (Nat.le_of_ble_eq_true rfl)
set_option maxHeartbeats 4000000 in
set_option maxRecDepth 100000 in
theorem ev_X10_needRoof (F : Nat) (a0 : Nat) (h0 : shK a0 = 10 + 8) (p1 : Int) (w : aI) : Ev yX10_needRoof cX10_needRoof 2 none 6 1 (jvN w) [.ref a0, .int (oI p1)] (cm w) (f_X10_needRoof F a0 p1 w) := by
  refine Ev.of (own := RX10) (by decide +kernel) rfl (Nat.le_of_ble_eq_true rfl) (fun x hx => ?_)
  show En x (jvN w) 1 0 0 [(0, .ref a0), (1, .int (oI p1))] [] (cm w) _
  unfold f_X10_needRoof
  refine E_iload_n (pc := 0) hx 1 dX10_needRoof_0 rfl rfl ?_
  refine E_gd (fun hr1 => ?_)
  refine I_if_lt (pc := 1) hx 15 dX10_needRoof_1 rfl hr1 ?_ ?_
  · exact E_thrw (pc := 15) hx (i := 9) (text := (xStr.getD 9 ("", 0, "", 0)).2.2.1) xtI (by decide +kernel) dX10_needRoof_15 dX10_needRoof_18 dX10_needRoof_19 dX10_needRoof_22 dX10_needRoof_25 (Nat.le_of_ble_eq_true rfl) (Nat.le_of_ble_eq_true rfl) (Nat.le_of_ble_eq_true rfl) rfl
  refine E_iload_n (pc := 4) hx 1 dX10_needRoof_4 rfl rfl ?_
  refine E_aload_n (pc := 5) hx 0 dX10_needRoof_5 rfl rfl ?_
  refine E_getR (pc := 6) hx 5 fc8 h0 rfl ⟨rfl, rfl, rfl⟩ g593 dX10_needRoof_6 ?_
  refine I_getI (pc := 9) hx 1 1 rfl fc2 (kt_8_5 h0) rfl ⟨rfl, rfl, rfl⟩ g211 dX10_needRoof_9 ?_
  refine E_gd (fun hr2 => ?_)
  refine I_icmp_lt (pc := 12) hx 26 dX10_needRoof_12 rfl ⟨hr1, hr2⟩ ?_ ?_
  · exact E_vret (pc := 26) hx dX10_needRoof_26 rfl rfl (Nat.le_of_ble_eq_true rfl)
  exact E_thrw (pc := 15) hx (i := 9) (text := (xStr.getD 9 ("", 0, "", 0)).2.2.1) xtI (by decide +kernel) dX10_needRoof_15 dX10_needRoof_18 dX10_needRoof_19 dX10_needRoof_22 dX10_needRoof_25 (Nat.le_of_ble_eq_true rfl) (Nat.le_of_ble_eq_true rfl) (Nat.le_of_ble_eq_true rfl) rfl
set_option maxHeartbeats 4000000 in
set_option maxRecDepth 100000 in
theorem ev_X10_nameByte (F : Nat) (a0 : Nat) (h0 : shK a0 = 10 + 8) (p1 : Int) (p2 : Int) (w : aI) : Ev yX10_nameByte cX10_nameByte 3 (some .int) 7 1 jvT [.ref a0, .int (oI p1), .int (oI p2)] (cm w) (f_X10_nameByte F a0 p1 p2 w) := by
  refine Ev.of (own := RX10) (by decide +kernel) rfl (Nat.le_of_ble_eq_true rfl) (fun x hx => ?_)
  show En x jvT 1 0 0 [(0, .ref a0), (1, .int (oI p1)), (2, .int (oI p2))] [] (cm w) _
  unfold f_X10_nameByte
  refine E_aload_n (pc := 0) hx 0 dX10_nameByte_0 rfl rfl ?_
  refine E_iload_n (pc := 1) hx 1 dX10_nameByte_1 rfl rfl ?_
  refine I_cVN (hcv := rfl) (pc := 2) hx [.int (oI p1)] [] (ev_X10_needRoof F a0 h0 p1 w) vm_X10_needRoof fc8 h0 g1035 dX10_nameByte_2 rfl rfl (Nat.le_of_ble_eq_true rfl) (Nat.le_of_ble_eq_true rfl) (Nat.le_of_ble_eq_true rfl) ?_
  refine E_aload_n (pc := 5) hx 0 dX10_nameByte_5 rfl rfl ?_
  refine E_getR (pc := 6) hx 5 fc8 h0 rfl ⟨rfl, rfl, rfl⟩ g593 dX10_nameByte_6 ?_
  refine E_iload_n (pc := 9) hx 1 dX10_nameByte_9 rfl rfl ?_
  refine E_iload_n (pc := 10) hx 2 dX10_nameByte_10 rfl rfl ?_
  refine I_cVI  (pc := 11) hx [.int (oI p1), .int (oI p2)] [] (ev_X2_letterOf F (shR a0 5) (kt_8_5 h0) p1 p2 w) vm_X2_letterOf fc2 (kt_8_5 h0) g901 dX10_nameByte_11 rfl rfl (Nat.le_of_ble_eq_true rfl) (Nat.le_of_ble_eq_true rfl) (Nat.le_of_ble_eq_true rfl) (fun r1 => ?_)
  exact E_iret (pc := 14) hx dX10_nameByte_14 rfl rfl (Nat.le_of_ble_eq_true rfl)
set_option maxHeartbeats 4000000 in
set_option maxRecDepth 100000 in
theorem ev_X10_roof (F : Nat) (a0 : Nat) (h0 : shK a0 = 10 + 8) (p1 : Int) (p2 : Int) (w : aI) : Ev yX10_roof cX10_roof 3 (some .int) 7 2 jvT [.ref a0, .int (oI p1), .int (oI p2)] (cm w) (f_X10_roof F a0 p1 p2 w) := by
  refine Ev.of (own := RX10) (by decide +kernel) rfl (Nat.le_of_ble_eq_true rfl) (fun x hx => ?_)
  show En x jvT 2 0 0 [(0, .ref a0), (1, .int (oI p1)), (2, .int (oI p2))] [] (cm w) _
  unfold f_X10_roof
  refine E_aload_n (pc := 0) hx 0 dX10_roof_0 rfl rfl ?_
  refine E_iload_n (pc := 1) hx 1 dX10_roof_1 rfl rfl ?_
  refine I_cVN (hcv := rfl) (pc := 2) hx [.int (oI p1)] [] (ev_X10_needRoof F a0 h0 p1 w) vm_X10_needRoof fc8 h0 g1035 dX10_roof_2 rfl rfl (Nat.le_of_ble_eq_true rfl) (Nat.le_of_ble_eq_true rfl) (Nat.le_of_ble_eq_true rfl) ?_
  refine E_aload_n (pc := 5) hx 0 dX10_roof_5 rfl rfl ?_
  refine E_iload_n (pc := 6) hx 2 dX10_roof_6 rfl rfl ?_
  refine I_iconst (pc := 7) hx 0 dX10_roof_7 ?_
  refine I_bipush (pc := 8) hx 7 dX10_roof_8 rfl ?_
  refine I_cVN (hcv := rfl) (pc := 10) hx [.int (oI p2), .int (oI 0), .int (oI 7)] [] (ev_X10_needNumber F a0 h0 p2 0 7 w) vm_X10_needNumber fc8 h0 g932 dX10_roof_10 rfl rfl (Nat.le_of_ble_eq_true rfl) (Nat.le_of_ble_eq_true rfl) (Nat.le_of_ble_eq_true rfl) ?_
  refine E_aload_n (pc := 13) hx 0 dX10_roof_13 rfl rfl ?_
  refine E_getR (pc := 14) hx 5 fc8 h0 rfl ⟨rfl, rfl, rfl⟩ g593 dX10_roof_14 ?_
  refine E_iload_n (pc := 17) hx 1 dX10_roof_17 rfl rfl ?_
  refine E_iload_n (pc := 18) hx 2 dX10_roof_18 rfl rfl ?_
  refine I_cVI  (pc := 19) hx [.int (oI p1), .int (oI p2)] [] (ev_X2_numberOfRoof F (shR a0 5) (kt_8_5 h0) p1 p2 w) vm_X2_numberOfRoof fc2 (kt_8_5 h0) g1062 dX10_roof_19 rfl rfl (Nat.le_of_ble_eq_true rfl) (Nat.le_of_ble_eq_true rfl) (Nat.le_of_ble_eq_true rfl) (fun r1 => ?_)
  exact E_iret (pc := 22) hx dX10_roof_22 rfl rfl (Nat.le_of_ble_eq_true rfl)
set_option maxHeartbeats 4000000 in
set_option maxRecDepth 100000 in
theorem ev_X10_way (F : Nat) (a0 : Nat) (h0 : shK a0 = 10 + 8) (p1 : Int) (p2 : Int) (w : aI) : Ev yX10_way cX10_way 3 (some .int) 7 2 jvT [.ref a0, .int (oI p1), .int (oI p2)] (cm w) (f_X10_way F a0 p1 p2 w) := by
  refine Ev.of (own := RX10) (by decide +kernel) rfl (Nat.le_of_ble_eq_true rfl) (fun x hx => ?_)
  show En x jvT 2 0 0 [(0, .ref a0), (1, .int (oI p1)), (2, .int (oI p2))] [] (cm w) _
  unfold f_X10_way
  refine E_iload_n (pc := 0) hx 1 dX10_way_0 rfl rfl ?_
  refine E_gd (fun hr1 => ?_)
  refine I_if_lt (pc := 1) hx 15 dX10_way_1 rfl hr1 ?_ ?_
  · exact E_thr (pc := 15) hx (i := 0) (text := (xStr.getD 0 ("", 0, "", 0)).2.2.1) xtI (by decide +kernel) dX10_way_15 dX10_way_18 dX10_way_19 dX10_way_21 dX10_way_24 (Nat.le_of_ble_eq_true rfl) (Nat.le_of_ble_eq_true rfl) (Nat.le_of_ble_eq_true rfl) rfl
  refine E_iload_n (pc := 4) hx 1 dX10_way_4 rfl rfl ?_
  refine E_aload_n (pc := 5) hx 0 dX10_way_5 rfl rfl ?_
  refine E_getR (pc := 6) hx 5 fc8 h0 rfl ⟨rfl, rfl, rfl⟩ g593 dX10_way_6 ?_
  refine I_getI (pc := 9) hx 2 2 rfl fc2 (kt_8_5 h0) rfl ⟨rfl, rfl, rfl⟩ g216 dX10_way_9 ?_
  refine E_gd (fun hr2 => ?_)
  refine I_icmp_lt (pc := 12) hx 25 dX10_way_12 rfl ⟨hr1, hr2⟩ ?_ ?_
  · refine E_aload_n (pc := 25) hx 0 dX10_way_25 rfl rfl ?_
    refine E_iload_n (pc := 26) hx 2 dX10_way_26 rfl rfl ?_
    refine I_iconst (pc := 27) hx 0 dX10_way_27 ?_
    refine I_iconst (pc := 28) hx 2 dX10_way_28 ?_
    refine I_cVN (hcv := rfl) (pc := 29) hx [.int (oI p2), .int (oI 0), .int (oI 2)] [] (ev_X10_needNumber F a0 h0 p2 0 2 w) vm_X10_needNumber fc8 h0 g932 dX10_way_29 rfl rfl (Nat.le_of_ble_eq_true rfl) (Nat.le_of_ble_eq_true rfl) (Nat.le_of_ble_eq_true rfl) ?_
    refine E_aload_n (pc := 32) hx 0 dX10_way_32 rfl rfl ?_
    refine E_getR (pc := 33) hx 5 fc8 h0 rfl ⟨rfl, rfl, rfl⟩ g593 dX10_way_33 ?_
    refine E_getR (pc := 36) hx 5 fc2 (kt_8_5 h0) rfl ⟨rfl, rfl, rfl⟩ g228 dX10_way_36 ?_
    refine E_iload_n (pc := 39) hx 1 dX10_way_39 rfl rfl ?_
    refine E_iload_n (pc := 40) hx 2 dX10_way_40 rfl rfl ?_
    refine I_cVI  (pc := 41) hx [.int (oI p1), .int (oI p2)] [] (ev_X7_get F (shR (shR a0 5) 5) (kt_2_5 (kt_8_5 h0)) p1 p2 w) vm_X7_get fc6 (kt_2_5 (kt_8_5 h0)) g705 dX10_way_41 rfl rfl (Nat.le_of_ble_eq_true rfl) (Nat.le_of_ble_eq_true rfl) (Nat.le_of_ble_eq_true rfl) (fun r3 => ?_)
    exact E_iret (pc := 44) hx dX10_way_44 rfl rfl (Nat.le_of_ble_eq_true rfl)
  exact E_thr (pc := 15) hx (i := 0) (text := (xStr.getD 0 ("", 0, "", 0)).2.2.1) xtI (by decide +kernel) dX10_way_15 dX10_way_18 dX10_way_19 dX10_way_21 dX10_way_24 (Nat.le_of_ble_eq_true rfl) (Nat.le_of_ble_eq_true rfl) (Nat.le_of_ble_eq_true rfl) rfl
set_option maxHeartbeats 4000000 in
set_option maxRecDepth 100000 in
theorem ev_X10_route (F : Nat) (a0 : Nat) (h0 : shK a0 = 10 + 8) (p1 : Int) (p2 : Int) (w : aI) : Ev yX10_route cX10_route 4 (some .int) 7 2 jvT [.ref a0, .int (oI p1), .int (oI p2)] (cm w) (f_X10_route F a0 p1 p2 w) := by
  refine Ev.of (own := RX10) (by decide +kernel) rfl (Nat.le_of_ble_eq_true rfl) (fun x hx => ?_)
  show En x jvT 2 0 0 [(0, .ref a0), (1, .int (oI p1)), (2, .int (oI p2))] [] (cm w) _
  unfold f_X10_route
  refine E_aload_n (pc := 0) hx 0 dX10_route_0 rfl rfl ?_
  refine E_iload_n (pc := 1) hx 1 dX10_route_1 rfl rfl ?_
  refine I_cVN (hcv := rfl) (pc := 2) hx [.int (oI p1)] [] (ev_X10_needRoof F a0 h0 p1 w) vm_X10_needRoof fc8 h0 g1035 dX10_route_2 rfl rfl (Nat.le_of_ble_eq_true rfl) (Nat.le_of_ble_eq_true rfl) (Nat.le_of_ble_eq_true rfl) ?_
  refine E_aload_n (pc := 5) hx 0 dX10_route_5 rfl rfl ?_
  refine E_iload_n (pc := 6) hx 2 dX10_route_6 rfl rfl ?_
  refine I_cVN (hcv := rfl) (pc := 7) hx [.int (oI p2)] [] (ev_X10_needRoof F a0 h0 p2 w) vm_X10_needRoof fc8 h0 g1035 dX10_route_7 rfl rfl (Nat.le_of_ble_eq_true rfl) (Nat.le_of_ble_eq_true rfl) (Nat.le_of_ble_eq_true rfl) ?_
  refine E_aload_n (pc := 10) hx 0 dX10_route_10 rfl rfl ?_
  refine E_getR (pc := 11) hx 5 fc8 h0 rfl ⟨rfl, rfl, rfl⟩ g593 dX10_route_11 ?_
  refine E_getR (pc := 14) hx 9 fc2 (kt_8_5 h0) rfl ⟨rfl, rfl, rfl⟩ g241 dX10_route_14 ?_
  refine E_getR (pc := 17) hx 1 fc3 (kt_2_9 (kt_8_5 h0)) rfl ⟨rfl, rfl, rfl⟩ g190 dX10_route_17 ?_
  refine E_iload_n (pc := 20) hx 1 dX10_route_20 rfl rfl ?_
  refine E_iload_n (pc := 21) hx 2 dX10_route_21 rfl rfl ?_
  refine I_cVI  (pc := 22) hx [.int (oI p1), .int (oI p2)] [] (ev_X7_get F (shR (shR (shR a0 5) 9) 1) (kt_3_1 (kt_2_9 (kt_8_5 h0))) p1 p2 w) vm_X7_get fc6 (kt_3_1 (kt_2_9 (kt_8_5 h0))) g705 dX10_route_22 rfl rfl (Nat.le_of_ble_eq_true rfl) (Nat.le_of_ble_eq_true rfl) (Nat.le_of_ble_eq_true rfl) (fun r1 => ?_)
  refine E_istore_n (pc := 25) hx dX10_route_25 rfl (Nat.le_of_ble_eq_true rfl) rfl ?_
  refine E_iload_n (pc := 26) hx 0 dX10_route_26 rfl rfl ?_
  refine I_sipush (pc := 27) hx 9999 dX10_route_27 rfl ?_
  refine E_gd (fun hr2 => ?_)
  refine I_icmp_ge (pc := 30) hx 37 dX10_route_30 rfl ⟨hr2, (by decide)⟩ ?_ ?_
  · refine I_iconst (pc := 37) hx (-1) dX10_route_37 ?_
    exact E_iret (pc := 38) hx dX10_route_38 rfl rfl (Nat.le_of_ble_eq_true rfl)
  refine E_iload_n (pc := 33) hx 0 dX10_route_33 rfl rfl ?_
  refine E_goto (pc := 34) hx 38 dX10_route_34 rfl ?_
  exact E_iret (pc := 38) hx dX10_route_38 rfl rfl (Nat.le_of_ble_eq_true rfl)
set_option maxHeartbeats 4000000 in
set_option maxRecDepth 100000 in
theorem ev_X10_next (F : Nat) (a0 : Nat) (h0 : shK a0 = 10 + 8) (p1 : Int) (p2 : Int) (w : aI) : Ev yX10_next cX10_next 3 (some .int) 7 2 jvT [.ref a0, .int (oI p1), .int (oI p2)] (cm w) (f_X10_next F a0 p1 p2 w) := by
  refine Ev.of (own := RX10) (by decide +kernel) rfl (Nat.le_of_ble_eq_true rfl) (fun x hx => ?_)
  show En x jvT 2 0 0 [(0, .ref a0), (1, .int (oI p1)), (2, .int (oI p2))] [] (cm w) _
  unfold f_X10_next
  refine E_aload_n (pc := 0) hx 0 dX10_next_0 rfl rfl ?_
  refine E_iload_n (pc := 1) hx 1 dX10_next_1 rfl rfl ?_
  refine I_cVN (hcv := rfl) (pc := 2) hx [.int (oI p1)] [] (ev_X10_needRoof F a0 h0 p1 w) vm_X10_needRoof fc8 h0 g1035 dX10_next_2 rfl rfl (Nat.le_of_ble_eq_true rfl) (Nat.le_of_ble_eq_true rfl) (Nat.le_of_ble_eq_true rfl) ?_
  refine E_aload_n (pc := 5) hx 0 dX10_next_5 rfl rfl ?_
  refine E_iload_n (pc := 6) hx 2 dX10_next_6 rfl rfl ?_
  refine I_cVN (hcv := rfl) (pc := 7) hx [.int (oI p2)] [] (ev_X10_needRoof F a0 h0 p2 w) vm_X10_needRoof fc8 h0 g1035 dX10_next_7 rfl rfl (Nat.le_of_ble_eq_true rfl) (Nat.le_of_ble_eq_true rfl) (Nat.le_of_ble_eq_true rfl) ?_
  refine E_aload_n (pc := 10) hx 0 dX10_next_10 rfl rfl ?_
  refine E_getR (pc := 11) hx 5 fc8 h0 rfl ⟨rfl, rfl, rfl⟩ g593 dX10_next_11 ?_
  refine E_getR (pc := 14) hx 9 fc2 (kt_8_5 h0) rfl ⟨rfl, rfl, rfl⟩ g241 dX10_next_14 ?_
  refine E_getR (pc := 17) hx 2 fc3 (kt_2_9 (kt_8_5 h0)) rfl ⟨rfl, rfl, rfl⟩ g193 dX10_next_17 ?_
  refine E_iload_n (pc := 20) hx 1 dX10_next_20 rfl rfl ?_
  refine E_iload_n (pc := 21) hx 2 dX10_next_21 rfl rfl ?_
  refine I_cVI  (pc := 22) hx [.int (oI p1), .int (oI p2)] [] (ev_X7_get F (shR (shR (shR a0 5) 9) 2) (kt_3_2 (kt_2_9 (kt_8_5 h0))) p1 p2 w) vm_X7_get fc6 (kt_3_2 (kt_2_9 (kt_8_5 h0))) g705 dX10_next_22 rfl rfl (Nat.le_of_ble_eq_true rfl) (Nat.le_of_ble_eq_true rfl) (Nat.le_of_ble_eq_true rfl) (fun r1 => ?_)
  exact E_iret (pc := 25) hx dX10_next_25 rfl rfl (Nat.le_of_ble_eq_true rfl)
set_option maxHeartbeats 4000000 in
set_option maxRecDepth 100000 in
theorem ev_X10_needTune (F : Nat) (a0 : Nat) (h0 : shK a0 = 10 + 8) (p1 : Int) (w : aI) : Ev yX10_needTune cX10_needTune 2 none 6 1 (jvN w) [.ref a0, .int (oI p1)] (cm w) (f_X10_needTune F a0 p1 w) := by
  refine Ev.of (own := RX10) (by decide +kernel) rfl (Nat.le_of_ble_eq_true rfl) (fun x hx => ?_)
  show En x (jvN w) 1 0 0 [(0, .ref a0), (1, .int (oI p1))] [] (cm w) _
  unfold f_X10_needTune
  refine E_iload_n (pc := 0) hx 1 dX10_needTune_0 rfl rfl ?_
  refine E_gd (fun hr1 => ?_)
  refine I_if_lt (pc := 1) hx 15 dX10_needTune_1 rfl hr1 ?_ ?_
  · exact E_thrw (pc := 15) hx (i := 10) (text := (xStr.getD 10 ("", 0, "", 0)).2.2.1) xtI (by decide +kernel) dX10_needTune_15 dX10_needTune_18 dX10_needTune_19 dX10_needTune_22 dX10_needTune_25 (Nat.le_of_ble_eq_true rfl) (Nat.le_of_ble_eq_true rfl) (Nat.le_of_ble_eq_true rfl) rfl
  refine E_iload_n (pc := 4) hx 1 dX10_needTune_4 rfl rfl ?_
  refine E_aload_n (pc := 5) hx 0 dX10_needTune_5 rfl rfl ?_
  refine E_getR (pc := 6) hx 5 fc8 h0 rfl ⟨rfl, rfl, rfl⟩ g593 dX10_needTune_6 ?_
  refine I_getI (pc := 9) hx 3 3 rfl fc2 (kt_8_5 h0) rfl ⟨rfl, rfl, rfl⟩ g219 dX10_needTune_9 ?_
  refine E_gd (fun hr2 => ?_)
  refine I_icmp_lt (pc := 12) hx 26 dX10_needTune_12 rfl ⟨hr1, hr2⟩ ?_ ?_
  · exact E_vret (pc := 26) hx dX10_needTune_26 rfl rfl (Nat.le_of_ble_eq_true rfl)
  exact E_thrw (pc := 15) hx (i := 10) (text := (xStr.getD 10 ("", 0, "", 0)).2.2.1) xtI (by decide +kernel) dX10_needTune_15 dX10_needTune_18 dX10_needTune_19 dX10_needTune_22 dX10_needTune_25 (Nat.le_of_ble_eq_true rfl) (Nat.le_of_ble_eq_true rfl) (Nat.le_of_ble_eq_true rfl) rfl
set_option maxHeartbeats 4000000 in
set_option maxRecDepth 100000 in
theorem ev_X10_tune (F : Nat) (a0 : Nat) (h0 : shK a0 = 10 + 8) (p1 : Int) (p2 : Int) (w : aI) : Ev yX10_tune cX10_tune 3 (some .int) 7 2 jvT [.ref a0, .int (oI p1), .int (oI p2)] (cm w) (f_X10_tune F a0 p1 p2 w) := by
  refine Ev.of (own := RX10) (by decide +kernel) rfl (Nat.le_of_ble_eq_true rfl) (fun x hx => ?_)
  show En x jvT 2 0 0 [(0, .ref a0), (1, .int (oI p1)), (2, .int (oI p2))] [] (cm w) _
  unfold f_X10_tune
  refine E_aload_n (pc := 0) hx 0 dX10_tune_0 rfl rfl ?_
  refine E_iload_n (pc := 1) hx 1 dX10_tune_1 rfl rfl ?_
  refine I_cVN (hcv := rfl) (pc := 2) hx [.int (oI p1)] [] (ev_X10_needTune F a0 h0 p1 w) vm_X10_needTune fc8 h0 g1100 dX10_tune_2 rfl rfl (Nat.le_of_ble_eq_true rfl) (Nat.le_of_ble_eq_true rfl) (Nat.le_of_ble_eq_true rfl) ?_
  refine E_aload_n (pc := 5) hx 0 dX10_tune_5 rfl rfl ?_
  refine E_iload_n (pc := 6) hx 2 dX10_tune_6 rfl rfl ?_
  refine I_iconst (pc := 7) hx 0 dX10_tune_7 ?_
  refine I_bipush (pc := 8) hx 11 dX10_tune_8 rfl ?_
  refine I_cVN (hcv := rfl) (pc := 10) hx [.int (oI p2), .int (oI 0), .int (oI 11)] [] (ev_X10_needNumber F a0 h0 p2 0 11 w) vm_X10_needNumber fc8 h0 g932 dX10_tune_10 rfl rfl (Nat.le_of_ble_eq_true rfl) (Nat.le_of_ble_eq_true rfl) (Nat.le_of_ble_eq_true rfl) ?_
  refine E_aload_n (pc := 13) hx 0 dX10_tune_13 rfl rfl ?_
  refine E_getR (pc := 14) hx 5 fc8 h0 rfl ⟨rfl, rfl, rfl⟩ g593 dX10_tune_14 ?_
  refine E_iload_n (pc := 17) hx 1 dX10_tune_17 rfl rfl ?_
  refine E_iload_n (pc := 18) hx 2 dX10_tune_18 rfl rfl ?_
  refine I_cVI  (pc := 19) hx [.int (oI p1), .int (oI p2)] [] (ev_X2_numberOfTune F (shR a0 5) (kt_8_5 h0) p1 p2 w) vm_X2_numberOfTune fc2 (kt_8_5 h0) g1105 dX10_tune_19 rfl rfl (Nat.le_of_ble_eq_true rfl) (Nat.le_of_ble_eq_true rfl) (Nat.le_of_ble_eq_true rfl) (fun r1 => ?_)
  exact E_iret (pc := 22) hx dX10_tune_22 rfl rfl (Nat.le_of_ble_eq_true rfl)
set_option maxHeartbeats 4000000 in
set_option maxRecDepth 100000 in
theorem ev_X10_note (F : Nat) (a0 : Nat) (h0 : shK a0 = 10 + 8) (p1 : Int) (p2 : Int) (p3 : Int) (w : aI) : Ev yX10_note cX10_note 4 (some .int) 7 1 jvT [.ref a0, .int (oI p1), .int (oI p2), .int (oI p3)] (cm w) (f_X10_note F a0 p1 p2 p3 w) := by
  refine Ev.of (own := RX10) (by decide +kernel) rfl (Nat.le_of_ble_eq_true rfl) (fun x hx => ?_)
  show En x jvT 1 0 0 [(0, .ref a0), (1, .int (oI p1)), (2, .int (oI p2)), (3, .int (oI p3))] [] (cm w) _
  unfold f_X10_note
  refine E_aload_n (pc := 0) hx 0 dX10_note_0 rfl rfl ?_
  refine E_iload_n (pc := 1) hx 1 dX10_note_1 rfl rfl ?_
  refine I_cVN (hcv := rfl) (pc := 2) hx [.int (oI p1)] [] (ev_X10_needTune F a0 h0 p1 w) vm_X10_needTune fc8 h0 g1100 dX10_note_2 rfl rfl (Nat.le_of_ble_eq_true rfl) (Nat.le_of_ble_eq_true rfl) (Nat.le_of_ble_eq_true rfl) ?_
  refine E_iload_n (pc := 5) hx 2 dX10_note_5 rfl rfl ?_
  refine E_gd (fun hr1 => ?_)
  refine I_if_lt (pc := 6) hx 25 dX10_note_6 rfl hr1 ?_ ?_
  · refine I_iconst (pc := 25) hx (-1) dX10_note_25 ?_
    exact E_iret (pc := 26) hx dX10_note_26 rfl rfl (Nat.le_of_ble_eq_true rfl)
  refine E_iload_n (pc := 9) hx 2 dX10_note_9 rfl rfl ?_
  refine E_aload_n (pc := 10) hx 0 dX10_note_10 rfl rfl ?_
  refine E_getR (pc := 11) hx 5 fc8 h0 rfl ⟨rfl, rfl, rfl⟩ g593 dX10_note_11 ?_
  refine E_getR (pc := 14) hx 6 fc2 (kt_8_5 h0) rfl ⟨rfl, rfl, rfl⟩ g232 dX10_note_14 ?_
  refine E_iload_n (pc := 17) hx 1 dX10_note_17 rfl rfl ?_
  refine I_iconst (pc := 18) hx 2 dX10_note_18 ?_
  refine I_cVI  (pc := 19) hx [.int (oI p1), .int (oI 2)] [.int (oI p2)] (ev_X7_get F (shR (shR a0 5) 6) (kt_2_6 (kt_8_5 h0)) p1 2 w) vm_X7_get fc6 (kt_2_6 (kt_8_5 h0)) g705 dX10_note_19 rfl rfl (Nat.le_of_ble_eq_true rfl) (Nat.le_of_ble_eq_true rfl) (Nat.le_of_ble_eq_true rfl) (fun r2 => ?_)
  refine E_gd (fun hr3 => ?_)
  refine I_icmp_lt (pc := 22) hx 27 dX10_note_22 rfl ⟨hr1, hr3⟩ ?_ ?_
  · refine E_aload_n (pc := 27) hx 0 dX10_note_27 rfl rfl ?_
    refine E_getR (pc := 28) hx 5 fc8 h0 rfl ⟨rfl, rfl, rfl⟩ g593 dX10_note_28 ?_
    refine E_getR (pc := 31) hx 6 fc2 (kt_8_5 h0) rfl ⟨rfl, rfl, rfl⟩ g232 dX10_note_31 ?_
    refine E_iload_n (pc := 34) hx 1 dX10_note_34 rfl rfl ?_
    refine E_iload_n (pc := 35) hx 3 dX10_note_35 rfl rfl ?_
    refine E_gd (fun hr4 => ?_)
    refine I_if_eq (pc := 36) hx 44 dX10_note_36 rfl hr4 ?_ ?_
    · refine I_bipush (pc := 44) hx 9 dX10_note_44 rfl ?_
      refine I_cVI  (pc := 46) hx [.int (oI p1), .int (oI 9)] [] (ev_X7_get F (shR (shR a0 5) 6) (kt_2_6 (kt_8_5 h0)) p1 9 w) vm_X7_get fc6 (kt_2_6 (kt_8_5 h0)) g705 dX10_note_46 rfl rfl (Nat.le_of_ble_eq_true rfl) (Nat.le_of_ble_eq_true rfl) (Nat.le_of_ble_eq_true rfl) (fun r5 => ?_)
      refine E_iload_n (pc := 49) hx 2 dX10_note_49 rfl rfl ?_
      refine I_cSI  (pc := 50) hx [.int (oI r5), .int (oI p2)] [] (ev_X10_noteOf F r5 p2 w) sm_X10_noteOf g1121 dX10_note_50 rfl rfl (Nat.le_of_ble_eq_true rfl) (Nat.le_of_ble_eq_true rfl) (Nat.le_of_ble_eq_true rfl) (fun r6 => ?_)
      exact E_iret (pc := 53) hx dX10_note_53 rfl rfl (Nat.le_of_ble_eq_true rfl)
    refine I_bipush (pc := 39) hx 10 dX10_note_39 rfl ?_
    refine E_goto (pc := 41) hx 46 dX10_note_41 rfl ?_
    refine I_cVI  (pc := 46) hx [.int (oI p1), .int (oI 10)] [] (ev_X7_get F (shR (shR a0 5) 6) (kt_2_6 (kt_8_5 h0)) p1 10 w) vm_X7_get fc6 (kt_2_6 (kt_8_5 h0)) g705 dX10_note_46 rfl rfl (Nat.le_of_ble_eq_true rfl) (Nat.le_of_ble_eq_true rfl) (Nat.le_of_ble_eq_true rfl) (fun r7 => ?_)
    refine E_iload_n (pc := 49) hx 2 dX10_note_49 rfl rfl ?_
    refine I_cSI  (pc := 50) hx [.int (oI r7), .int (oI p2)] [] (ev_X10_noteOf F r7 p2 w) sm_X10_noteOf g1121 dX10_note_50 rfl rfl (Nat.le_of_ble_eq_true rfl) (Nat.le_of_ble_eq_true rfl) (Nat.le_of_ble_eq_true rfl) (fun r8 => ?_)
    exact E_iret (pc := 53) hx dX10_note_53 rfl rfl (Nat.le_of_ble_eq_true rfl)
  refine I_iconst (pc := 25) hx (-1) dX10_note_25 ?_
  exact E_iret (pc := 26) hx dX10_note_26 rfl rfl (Nat.le_of_ble_eq_true rfl)
set_option maxHeartbeats 4000000 in
set_option maxRecDepth 100000 in
theorem ev_X10_waiting (F : Nat) (a0 : Nat) (h0 : shK a0 = 10 + 8) (p1 : Int) (p2 : Int) (w : aI) : Ev yX10_waiting cX10_waiting 3 (some .int) 7 1 jvT [.ref a0, .int (oI p1), .int (oI p2)] (cm w) (f_X10_waiting F a0 p1 p2 w) := by
  refine Ev.of (own := RX10) (by decide +kernel) rfl (Nat.le_of_ble_eq_true rfl) (fun x hx => ?_)
  show En x jvT 1 0 0 [(0, .ref a0), (1, .int (oI p1)), (2, .int (oI p2))] [] (cm w) _
  unfold f_X10_waiting
  refine E_aload_n (pc := 0) hx 0 dX10_waiting_0 rfl rfl ?_
  refine E_iload_n (pc := 1) hx 1 dX10_waiting_1 rfl rfl ?_
  refine I_cVN (hcv := rfl) (pc := 2) hx [.int (oI p1)] [] (ev_X10_needRoof F a0 h0 p1 w) vm_X10_needRoof fc8 h0 g1035 dX10_waiting_2 rfl rfl (Nat.le_of_ble_eq_true rfl) (Nat.le_of_ble_eq_true rfl) (Nat.le_of_ble_eq_true rfl) ?_
  refine E_aload_n (pc := 5) hx 0 dX10_waiting_5 rfl rfl ?_
  refine E_getR (pc := 6) hx 5 fc8 h0 rfl ⟨rfl, rfl, rfl⟩ g593 dX10_waiting_6 ?_
  refine E_iload_n (pc := 9) hx 1 dX10_waiting_9 rfl rfl ?_
  refine E_iload_n (pc := 10) hx 2 dX10_waiting_10 rfl rfl ?_
  refine I_cVI  (pc := 11) hx [.int (oI p1), .int (oI p2)] [] (ev_X2_waitingAt F (shR a0 5) (kt_8_5 h0) p1 p2 w) vm_X2_waitingAt fc2 (kt_8_5 h0) g1129 dX10_waiting_11 rfl rfl (Nat.le_of_ble_eq_true rfl) (Nat.le_of_ble_eq_true rfl) (Nat.le_of_ble_eq_true rfl) (fun r1 => ?_)
  exact E_iret (pc := 14) hx dX10_waiting_14 rfl rfl (Nat.le_of_ble_eq_true rfl)
set_option maxHeartbeats 4000000 in
set_option maxRecDepth 100000 in
theorem ev_X10_why (F : Nat) (a0 : Nat) (h0 : shK a0 = 10 + 8) (p1 : Int) (p2 : Int) (w : aI) : Ev yX10_why cX10_why 4 (some .int) 7 2 jvT [.ref a0, .int (oI p1), .int (oI p2)] (cm w) (f_X10_why F a0 p1 p2 w) := by
  refine Ev.of (own := RX10) (by decide +kernel) rfl (Nat.le_of_ble_eq_true rfl) (fun x hx => ?_)
  show En x jvT 2 0 0 [(0, .ref a0), (1, .int (oI p1)), (2, .int (oI p2))] [] (cm w) _
  unfold f_X10_why
  refine E_aload_n (pc := 0) hx 0 dX10_why_0 rfl rfl ?_
  refine E_iload_n (pc := 1) hx 1 dX10_why_1 rfl rfl ?_
  refine I_cVN (hcv := rfl) (pc := 2) hx [.int (oI p1)] [] (ev_X10_needTune F a0 h0 p1 w) vm_X10_needTune fc8 h0 g1100 dX10_why_2 rfl rfl (Nat.le_of_ble_eq_true rfl) (Nat.le_of_ble_eq_true rfl) (Nat.le_of_ble_eq_true rfl) ?_
  refine E_aload_n (pc := 5) hx 0 dX10_why_5 rfl rfl ?_
  refine E_iload_n (pc := 6) hx 2 dX10_why_6 rfl rfl ?_
  refine I_iconst (pc := 7) hx 0 dX10_why_7 ?_
  refine I_iconst (pc := 8) hx 1 dX10_why_8 ?_
  refine I_cVN (hcv := rfl) (pc := 9) hx [.int (oI p2), .int (oI 0), .int (oI 1)] [] (ev_X10_needNumber F a0 h0 p2 0 1 w) vm_X10_needNumber fc8 h0 g932 dX10_why_9 rfl rfl (Nat.le_of_ble_eq_true rfl) (Nat.le_of_ble_eq_true rfl) (Nat.le_of_ble_eq_true rfl) ?_
  refine E_aload_n (pc := 12) hx 0 dX10_why_12 rfl rfl ?_
  refine E_getR (pc := 13) hx 5 fc8 h0 rfl ⟨rfl, rfl, rfl⟩ g593 dX10_why_13 ?_
  refine E_iload_n (pc := 16) hx 1 dX10_why_16 rfl rfl ?_
  refine I_cSI  (pc := 17) hx [.ref (shR a0 5), .int (oI p1)] [] (ev_X6_causeOf F (shR a0 5) (kt_8_5 h0) p1 w) sm_X6_causeOf g1140 dX10_why_17 rfl rfl (Nat.le_of_ble_eq_true rfl) (Nat.le_of_ble_eq_true rfl) (Nat.le_of_ble_eq_true rfl) (fun r1 => ?_)
  refine E_istore_n (pc := 20) hx dX10_why_20 rfl (Nat.le_of_ble_eq_true rfl) rfl ?_
  refine E_iload_n (pc := 21) hx 3 dX10_why_21 rfl rfl ?_
  refine I_iconst (pc := 22) hx 1 dX10_why_22 ?_
  refine E_gd (fun hr2 => ?_)
  refine I_icmp_ne (pc := 23) hx 30 dX10_why_23 rfl ⟨hr2, (by decide)⟩ ?_ ?_
  · refine E_iload_n (pc := 30) hx 0 dX10_why_30 rfl rfl ?_
    refine I_bipush (pc := 31) hx 100 dX10_why_31 rfl ?_
    refine E_gd (fun hr3 => ?_)
    refine I_idiv (pc := 33) hx dX10_why_33 ⟨hr3, (by decide), (by decide)⟩ ?_
    exact E_iret (pc := 34) hx dX10_why_34 rfl rfl (Nat.le_of_ble_eq_true rfl)
  refine E_iload_n (pc := 26) hx 0 dX10_why_26 rfl rfl ?_
  refine E_goto (pc := 27) hx 34 dX10_why_27 rfl ?_
  exact E_iret (pc := 34) hx dX10_why_34 rfl rfl (Nat.le_of_ble_eq_true rfl)
set_option maxHeartbeats 4000000 in
set_option maxRecDepth 100000 in
theorem ev_X10_costOf (F : Nat) (a0 : Nat) (h0 : shK a0 = 10 + 8) (p1 : Int) (p2 : Int) (p3 : Int) (w : aI) : Ev yX10_costOf cX10_costOf 4 (some .int) 7 3 jvT [.ref a0, .int (oI p1), .int (oI p2), .int (oI p3)] (cm w) (f_X10_costOf F a0 p1 p2 p3 w) := by
  refine Ev.of (own := RX10) (by decide +kernel) rfl (Nat.le_of_ble_eq_true rfl) (fun x hx => ?_)
  show En x jvT 3 0 0 [(0, .ref a0), (1, .int (oI p1)), (2, .int (oI p2)), (3, .int (oI p3))] [] (cm w) _
  unfold f_X10_costOf
  refine E_aload_n (pc := 0) hx 0 dX10_costOf_0 rfl rfl ?_
  refine E_iload_n (pc := 1) hx 1 dX10_costOf_1 rfl rfl ?_
  refine I_cVN (hcv := rfl) (pc := 2) hx [.int (oI p1)] [] (ev_X10_needRoof F a0 h0 p1 w) vm_X10_needRoof fc8 h0 g1035 dX10_costOf_2 rfl rfl (Nat.le_of_ble_eq_true rfl) (Nat.le_of_ble_eq_true rfl) (Nat.le_of_ble_eq_true rfl) ?_
  refine E_aload_n (pc := 5) hx 0 dX10_costOf_5 rfl rfl ?_
  refine E_iload_n (pc := 6) hx 2 dX10_costOf_6 rfl rfl ?_
  refine I_cVN (hcv := rfl) (pc := 7) hx [.int (oI p2)] [] (ev_X10_needRoof F a0 h0 p2 w) vm_X10_needRoof fc8 h0 g1035 dX10_costOf_7 rfl rfl (Nat.le_of_ble_eq_true rfl) (Nat.le_of_ble_eq_true rfl) (Nat.le_of_ble_eq_true rfl) ?_
  refine E_aload_n (pc := 10) hx 0 dX10_costOf_10 rfl rfl ?_
  refine E_iload_n (pc := 11) hx 3 dX10_costOf_11 rfl rfl ?_
  refine I_iconst (pc := 12) hx 1 dX10_costOf_12 ?_
  refine I_bipush (pc := 13) hx 8 dX10_costOf_13 rfl ?_
  refine I_cVN (hcv := rfl) (pc := 15) hx [.int (oI p3), .int (oI 1), .int (oI 8)] [] (ev_X10_needNumber F a0 h0 p3 1 8 w) vm_X10_needNumber fc8 h0 g932 dX10_costOf_15 rfl rfl (Nat.le_of_ble_eq_true rfl) (Nat.le_of_ble_eq_true rfl) (Nat.le_of_ble_eq_true rfl) ?_
  refine E_aload_n (pc := 18) hx 0 dX10_costOf_18 rfl rfl ?_
  refine E_getR (pc := 19) hx 5 fc8 h0 rfl ⟨rfl, rfl, rfl⟩ g593 dX10_costOf_19 ?_
  refine E_iload_n (pc := 22) hx 1 dX10_costOf_22 rfl rfl ?_
  refine E_iload_n (pc := 23) hx 2 dX10_costOf_23 rfl rfl ?_
  refine E_iload_n (pc := 24) hx 3 dX10_costOf_24 rfl rfl ?_
  refine I_cSI  (pc := 25) hx [.ref (shR a0 5), .int (oI p1), .int (oI p2), .int (oI p3)] [] (ev_X6_feesOn F (shR a0 5) (kt_8_5 h0) p1 p2 p3 w) sm_X6_feesOn g1155 dX10_costOf_25 rfl rfl (Nat.le_of_ble_eq_true rfl) (Nat.le_of_ble_eq_true rfl) (Nat.le_of_ble_eq_true rfl) (fun r1 => ?_)
  exact E_iret (pc := 28) hx dX10_costOf_28 rfl rfl (Nat.le_of_ble_eq_true rfl)
set_option maxHeartbeats 4000000 in
set_option maxRecDepth 100000 in
theorem ev_X10_wrongOn (F : Nat) (a0 : Nat) (h0 : shK a0 = 10 + 8) (p1 : Int) (p2 : Int) (p3 : Int) (w : aI) : Ev yX10_wrongOn cX10_wrongOn 4 (some .int) 7 3 jvT [.ref a0, .int (oI p1), .int (oI p2), .int (oI p3)] (cm w) (f_X10_wrongOn F a0 p1 p2 p3 w) := by
  refine Ev.of (own := RX10) (by decide +kernel) rfl (Nat.le_of_ble_eq_true rfl) (fun x hx => ?_)
  show En x jvT 3 0 0 [(0, .ref a0), (1, .int (oI p1)), (2, .int (oI p2)), (3, .int (oI p3))] [] (cm w) _
  unfold f_X10_wrongOn
  refine E_aload_n (pc := 0) hx 0 dX10_wrongOn_0 rfl rfl ?_
  refine E_iload_n (pc := 1) hx 1 dX10_wrongOn_1 rfl rfl ?_
  refine I_cVN (hcv := rfl) (pc := 2) hx [.int (oI p1)] [] (ev_X10_needRoof F a0 h0 p1 w) vm_X10_needRoof fc8 h0 g1035 dX10_wrongOn_2 rfl rfl (Nat.le_of_ble_eq_true rfl) (Nat.le_of_ble_eq_true rfl) (Nat.le_of_ble_eq_true rfl) ?_
  refine E_aload_n (pc := 5) hx 0 dX10_wrongOn_5 rfl rfl ?_
  refine E_iload_n (pc := 6) hx 2 dX10_wrongOn_6 rfl rfl ?_
  refine I_cVN (hcv := rfl) (pc := 7) hx [.int (oI p2)] [] (ev_X10_needRoof F a0 h0 p2 w) vm_X10_needRoof fc8 h0 g1035 dX10_wrongOn_7 rfl rfl (Nat.le_of_ble_eq_true rfl) (Nat.le_of_ble_eq_true rfl) (Nat.le_of_ble_eq_true rfl) ?_
  refine E_aload_n (pc := 10) hx 0 dX10_wrongOn_10 rfl rfl ?_
  refine E_iload_n (pc := 11) hx 3 dX10_wrongOn_11 rfl rfl ?_
  refine I_iconst (pc := 12) hx 1 dX10_wrongOn_12 ?_
  refine I_bipush (pc := 13) hx 8 dX10_wrongOn_13 rfl ?_
  refine I_cVN (hcv := rfl) (pc := 15) hx [.int (oI p3), .int (oI 1), .int (oI 8)] [] (ev_X10_needNumber F a0 h0 p3 1 8 w) vm_X10_needNumber fc8 h0 g932 dX10_wrongOn_15 rfl rfl (Nat.le_of_ble_eq_true rfl) (Nat.le_of_ble_eq_true rfl) (Nat.le_of_ble_eq_true rfl) ?_
  refine E_aload_n (pc := 18) hx 0 dX10_wrongOn_18 rfl rfl ?_
  refine E_getR (pc := 19) hx 5 fc8 h0 rfl ⟨rfl, rfl, rfl⟩ g593 dX10_wrongOn_19 ?_
  refine E_iload_n (pc := 22) hx 1 dX10_wrongOn_22 rfl rfl ?_
  refine E_iload_n (pc := 23) hx 2 dX10_wrongOn_23 rfl rfl ?_
  refine E_iload_n (pc := 24) hx 3 dX10_wrongOn_24 rfl rfl ?_
  refine E_aload_n (pc := 25) hx 0 dX10_wrongOn_25 rfl rfl ?_
  refine E_getR (pc := 26) hx 5 fc8 h0 rfl ⟨rfl, rfl, rfl⟩ g593 dX10_wrongOn_26 ?_
  refine I_bipush (pc := 29) hx 8 dX10_wrongOn_29 rfl ?_
  refine I_cVI  (pc := 31) hx [.int (oI 8)] [.int (oI p3), .int (oI p2), .int (oI p1), .ref (shR a0 5)] (ev_X2_setting F (shR a0 5) (kt_8_5 h0) 8 w) vm_X2_setting fc2 (kt_8_5 h0) g1166 dX10_wrongOn_31 rfl rfl (Nat.le_of_ble_eq_true rfl) (Nat.le_of_ble_eq_true rfl) (Nat.le_of_ble_eq_true rfl) (fun r1 => ?_)
  refine I_cSI  (pc := 34) hx [.ref (shR a0 5), .int (oI p1), .int (oI p2), .int (oI p3), .int (oI r1)] [] (ev_X6_wrongNotesOn F (shR a0 5) (kt_8_5 h0) p1 p2 p3 r1 w) sm_X6_wrongNotesOn g1167 dX10_wrongOn_34 rfl rfl (Nat.le_of_ble_eq_true rfl) (Nat.le_of_ble_eq_true rfl) (Nat.le_of_ble_eq_true rfl) (fun r2 => ?_)
  exact E_iret (pc := 37) hx dX10_wrongOn_37 rfl rfl (Nat.le_of_ble_eq_true rfl)
set_option maxHeartbeats 4000000 in
set_option maxRecDepth 100000 in
theorem l_X10_calmest_b13_b {x : Cx} (F : Nat) (a0 : Nat) (h0 : shK a0 = 10 + 8) (p1 : Int) (p2 : Int) (w : aI) (hx : CxOK x RX10 cX10_calmest 4 7 2 (some .int))  (k13 : Int → Option ((Int ⊕ String) × aI)) (hk13 : ∀ (v3 : Int), En x jvT 2 2 13 [(0, .ref a0), (1, .int (oI p1)), (2, .int (oI p2)), (3, .int (oI v3))] [] (cm w) (k13 v3)) (v3 : Int)  : En x jvT 2 2 13 [(0, .ref a0), (1, .int (oI p1)), (2, .int (oI p2)), (3, .int (oI v3))] [] (cm w) (f_X10_calmest_b13_b F a0 p1 p2 w  k13 v3) := by
  unfold f_X10_calmest_b13_b
  refine E_iload_n (pc := 13) hx 3 dX10_calmest_13 rfl rfl ?_
  refine E_gd (fun hr1 => ?_)
  refine I_if_lt (pc := 14) hx 40 dX10_calmest_14 rfl hr1 ?_ ?_
  · refine I_iconst (pc := 40) hx (-1) dX10_calmest_40 ?_
    exact E_iret (pc := 41) hx dX10_calmest_41 rfl rfl (Nat.le_of_ble_eq_true rfl)
  refine E_aload_n (pc := 17) hx 0 dX10_calmest_17 rfl rfl ?_
  refine E_getR (pc := 18) hx 5 fc8 h0 rfl ⟨rfl, rfl, rfl⟩ g593 dX10_calmest_18 ?_
  refine E_iload_n (pc := 21) hx 1 dX10_calmest_21 rfl rfl ?_
  refine E_iload_n (pc := 22) hx 2 dX10_calmest_22 rfl rfl ?_
  refine I_bipush (pc := 23) hx 8 dX10_calmest_23 rfl ?_
  refine E_iload_n (pc := 25) hx 3 dX10_calmest_25 rfl rfl ?_
  refine I_cSI  (pc := 26) hx [.ref (shR a0 5), .int (oI p1), .int (oI p2), .int (oI 8), .int (oI v3)] [] (ev_X6_wrongNotesOn F (shR a0 5) (kt_8_5 h0) p1 p2 8 v3 w) sm_X6_wrongNotesOn g1167 dX10_calmest_26 rfl rfl (Nat.le_of_ble_eq_true rfl) (Nat.le_of_ble_eq_true rfl) (Nat.le_of_ble_eq_true rfl) (fun r2 => ?_)
  refine E_gd (fun hr3 => ?_)
  refine I_if_ne (pc := 29) hx 34 dX10_calmest_29 rfl hr3 ?_ ?_
  · refine I_iinc (pc := 34) hx (-1) 3 dX10_calmest_34 rfl (Nat.le_of_ble_eq_true rfl) rfl ?_
    refine E_goto (pc := 37) hx 13 dX10_calmest_37 rfl ?_
    refine En.sub [1, 2, 3, 0] rfl ?_
    exact hk13 (v3 + (-1))
  refine E_iload_n (pc := 32) hx 3 dX10_calmest_32 rfl rfl ?_
  exact E_iret (pc := 33) hx dX10_calmest_33 rfl rfl (Nat.le_of_ble_eq_true rfl)
theorem l_X10_calmest_b13 {x : Cx} (F : Nat) (a0 : Nat) (h0 : shK a0 = 10 + 8) (p1 : Int) (p2 : Int) (w : aI) (hx : CxOK x RX10 cX10_calmest 4 7 2 (some .int))  : ∀ (n : Nat) (v3 : Int), En x jvT 2 2 13 [(0, .ref a0), (1, .int (oI p1)), (2, .int (oI p2)), (3, .int (oI v3))] [] (cm w) (f_X10_calmest_b13 F a0 p1 p2 w  n v3) := by
  intro n
  induction n with
  | zero => intro v3; exact E_none
  | succ n ih => intro v3; exact l_X10_calmest_b13_b F a0 h0 p1 p2 w hx  _ ih v3
set_option maxHeartbeats 4000000 in
set_option maxRecDepth 100000 in
theorem ev_X10_calmest (F : Nat) (a0 : Nat) (h0 : shK a0 = 10 + 8) (p1 : Int) (p2 : Int) (w : aI) : Ev yX10_calmest cX10_calmest 4 (some .int) 7 2 jvT [.ref a0, .int (oI p1), .int (oI p2)] (cm w) (f_X10_calmest F a0 p1 p2 w) := by
  refine Ev.of (own := RX10) (by decide +kernel) rfl (Nat.le_of_ble_eq_true rfl) (fun x hx => ?_)
  show En x jvT 2 0 0 [(0, .ref a0), (1, .int (oI p1)), (2, .int (oI p2))] [] (cm w) _
  unfold f_X10_calmest
  refine E_aload_n (pc := 0) hx 0 dX10_calmest_0 rfl rfl ?_
  refine E_iload_n (pc := 1) hx 1 dX10_calmest_1 rfl rfl ?_
  refine I_cVN (hcv := rfl) (pc := 2) hx [.int (oI p1)] [] (ev_X10_needRoof F a0 h0 p1 w) vm_X10_needRoof fc8 h0 g1035 dX10_calmest_2 rfl rfl (Nat.le_of_ble_eq_true rfl) (Nat.le_of_ble_eq_true rfl) (Nat.le_of_ble_eq_true rfl) ?_
  refine E_aload_n (pc := 5) hx 0 dX10_calmest_5 rfl rfl ?_
  refine E_iload_n (pc := 6) hx 2 dX10_calmest_6 rfl rfl ?_
  refine I_cVN (hcv := rfl) (pc := 7) hx [.int (oI p2)] [] (ev_X10_needRoof F a0 h0 p2 w) vm_X10_needRoof fc8 h0 g1035 dX10_calmest_7 rfl rfl (Nat.le_of_ble_eq_true rfl) (Nat.le_of_ble_eq_true rfl) (Nat.le_of_ble_eq_true rfl) ?_
  refine I_bipush (pc := 10) hx 9 dX10_calmest_10 rfl ?_
  refine E_istore_n (pc := 12) hx dX10_calmest_12 rfl (Nat.le_of_ble_eq_true rfl) rfl ?_
  refine En.sub [1, 2, 3, 0] rfl ?_
  exact l_X10_calmest_b13 F a0 h0 p1 p2 w hx F 9
set_option maxHeartbeats 4000000 in
set_option maxRecDepth 100000 in
theorem l_X10_arrivesIn_b18_b {x : Cx} (F : Nat) (a0 : Nat) (h0 : shK a0 = 10 + 8) (p1 : Int)  (hx : CxOK x RX10 cX10_arrivesIn 4 7 1 (some .int))  (k18 : Int → aI → Option ((Int ⊕ String) × aI)) (hk18 : ∀ (v2 : Int) (w : aI), En x jvT 1 1 18 [(0, .ref a0), (1, .int (oI p1)), (2, .int (oI v2))] [] (cm w) (k18 v2 w)) (v2 : Int) (w : aI) : En x jvT 1 1 18 [(0, .ref a0), (1, .int (oI p1)), (2, .int (oI v2))] [] (cm w) (f_X10_arrivesIn_b18_b F a0 p1   k18 v2 w) := by
  unfold f_X10_arrivesIn_b18_b
  refine E_iload_n (pc := 18) hx 2 dX10_arrivesIn_18 rfl rfl ?_
  refine I_sipush (pc := 19) hx 200 dX10_arrivesIn_19 rfl ?_
  refine E_gd (fun hr2 => ?_)
  refine I_icmp_gt (pc := 22) hx 66 dX10_arrivesIn_22 rfl ⟨hr2, (by decide)⟩ ?_ ?_
  · refine I_iconst (pc := 66) hx (-1) dX10_arrivesIn_66 ?_
    exact E_iret (pc := 67) hx dX10_arrivesIn_67 rfl rfl (Nat.le_of_ble_eq_true rfl)
  refine E_aload_n (pc := 25) hx 0 dX10_arrivesIn_25 rfl rfl ?_
  refine E_getR (pc := 26) hx 7 fc8 h0 rfl ⟨rfl, rfl, rfl⟩ g595 dX10_arrivesIn_26 ?_
  refine E_getR (pc := 29) hx 6 fc2 (kt_8_7 h0) rfl ⟨rfl, rfl, rfl⟩ g232 dX10_arrivesIn_29 ?_
  refine E_iload_n (pc := 32) hx 1 dX10_arrivesIn_32 rfl rfl ?_
  refine I_iconst (pc := 33) hx 3 dX10_arrivesIn_33 ?_
  refine I_cVI  (pc := 34) hx [.int (oI p1), .int (oI 3)] [] (ev_X7_get F (shR (shR a0 7) 6) (kt_2_6 (kt_8_7 h0)) p1 3 w) vm_X7_get fc6 (kt_2_6 (kt_8_7 h0)) g705 dX10_arrivesIn_34 rfl rfl (Nat.le_of_ble_eq_true rfl) (Nat.le_of_ble_eq_true rfl) (Nat.le_of_ble_eq_true rfl) (fun r3 => ?_)
  refine E_istore_n (pc := 37) hx dX10_arrivesIn_37 rfl (Nat.le_of_ble_eq_true rfl) rfl ?_
  refine E_iload_n (pc := 38) hx 0 dX10_arrivesIn_38 rfl rfl ?_
  refine I_iconst (pc := 39) hx 2 dX10_arrivesIn_39 ?_
  refine E_gd (fun hr4 => ?_)
  refine I_icmp_ne (pc := 40) hx 45 dX10_arrivesIn_40 rfl ⟨hr4, (by decide)⟩ ?_ ?_
  · refine E_iload_n (pc := 45) hx 0 dX10_arrivesIn_45 rfl rfl ?_
    refine I_iconst (pc := 46) hx 3 dX10_arrivesIn_46 ?_
    refine I_icmp_ne (pc := 47) hx 52 dX10_arrivesIn_47 rfl ⟨hr4, (by decide)⟩ ?_ ?_
    · refine E_aload_n (pc := 52) hx 1 dX10_arrivesIn_52 rfl rfl ?_
      refine E_getR (pc := 53) hx 7 fc8 h0 rfl ⟨rfl, rfl, rfl⟩ g595 dX10_arrivesIn_53 ?_
      refine I_iconst (pc := 56) hx 1 dX10_arrivesIn_56 ?_
      refine I_cSV  (pc := 57) hx [.ref (shR a0 7), .int (oI 1)] [] (ev_X8_run F (shR a0 7) (kt_8_7 h0) 1 w) sm_X8_run g726 dX10_arrivesIn_57 rfl rfl (Nat.le_of_ble_eq_true rfl) (Nat.le_of_ble_eq_true rfl) (Nat.le_of_ble_eq_true rfl) (fun w5 => ?_)
      refine I_iinc (pc := 60) hx 1 3 dX10_arrivesIn_60 rfl (Nat.le_of_ble_eq_true rfl) rfl ?_
      refine E_goto (pc := 63) hx 18 dX10_arrivesIn_63 rfl ?_
      refine En.sub [2, 3, 0] rfl ?_
      exact hk18 (v2 + 1) w5
    refine I_iconst (pc := 50) hx (-1) dX10_arrivesIn_50 ?_
    exact E_iret (pc := 51) hx dX10_arrivesIn_51 rfl rfl (Nat.le_of_ble_eq_true rfl)
  refine E_iload_n (pc := 43) hx 3 dX10_arrivesIn_43 rfl rfl ?_
  exact E_iret (pc := 44) hx dX10_arrivesIn_44 rfl rfl (Nat.le_of_ble_eq_true rfl)
theorem l_X10_arrivesIn_b18 {x : Cx} (F : Nat) (a0 : Nat) (h0 : shK a0 = 10 + 8) (p1 : Int)  (hx : CxOK x RX10 cX10_arrivesIn 4 7 1 (some .int))  : ∀ (n : Nat) (v2 : Int) (w : aI), En x jvT 1 1 18 [(0, .ref a0), (1, .int (oI p1)), (2, .int (oI v2))] [] (cm w) (f_X10_arrivesIn_b18 F a0 p1   n v2 w) := by
  intro n
  induction n with
  | zero => intro v2 w; exact E_none
  | succ n ih => intro v2 w; exact l_X10_arrivesIn_b18_b F a0 h0 p1  hx  _ ih v2 w
set_option maxHeartbeats 4000000 in
set_option maxRecDepth 100000 in
theorem ev_X10_arrivesIn (F : Nat) (a0 : Nat) (h0 : shK a0 = 10 + 8) (p1 : Int) (w : aI) : Ev yX10_arrivesIn cX10_arrivesIn 4 (some .int) 7 1 jvT [.ref a0, .int (oI p1)] (cm w) (f_X10_arrivesIn F a0 p1 w) := by
  refine Ev.of (own := RX10) (by decide +kernel) rfl (Nat.le_of_ble_eq_true rfl) (fun x hx => ?_)
  show En x jvT 1 0 0 [(0, .ref a0), (1, .int (oI p1))] [] (cm w) _
  unfold f_X10_arrivesIn
  refine E_aload_n (pc := 0) hx 0 dX10_arrivesIn_0 rfl rfl ?_
  refine E_iload_n (pc := 1) hx 1 dX10_arrivesIn_1 rfl rfl ?_
  refine I_cVN (hcv := rfl) (pc := 2) hx [.int (oI p1)] [] (ev_X10_needTune F a0 h0 p1 w) vm_X10_needTune fc8 h0 g1100 dX10_arrivesIn_2 rfl rfl (Nat.le_of_ble_eq_true rfl) (Nat.le_of_ble_eq_true rfl) (Nat.le_of_ble_eq_true rfl) ?_
  refine E_aload_n (pc := 5) hx 0 dX10_arrivesIn_5 rfl rfl ?_
  refine E_getR (pc := 6) hx 7 fc8 h0 rfl ⟨rfl, rfl, rfl⟩ g595 dX10_arrivesIn_6 ?_
  refine E_aload_n (pc := 9) hx 0 dX10_arrivesIn_9 rfl rfl ?_
  refine E_getR (pc := 10) hx 5 fc8 h0 rfl ⟨rfl, rfl, rfl⟩ g593 dX10_arrivesIn_10 ?_
  refine I_cVV  (pc := 13) hx [.ref (shR a0 5)] [] (ev_X2_copyFrom F (shR a0 7) (kt_8_7 h0) (shR a0 5) (kt_8_5 h0) w) vm_X2_copyFrom fc2 (kt_8_7 h0) g565 dX10_arrivesIn_13 rfl rfl (Nat.le_of_ble_eq_true rfl) (Nat.le_of_ble_eq_true rfl) (Nat.le_of_ble_eq_true rfl) (fun w1 => ?_)
  refine I_iconst (pc := 16) hx 0 dX10_arrivesIn_16 ?_
  refine E_istore_n (pc := 17) hx dX10_arrivesIn_17 rfl (Nat.le_of_ble_eq_true rfl) rfl ?_
  refine En.sub [1, 2, 0] rfl ?_
  exact l_X10_arrivesIn_b18 F a0 h0 p1 hx F 0 w1
set_option maxHeartbeats 4000000 in
set_option maxRecDepth 100000 in
theorem ev_X10_growsBy (F : Nat) (a0 : Nat) (h0 : shK a0 = 10 + 8) (p1 : Int) (p2 : Int) (w : aI) : Ev yX10_growsBy cX10_growsBy 3 (some .int) 7 2 jvT [.ref a0, .int (oI p1), .int (oI p2)] (cm w) (f_X10_growsBy F a0 p1 p2 w) := by
  refine Ev.of (own := RX10) (by decide +kernel) rfl (Nat.le_of_ble_eq_true rfl) (fun x hx => ?_)
  show En x jvT 2 0 0 [(0, .ref a0), (1, .int (oI p1)), (2, .int (oI p2))] [] (cm w) _
  unfold f_X10_growsBy
  refine E_aload_n (pc := 0) hx 0 dX10_growsBy_0 rfl rfl ?_
  refine E_iload_n (pc := 1) hx 1 dX10_growsBy_1 rfl rfl ?_
  refine I_iconst (pc := 2) hx 0 dX10_growsBy_2 ?_
  refine I_bipush (pc := 3) hx 10 dX10_growsBy_3 rfl ?_
  refine I_cVN (hcv := rfl) (pc := 5) hx [.int (oI p1), .int (oI 0), .int (oI 10)] [] (ev_X10_needNumber F a0 h0 p1 0 10 w) vm_X10_needNumber fc8 h0 g932 dX10_growsBy_5 rfl rfl (Nat.le_of_ble_eq_true rfl) (Nat.le_of_ble_eq_true rfl) (Nat.le_of_ble_eq_true rfl) ?_
  refine E_aload_n (pc := 8) hx 0 dX10_growsBy_8 rfl rfl ?_
  refine E_iload_n (pc := 9) hx 2 dX10_growsBy_9 rfl rfl ?_
  refine I_iconst (pc := 10) hx 0 dX10_growsBy_10 ?_
  refine I_sipush (pc := 11) hx 200 dX10_growsBy_11 rfl ?_
  refine I_cVN (hcv := rfl) (pc := 14) hx [.int (oI p2), .int (oI 0), .int (oI 200)] [] (ev_X10_needNumber F a0 h0 p2 0 200 w) vm_X10_needNumber fc8 h0 g932 dX10_growsBy_14 rfl rfl (Nat.le_of_ble_eq_true rfl) (Nat.le_of_ble_eq_true rfl) (Nat.le_of_ble_eq_true rfl) ?_
  refine E_aload_n (pc := 17) hx 0 dX10_growsBy_17 rfl rfl ?_
  refine E_getR (pc := 18) hx 7 fc8 h0 rfl ⟨rfl, rfl, rfl⟩ g595 dX10_growsBy_18 ?_
  refine E_aload_n (pc := 21) hx 0 dX10_growsBy_21 rfl rfl ?_
  refine E_getR (pc := 22) hx 5 fc8 h0 rfl ⟨rfl, rfl, rfl⟩ g593 dX10_growsBy_22 ?_
  refine I_cVV  (pc := 25) hx [.ref (shR a0 5)] [] (ev_X2_copyFrom F (shR a0 7) (kt_8_7 h0) (shR a0 5) (kt_8_5 h0) w) vm_X2_copyFrom fc2 (kt_8_7 h0) g565 dX10_growsBy_25 rfl rfl (Nat.le_of_ble_eq_true rfl) (Nat.le_of_ble_eq_true rfl) (Nat.le_of_ble_eq_true rfl) (fun w1 => ?_)
  refine E_aload_n (pc := 28) hx 0 dX10_growsBy_28 rfl rfl ?_
  refine E_getR (pc := 29) hx 7 fc8 h0 rfl ⟨rfl, rfl, rfl⟩ g595 dX10_growsBy_29 ?_
  refine E_iload_n (pc := 32) hx 2 dX10_growsBy_32 rfl rfl ?_
  refine I_cSV  (pc := 33) hx [.ref (shR a0 7), .int (oI p2)] [] (ev_X8_run F (shR a0 7) (kt_8_7 h0) p2 w1) sm_X8_run g726 dX10_growsBy_33 rfl rfl (Nat.le_of_ble_eq_true rfl) (Nat.le_of_ble_eq_true rfl) (Nat.le_of_ble_eq_true rfl) (fun w2 => ?_)
  refine E_aload_n (pc := 36) hx 0 dX10_growsBy_36 rfl rfl ?_
  refine E_getR (pc := 37) hx 7 fc8 h0 rfl ⟨rfl, rfl, rfl⟩ g595 dX10_growsBy_37 ?_
  refine E_getR (pc := 40) hx 8 fc2 (kt_8_7 h0) rfl ⟨rfl, rfl, rfl⟩ g236 dX10_growsBy_40 ?_
  refine I_iconst (pc := 43) hx 0 dX10_growsBy_43 ?_
  refine E_iload_n (pc := 44) hx 1 dX10_growsBy_44 rfl rfl ?_
  refine I_cVI  (pc := 45) hx [.int (oI 0), .int (oI p1)] [] (ev_X7_get F (shR (shR a0 7) 8) (kt_2_8 (kt_8_7 h0)) 0 p1 w2) vm_X7_get fc6 (kt_2_8 (kt_8_7 h0)) g705 dX10_growsBy_45 rfl rfl (Nat.le_of_ble_eq_true rfl) (Nat.le_of_ble_eq_true rfl) (Nat.le_of_ble_eq_true rfl) (fun r3 => ?_)
  refine E_aload_n (pc := 48) hx 0 dX10_growsBy_48 rfl rfl ?_
  refine E_getR (pc := 49) hx 5 fc8 h0 rfl ⟨rfl, rfl, rfl⟩ g593 dX10_growsBy_49 ?_
  refine E_getR (pc := 52) hx 8 fc2 (kt_8_5 h0) rfl ⟨rfl, rfl, rfl⟩ g236 dX10_growsBy_52 ?_
  refine I_iconst (pc := 55) hx 0 dX10_growsBy_55 ?_
  refine E_iload_n (pc := 56) hx 1 dX10_growsBy_56 rfl rfl ?_
  refine I_cVI  (pc := 57) hx [.int (oI 0), .int (oI p1)] [.int (oI r3)] (ev_X7_get F (shR (shR a0 5) 8) (kt_2_8 (kt_8_5 h0)) 0 p1 w2) vm_X7_get fc6 (kt_2_8 (kt_8_5 h0)) g705 dX10_growsBy_57 rfl rfl (Nat.le_of_ble_eq_true rfl) (Nat.le_of_ble_eq_true rfl) (Nat.le_of_ble_eq_true rfl) (fun r4 => ?_)
  refine I_isub (pc := 60) hx dX10_growsBy_60 ?_
  exact E_iret (pc := 61) hx dX10_growsBy_61 rfl rfl (Nat.le_of_ble_eq_true rfl)
set_option maxHeartbeats 4000000 in
set_option maxRecDepth 100000 in
theorem ev_X10_dearestWay (F : Nat) (a0 : Nat) (h0 : shK a0 = 10 + 8) (w : aI) : Ev yX10_dearestWay cX10_dearestWay 1 (some .int) 4 0 (jvI w) [.ref a0] (cm w) (f_X10_dearestWay F a0 w) := by
  refine Ev.of (own := RX10) (by decide +kernel) rfl (Nat.le_of_ble_eq_true rfl) (fun x hx => ?_)
  show En x (jvI w) 0 0 0 [(0, .ref a0)] [] (cm w) _
  unfold f_X10_dearestWay
  refine E_aload_n (pc := 0) hx 0 dX10_dearestWay_0 rfl rfl ?_
  refine E_getR (pc := 1) hx 5 fc8 h0 rfl ⟨rfl, rfl, rfl⟩ g593 dX10_dearestWay_1 ?_
  refine I_cSI  (pc := 4) hx [.ref (shR a0 5)] [] (ev_X6_mostNeededWay F (shR a0 5) (kt_8_5 h0) w) sm_X6_mostNeededWay g842 dX10_dearestWay_4 rfl rfl (Nat.le_of_ble_eq_true rfl) (Nat.le_of_ble_eq_true rfl) (Nat.le_of_ble_eq_true rfl) (fun r1 => ?_)
  exact E_iret (pc := 7) hx dX10_dearestWay_7 rfl rfl (Nat.le_of_ble_eq_true rfl)
set_option maxHeartbeats 4000000 in
set_option maxRecDepth 100000 in
theorem ev_X10_agree (F : Nat) (a0 : Nat) (h0 : shK a0 = 10 + 8) (w : aI) : Ev yX10_agree cX10_agree 1 (some .boolean) 3 0 jvBW [.ref a0] (cm w) (f_X10_agree F a0 w) := by
  refine Ev.of (own := RX10) (by decide +kernel) rfl (Nat.le_of_ble_eq_true rfl) (fun x hx => ?_)
  show En x jvBW 0 0 0 [(0, .ref a0)] [] (cm w) _
  unfold f_X10_agree
  refine E_aload_n (pc := 0) hx 0 dX10_agree_0 rfl rfl ?_
  refine E_getR (pc := 1) hx 7 fc8 h0 rfl ⟨rfl, rfl, rfl⟩ g595 dX10_agree_1 ?_
  refine E_getR (pc := 4) hx 9 fc2 (kt_8_7 h0) rfl ⟨rfl, rfl, rfl⟩ g241 dX10_agree_4 ?_
  refine E_aload_n (pc := 7) hx 0 dX10_agree_7 rfl rfl ?_
  refine E_getR (pc := 8) hx 5 fc8 h0 rfl ⟨rfl, rfl, rfl⟩ g593 dX10_agree_8 ?_
  refine I_cVV  (pc := 11) hx [.ref (shR a0 5)] [] (ev_X3_sumByWays F (shR (shR a0 7) 9) (kt_2_9 (kt_8_7 h0)) (shR a0 5) (kt_8_5 h0) w) vm_X3_sumByWays fc3 (kt_2_9 (kt_8_7 h0)) g862 dX10_agree_11 rfl rfl (Nat.le_of_ble_eq_true rfl) (Nat.le_of_ble_eq_true rfl) (Nat.le_of_ble_eq_true rfl) (fun w1 => ?_)
  refine E_aload_n (pc := 14) hx 0 dX10_agree_14 rfl rfl ?_
  refine E_getR (pc := 15) hx 5 fc8 h0 rfl ⟨rfl, rfl, rfl⟩ g593 dX10_agree_15 ?_
  refine E_getR (pc := 18) hx 9 fc2 (kt_8_5 h0) rfl ⟨rfl, rfl, rfl⟩ g241 dX10_agree_18 ?_
  refine E_aload_n (pc := 21) hx 0 dX10_agree_21 rfl rfl ?_
  refine E_getR (pc := 22) hx 7 fc8 h0 rfl ⟨rfl, rfl, rfl⟩ g595 dX10_agree_22 ?_
  refine E_getR (pc := 25) hx 9 fc2 (kt_8_7 h0) rfl ⟨rfl, rfl, rfl⟩ g241 dX10_agree_25 ?_
  refine E_aload_n (pc := 28) hx 0 dX10_agree_28 rfl rfl ?_
  refine E_getR (pc := 29) hx 5 fc8 h0 rfl ⟨rfl, rfl, rfl⟩ g593 dX10_agree_29 ?_
  refine I_getI (pc := 32) hx 1 1 rfl fc2 (kt_8_5 h0) rfl ⟨rfl, rfl, rfl⟩ g211 dX10_agree_32 ?_
  refine I_cVB  (pc := 35) hx [.ref (shR (shR a0 7) 9), .int (oI (w1 (shR a0 5) 1))] [] (ev_X3_hasSameSums F (shR (shR a0 5) 9) (kt_2_9 (kt_8_5 h0)) (shR (shR a0 7) 9) (kt_2_9 (kt_8_7 h0)) (w1 (shR a0 5) 1) w1) vm_X3_hasSameSums fc3 (kt_2_9 (kt_8_5 h0)) g866 dX10_agree_35 rfl rfl (Nat.le_of_ble_eq_true rfl) (Nat.le_of_ble_eq_true rfl) (Nat.le_of_ble_eq_true rfl) (fun r2 => ?_)
  refine I_ifB_eq (pc := 38) hx 65 dX10_agree_38 rfl ?_ ?_
  · refine I_iconst (pc := 65) hx 0 dX10_agree_65 ?_
    exact E_zret (pc := 66) hx dX10_agree_66 rfl rfl rfl (Nat.le_of_ble_eq_true rfl)
  refine E_aload_n (pc := 41) hx 0 dX10_agree_41 rfl rfl ?_
  refine E_getR (pc := 42) hx 5 fc8 h0 rfl ⟨rfl, rfl, rfl⟩ g593 dX10_agree_42 ?_
  refine I_cSB  (pc := 45) hx [.ref (shR a0 5)] [] (ev_X6_areTunesRight F (shR a0 5) (kt_8_5 h0) w1) sm_X6_areTunesRight g870 dX10_agree_45 rfl rfl (Nat.le_of_ble_eq_true rfl) (Nat.le_of_ble_eq_true rfl) (Nat.le_of_ble_eq_true rfl) (fun r3 => ?_)
  refine I_ifB_eq (pc := 48) hx 65 dX10_agree_48 rfl ?_ ?_
  · refine I_iconst (pc := 65) hx 0 dX10_agree_65 ?_
    exact E_zret (pc := 66) hx dX10_agree_66 rfl rfl rfl (Nat.le_of_ble_eq_true rfl)
  refine E_aload_n (pc := 51) hx 0 dX10_agree_51 rfl rfl ?_
  refine E_getR (pc := 52) hx 5 fc8 h0 rfl ⟨rfl, rfl, rfl⟩ g593 dX10_agree_52 ?_
  refine I_cSB  (pc := 55) hx [.ref (shR a0 5)] [] (ev_X6_areAccountsRight F (shR a0 5) (kt_8_5 h0) w1) sm_X6_areAccountsRight g873 dX10_agree_55 rfl rfl (Nat.le_of_ble_eq_true rfl) (Nat.le_of_ble_eq_true rfl) (Nat.le_of_ble_eq_true rfl) (fun r4 => ?_)
  refine I_ifB_eq (pc := 58) hx 65 dX10_agree_58 rfl ?_ ?_
  · refine I_iconst (pc := 65) hx 0 dX10_agree_65 ?_
    exact E_zret (pc := 66) hx dX10_agree_66 rfl rfl rfl (Nat.le_of_ble_eq_true rfl)
  refine I_iconst (pc := 61) hx 1 dX10_agree_61 ?_
  refine E_goto (pc := 62) hx 66 dX10_agree_62 rfl ?_
  exact E_zret (pc := 66) hx dX10_agree_66 rfl rfl rfl (Nat.le_of_ble_eq_true rfl)
set_option maxHeartbeats 4000000 in
set_option maxRecDepth 100000 in
theorem l_X10_areDigitsNotes_b2_b {x : Cx} (F : Nat) (p0 : Int) (w : aI) (hx : CxOK x RX10 cX10_areDigitsNotes 2 0 0 (some .boolean))  (k2 : Int → Option Bool) (hk2 : ∀ (v1 : Int), En x (jvB w) 0 0 2 [(1, .int (oI v1))] [] (cm w) (k2 v1)) (v1 : Int)  : En x (jvB w) 0 0 2 [(1, .int (oI v1))] [] (cm w) (f_X10_areDigitsNotes_b2_b F p0 w  k2 v1) := by
  unfold f_X10_areDigitsNotes_b2_b
  refine E_iload_n (pc := 2) hx 0 dX10_areDigitsNotes_2 rfl rfl ?_
  refine E_gd (fun hr1 => ?_)
  refine I_if_le (pc := 3) hx 25 dX10_areDigitsNotes_3 rfl hr1 ?_ ?_
  · refine I_iconst (pc := 25) hx 1 dX10_areDigitsNotes_25 ?_
    exact E_zret (pc := 26) hx dX10_areDigitsNotes_26 rfl rfl rfl (Nat.le_of_ble_eq_true rfl)
  refine E_iload_n (pc := 6) hx 0 dX10_areDigitsNotes_6 rfl rfl ?_
  refine I_bipush (pc := 7) hx 10 dX10_areDigitsNotes_7 rfl ?_
  refine I_irem (pc := 9) hx dX10_areDigitsNotes_9 ⟨hr1, (by decide), (by decide)⟩ ?_
  refine I_bipush (pc := 10) hx 7 dX10_areDigitsNotes_10 rfl ?_
  refine E_gd (fun hr2 => ?_)
  refine I_icmp_le (pc := 12) hx 17 dX10_areDigitsNotes_12 rfl ⟨hr2, (by decide)⟩ ?_ ?_
  · refine E_iload_n (pc := 17) hx 0 dX10_areDigitsNotes_17 rfl rfl ?_
    refine I_bipush (pc := 18) hx 10 dX10_areDigitsNotes_18 rfl ?_
    refine I_idiv (pc := 20) hx dX10_areDigitsNotes_20 ⟨hr1, (by decide), (by decide)⟩ ?_
    refine I_ltv (fun v1_3 => ?_)
    refine E_istore_n (pc := 21) hx dX10_areDigitsNotes_21 rfl (Nat.le_of_ble_eq_true rfl) rfl ?_
    refine E_goto (pc := 22) hx 2 dX10_areDigitsNotes_22 rfl ?_
    exact hk2 v1_3
  refine I_iconst (pc := 15) hx 0 dX10_areDigitsNotes_15 ?_
  exact E_zret (pc := 16) hx dX10_areDigitsNotes_16 rfl rfl rfl (Nat.le_of_ble_eq_true rfl)
theorem l_X10_areDigitsNotes_b2 {x : Cx} (F : Nat) (p0 : Int) (w : aI) (hx : CxOK x RX10 cX10_areDigitsNotes 2 0 0 (some .boolean))  : ∀ (n : Nat) (v1 : Int), En x (jvB w) 0 0 2 [(1, .int (oI v1))] [] (cm w) (f_X10_areDigitsNotes_b2 F p0 w  n v1) := by
  intro n
  induction n with
  | zero => intro v1; exact E_none
  | succ n ih => intro v1; exact l_X10_areDigitsNotes_b2_b F p0 w hx  _ ih v1
set_option maxHeartbeats 4000000 in
set_option maxRecDepth 100000 in
theorem ev_X10_areDigitsNotes (F : Nat) (p0 : Int) (w : aI) : Ev yX10_areDigitsNotes cX10_areDigitsNotes 2 (some .boolean) 0 0 (jvB w) [.int (oI p0)] (cm w) (f_X10_areDigitsNotes F p0 w) := by
  refine Ev.of (own := RX10) (by decide +kernel) rfl (Nat.le_of_ble_eq_true rfl) (fun x hx => ?_)
  show En x (jvB w) 0 0 0 [(0, .int (oI p0))] [] (cm w) _
  unfold f_X10_areDigitsNotes
  refine E_iload_n (pc := 0) hx 0 dX10_areDigitsNotes_0 rfl rfl ?_
  refine E_istore_n (pc := 1) hx dX10_areDigitsNotes_1 rfl (Nat.le_of_ble_eq_true rfl) rfl ?_
  refine En.sub [0] rfl ?_
  exact l_X10_areDigitsNotes_b2 F p0 w hx F p0
set_option maxHeartbeats 4000000 in
set_option maxRecDepth 100000 in
theorem l_X10_digitsOf_b7_b {x : Cx} (F : Nat) (p0 : Int) (w : aI) (hx : CxOK x RX10 cX10_digitsOf 3 0 0 (some .int))  (k7 : Int → Int → Option Int) (hk7 : ∀ (v1 : Int) (v2 : Int), En x (jvI w) 0 0 7 [(1, .int (oI v1)), (2, .int (oI v2))] [] (cm w) (k7 v1 v2)) (v1 : Int) (v2 : Int)  : En x (jvI w) 0 0 7 [(1, .int (oI v1)), (2, .int (oI v2))] [] (cm w) (f_X10_digitsOf_b7_b F p0 w  k7 v1 v2) := by
  unfold f_X10_digitsOf_b7_b
  refine E_iload_n (pc := 7) hx 1 dX10_digitsOf_7 rfl rfl ?_
  refine E_gd (fun hr3 => ?_)
  refine I_if_le (pc := 8) hx 22 dX10_digitsOf_8 rfl hr3 ?_ ?_
  · refine E_iload_n (pc := 22) hx 0 dX10_digitsOf_22 rfl rfl ?_
    exact E_iret (pc := 23) hx dX10_digitsOf_23 rfl rfl (Nat.le_of_ble_eq_true rfl)
  refine I_iinc (pc := 11) hx 1 0 dX10_digitsOf_11 rfl (Nat.le_of_ble_eq_true rfl) rfl ?_
  refine E_iload_n (pc := 14) hx 1 dX10_digitsOf_14 rfl rfl ?_
  refine I_bipush (pc := 15) hx 10 dX10_digitsOf_15 rfl ?_
  refine I_idiv (pc := 17) hx dX10_digitsOf_17 ⟨hr3, (by decide), (by decide)⟩ ?_
  refine I_ltv (fun v2_4 => ?_)
  refine E_istore_n (pc := 18) hx dX10_digitsOf_18 rfl (Nat.le_of_ble_eq_true rfl) rfl ?_
  refine E_goto (pc := 19) hx 7 dX10_digitsOf_19 rfl ?_
  refine En.sub [1, 0] rfl ?_
  exact hk7 (v1 + 1) v2_4
theorem l_X10_digitsOf_b7 {x : Cx} (F : Nat) (p0 : Int) (w : aI) (hx : CxOK x RX10 cX10_digitsOf 3 0 0 (some .int))  : ∀ (n : Nat) (v1 : Int) (v2 : Int), En x (jvI w) 0 0 7 [(1, .int (oI v1)), (2, .int (oI v2))] [] (cm w) (f_X10_digitsOf_b7 F p0 w  n v1 v2) := by
  intro n
  induction n with
  | zero => intro v1 v2; exact E_none
  | succ n ih => intro v1 v2; exact l_X10_digitsOf_b7_b F p0 w hx  _ ih v1 v2
set_option maxHeartbeats 4000000 in
set_option maxRecDepth 100000 in
theorem ev_X10_digitsOf (F : Nat) (p0 : Int) (w : aI) : Ev yX10_digitsOf cX10_digitsOf 3 (some .int) 0 0 (jvI w) [.int (oI p0)] (cm w) (f_X10_digitsOf F p0 w) := by
  refine Ev.of (own := RX10) (by decide +kernel) rfl (Nat.le_of_ble_eq_true rfl) (fun x hx => ?_)
  show En x (jvI w) 0 0 0 [(0, .int (oI p0))] [] (cm w) _
  unfold f_X10_digitsOf
  refine I_iconst (pc := 0) hx 1 dX10_digitsOf_0 ?_
  refine E_istore_n (pc := 1) hx dX10_digitsOf_1 rfl (Nat.le_of_ble_eq_true rfl) rfl ?_
  refine E_iload_n (pc := 2) hx 1 dX10_digitsOf_2 rfl rfl ?_
  refine I_bipush (pc := 3) hx 10 dX10_digitsOf_3 rfl ?_
  refine E_gd (fun hr1 => ?_)
  refine I_idiv (pc := 5) hx dX10_digitsOf_5 ⟨hr1, (by decide), (by decide)⟩ ?_
  refine I_ltv (fun v2_2 => ?_)
  refine E_istore_n (pc := 6) hx dX10_digitsOf_6 rfl (Nat.le_of_ble_eq_true rfl) rfl ?_
  refine En.sub [1, 0] rfl ?_
  exact l_X10_digitsOf_b7 F p0 w hx F 1 v2_2
set_option maxHeartbeats 4000000 in
set_option maxRecDepth 100000 in
theorem l_X10_notesOfDigits_b4_b {x : Cx} (F : Nat) (p0 : Int) (w : aI) (hx : CxOK x RX10 cX10_notesOfDigits 3 0 0 (some .int))  (k4 : Int → Int → Option Int) (hk4 : ∀ (v1 : Int) (v2 : Int), En x (jvI w) 0 0 4 [(1, .int (oI v1)), (2, .int (oI v2))] [] (cm w) (k4 v1 v2)) (v1 : Int) (v2 : Int)  : En x (jvI w) 0 0 4 [(1, .int (oI v1)), (2, .int (oI v2))] [] (cm w) (f_X10_notesOfDigits_b4_b F p0 w  k4 v1 v2) := by
  unfold f_X10_notesOfDigits_b4_b
  refine E_iload_n (pc := 4) hx 1 dX10_notesOfDigits_4 rfl rfl ?_
  refine E_gd (fun hr1 => ?_)
  refine I_if_le (pc := 5) hx 25 dX10_notesOfDigits_5 rfl hr1 ?_ ?_
  · refine E_iload_n (pc := 25) hx 0 dX10_notesOfDigits_25 rfl rfl ?_
    exact E_iret (pc := 26) hx dX10_notesOfDigits_26 rfl rfl (Nat.le_of_ble_eq_true rfl)
  refine E_iload_n (pc := 8) hx 0 dX10_notesOfDigits_8 rfl rfl ?_
  refine I_iconst (pc := 9) hx 3 dX10_notesOfDigits_9 ?_
  refine I_ishl (pc := 10) hx dX10_notesOfDigits_10 (by decide) ?_
  refine E_iload_n (pc := 11) hx 1 dX10_notesOfDigits_11 rfl rfl ?_
  refine I_bipush (pc := 12) hx 10 dX10_notesOfDigits_12 rfl ?_
  refine I_irem (pc := 14) hx dX10_notesOfDigits_14 ⟨hr1, (by decide), (by decide)⟩ ?_
  refine I_ior (pc := 15) hx dX10_notesOfDigits_15 ?_
  refine I_ltv (fun v1_2 => ?_)
  refine E_istore_n (pc := 16) hx dX10_notesOfDigits_16 rfl (Nat.le_of_ble_eq_true rfl) rfl ?_
  refine E_iload_n (pc := 17) hx 1 dX10_notesOfDigits_17 rfl rfl ?_
  refine I_bipush (pc := 18) hx 10 dX10_notesOfDigits_18 rfl ?_
  refine I_idiv (pc := 20) hx dX10_notesOfDigits_20 ⟨hr1, (by decide), (by decide)⟩ ?_
  refine I_ltv (fun v2_3 => ?_)
  refine E_istore_n (pc := 21) hx dX10_notesOfDigits_21 rfl (Nat.le_of_ble_eq_true rfl) rfl ?_
  refine E_goto (pc := 22) hx 4 dX10_notesOfDigits_22 rfl ?_
  refine En.sub [1, 0] rfl ?_
  exact hk4 v1_2 v2_3
theorem l_X10_notesOfDigits_b4 {x : Cx} (F : Nat) (p0 : Int) (w : aI) (hx : CxOK x RX10 cX10_notesOfDigits 3 0 0 (some .int))  : ∀ (n : Nat) (v1 : Int) (v2 : Int), En x (jvI w) 0 0 4 [(1, .int (oI v1)), (2, .int (oI v2))] [] (cm w) (f_X10_notesOfDigits_b4 F p0 w  n v1 v2) := by
  intro n
  induction n with
  | zero => intro v1 v2; exact E_none
  | succ n ih => intro v1 v2; exact l_X10_notesOfDigits_b4_b F p0 w hx  _ ih v1 v2
set_option maxHeartbeats 4000000 in
set_option maxRecDepth 100000 in
theorem ev_X10_notesOfDigits (F : Nat) (p0 : Int) (w : aI) : Ev yX10_notesOfDigits cX10_notesOfDigits 3 (some .int) 0 0 (jvI w) [.int (oI p0)] (cm w) (f_X10_notesOfDigits F p0 w) := by
  refine Ev.of (own := RX10) (by decide +kernel) rfl (Nat.le_of_ble_eq_true rfl) (fun x hx => ?_)
  show En x (jvI w) 0 0 0 [(0, .int (oI p0))] [] (cm w) _
  unfold f_X10_notesOfDigits
  refine I_iconst (pc := 0) hx 0 dX10_notesOfDigits_0 ?_
  refine E_istore_n (pc := 1) hx dX10_notesOfDigits_1 rfl (Nat.le_of_ble_eq_true rfl) rfl ?_
  refine E_iload_n (pc := 2) hx 1 dX10_notesOfDigits_2 rfl rfl ?_
  refine E_istore_n (pc := 3) hx dX10_notesOfDigits_3 rfl (Nat.le_of_ble_eq_true rfl) rfl ?_
  refine En.sub [1, 0] rfl ?_
  exact l_X10_notesOfDigits_b4 F p0 w hx F 0 p0
