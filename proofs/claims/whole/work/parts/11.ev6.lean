set_option maxHeartbeats 4000000 in
set_option maxRecDepth 100000 in
theorem l_X11_newTune_b127_b {x : Cx} (F : Nat) (a0 : Nat) (h0 : shK a0 = 10 + 9) (p1 : Int) (p2 : Int) (p3 : Int) (p4 : Int)  (hx : CxOK x RX11 cX11_newTune 8 2 0 (some .int))  (k127 : Int → Int → Int → aI → Option (Int × aI)) (hk127 : ∀ (v5 : Int) (v6 : Int) (v7 : Int) (w : aI), En x jvIW 0 0 127 [(0, .ref a0), (3, .int (oI p3)), (5, .int (oI v5)), (6, .int (oI v6)), (7, .int (oI v7))] [] (cm w) (k127 v5 v6 v7 w)) (v5 : Int) (v6 : Int) (v7 : Int) (w : aI) : En x jvIW 0 0 127 [(0, .ref a0), (3, .int (oI p3)), (5, .int (oI v5)), (6, .int (oI v6)), (7, .int (oI v7))] [] (cm w) (f_X11_newTune_b127_b F a0 p1 p2 p3 p4   k127 v5 v6 v7 w) := by
  unfold f_X11_newTune_b127_b
  refine E_iload (pc := 127) hx 4 dX11_newTune_127 rfl ?_
  refine E_aload_n (pc := 129) hx 0 dX11_newTune_129 rfl rfl ?_
  refine I_getI (pc := 130) hx 11 11 rfl fc9 h0 rfl ⟨rfl, rfl, rfl⟩ g1343 dX11_newTune_130 ?_
  refine E_gd (fun hr13 => ?_)
  refine I_icmp_ge (pc := 133) hx 162 dX11_newTune_133 rfl ⟨hr13.1, hr13.2⟩ ?_ ?_
  · refine E_aload_n (pc := 162) hx 0 dX11_newTune_162 rfl rfl ?_
    refine E_iload (pc := 163) hx 2 dX11_newTune_163 rfl ?_
    refine I_cVV  (pc := 165) hx [.int (oI v5)] [] (ev_X11_hearsAsSent F a0 h0 v5 w) vm_X11_hearsAsSent fc9 h0 g1600 dX11_newTune_165 rfl rfl (Nat.le_of_ble_eq_true rfl) (Nat.le_of_ble_eq_true rfl) (Nat.le_of_ble_eq_true rfl) (fun w14 => ?_)
    refine E_aload_n (pc := 168) hx 0 dX11_newTune_168 rfl rfl ?_
    refine E_getR (pc := 169) hx 0 fc9 h0 rfl ⟨rfl, rfl, rfl⟩ g1332 dX11_newTune_169 ?_
    refine I_iconst (pc := 172) hx 2 dX11_newTune_172 ?_
    refine E_dup2 (pc := 173) hx dX11_newTune_173 rfl rfl ?_
    refine I_iald (pc := 174) hx (kt_9_0 h0) dX11_newTune_174 ?_
    refine I_iconst (pc := 175) hx 1 dX11_newTune_175 ?_
    refine I_iadd (pc := 176) hx dX11_newTune_176 ?_
    refine I_iast (pc := 177) hx (kt_9_0 h0) dX11_newTune_177 (fun w15 => ?_)
    refine E_aload_n (pc := 178) hx 0 dX11_newTune_178 rfl rfl ?_
    refine I_iconst (pc := 179) hx 1 dX11_newTune_179 ?_
    refine I_iconst (pc := 180) hx 1 dX11_newTune_180 ?_
    refine I_cVV  (pc := 181) hx [.int (oI 1), .int (oI 1)] [] (ev_X11_counts F a0 h0 1 1 w15) vm_X11_counts fc9 h0 g1604 dX11_newTune_181 rfl rfl (Nat.le_of_ble_eq_true rfl) (Nat.le_of_ble_eq_true rfl) (Nat.le_of_ble_eq_true rfl) (fun w16 => ?_)
    refine E_aload_n (pc := 184) hx 0 dX11_newTune_184 rfl rfl ?_
    refine I_iconst (pc := 185) hx 2 dX11_newTune_185 ?_
    refine E_iload_n (pc := 186) hx 1 dX11_newTune_186 rfl rfl ?_
    refine I_cSI  (pc := 187) hx [.int (oI p3)] [.int (oI 2), .ref a0] (ev_X11_one F p3 w16) sm_X11_one g1597 dX11_newTune_187 rfl rfl (Nat.le_of_ble_eq_true rfl) (Nat.le_of_ble_eq_true rfl) (Nat.le_of_ble_eq_true rfl) (fun r17 => ?_)
    refine I_cVV  (pc := 190) hx [.int (oI 2), .int (oI r17)] [] (ev_X11_counts F a0 h0 2 r17 w16) vm_X11_counts fc9 h0 g1604 dX11_newTune_190 rfl rfl (Nat.le_of_ble_eq_true rfl) (Nat.le_of_ble_eq_true rfl) (Nat.le_of_ble_eq_true rfl) (fun w18 => ?_)
    refine E_iload (pc := 193) hx 2 dX11_newTune_193 rfl ?_
    exact E_iret (pc := 195) hx dX11_newTune_195 rfl rfl (Nat.le_of_ble_eq_true rfl)
  refine E_aload_n (pc := 136) hx 0 dX11_newTune_136 rfl rfl ?_
  refine E_getR (pc := 137) hx 0 fc9 h0 rfl ⟨rfl, rfl, rfl⟩ g1332 dX11_newTune_137 ?_
  refine E_iload (pc := 140) hx 3 dX11_newTune_140 rfl ?_
  refine I_bipush (pc := 142) hx 11 dX11_newTune_142 rfl ?_
  refine I_iadd (pc := 144) hx dX11_newTune_144 ?_
  refine E_iload (pc := 145) hx 4 dX11_newTune_145 rfl ?_
  refine I_iadd (pc := 147) hx dX11_newTune_147 ?_
  refine E_aload_n (pc := 148) hx 0 dX11_newTune_148 rfl rfl ?_
  refine E_getR (pc := 149) hx 10 fc9 h0 rfl ⟨rfl, rfl, rfl⟩ g1342 dX11_newTune_149 ?_
  refine E_iload (pc := 152) hx 4 dX11_newTune_152 rfl ?_
  refine I_iald (pc := 154) hx (kt_9_10 h0) dX11_newTune_154 ?_
  refine I_iast (pc := 155) hx (kt_9_0 h0) dX11_newTune_155 (fun w19 => ?_)
  refine I_iinc (pc := 156) hx 1 4 dX11_newTune_156 rfl (Nat.le_of_ble_eq_true rfl) rfl ?_
  refine E_goto (pc := 159) hx 127 dX11_newTune_159 rfl ?_
  refine En.sub [1, 2, 3, 4, 0] rfl ?_
  exact hk127 v5 v6 (v7 + 1) w19
theorem l_X11_newTune_b127 {x : Cx} (F : Nat) (a0 : Nat) (h0 : shK a0 = 10 + 9) (p1 : Int) (p2 : Int) (p3 : Int) (p4 : Int)  (hx : CxOK x RX11 cX11_newTune 8 2 0 (some .int))  : ∀ (n : Nat) (v5 : Int) (v6 : Int) (v7 : Int) (w : aI), En x jvIW 0 0 127 [(0, .ref a0), (3, .int (oI p3)), (5, .int (oI v5)), (6, .int (oI v6)), (7, .int (oI v7))] [] (cm w) (f_X11_newTune_b127 F a0 p1 p2 p3 p4   n v5 v6 v7 w) := by
  intro n
  induction n with
  | zero => intro v5 v6 v7 w; exact E_none
  | succ n ih => intro v5 v6 v7 w; exact l_X11_newTune_b127_b F a0 h0 p1 p2 p3 p4  hx  _ ih v5 v6 v7 w
set_option maxHeartbeats 4000000 in
set_option maxRecDepth 100000 in
theorem l_X11_newTune_b18_b {x : Cx} (F : Nat) (a0 : Nat) (h0 : shK a0 = 10 + 9) (p1 : Int) (p2 : Int) (p3 : Int) (p4 : Int)  (hx : CxOK x RX11 cX11_newTune 8 2 0 (some .int))  (k18 : Int → Int → Int → aI → Option (Int × aI)) (hk18 : ∀ (v5 : Int) (v6 : Int) (v7 : Int) (w : aI), En x jvIW 0 0 18 [(0, .ref a0), (1, .int (oI p1)), (2, .int (oI p2)), (3, .int (oI p3)), (4, .int (oI p4)), (5, .int (oI v5)), (6, .int (oI v6)), (7, .int (oI v7))] [] (cm w) (k18 v5 v6 v7 w)) (v5 : Int) (v6 : Int) (v7 : Int) (w : aI) : En x jvIW 0 0 18 [(0, .ref a0), (1, .int (oI p1)), (2, .int (oI p2)), (3, .int (oI p3)), (4, .int (oI p4)), (5, .int (oI v5)), (6, .int (oI v6)), (7, .int (oI v7))] [] (cm w) (f_X11_newTune_b18_b F a0 p1 p2 p3 p4   k18 v5 v6 v7 w) := by
  unfold f_X11_newTune_b18_b
  refine E_iload (pc := 18) hx 7 dX11_newTune_18 rfl ?_
  refine I_bipush (pc := 20) hx 27 dX11_newTune_20 rfl ?_
  refine E_gd (fun hr3 => ?_)
  refine I_icmp_ge (pc := 22) hx 42 dX11_newTune_22 rfl ⟨hr3, (by decide)⟩ ?_ ?_
  · refine E_aload_n (pc := 42) hx 0 dX11_newTune_42 rfl rfl ?_
    refine E_getR (pc := 43) hx 0 fc9 h0 rfl ⟨rfl, rfl, rfl⟩ g1332 dX11_newTune_43 ?_
    refine E_iload (pc := 46) hx 6 dX11_newTune_46 rfl ?_
    refine I_iconst (pc := 48) hx 0 dX11_newTune_48 ?_
    refine I_iadd (pc := 49) hx dX11_newTune_49 ?_
    refine E_iload_n (pc := 50) hx 1 dX11_newTune_50 rfl rfl ?_
    refine I_iast (pc := 51) hx (kt_9_0 h0) dX11_newTune_51 (fun w4 => ?_)
    refine E_aload_n (pc := 52) hx 0 dX11_newTune_52 rfl rfl ?_
    refine E_getR (pc := 53) hx 0 fc9 h0 rfl ⟨rfl, rfl, rfl⟩ g1332 dX11_newTune_53 ?_
    refine E_iload (pc := 56) hx 6 dX11_newTune_56 rfl ?_
    refine I_iconst (pc := 58) hx 1 dX11_newTune_58 ?_
    refine I_iadd (pc := 59) hx dX11_newTune_59 ?_
    refine E_iload_n (pc := 60) hx 2 dX11_newTune_60 rfl rfl ?_
    refine I_iast (pc := 61) hx (kt_9_0 h0) dX11_newTune_61 (fun w5 => ?_)
    refine E_aload_n (pc := 62) hx 0 dX11_newTune_62 rfl rfl ?_
    refine E_getR (pc := 63) hx 0 fc9 h0 rfl ⟨rfl, rfl, rfl⟩ g1332 dX11_newTune_63 ?_
    refine E_iload (pc := 66) hx 6 dX11_newTune_66 rfl ?_
    refine I_iconst (pc := 68) hx 2 dX11_newTune_68 ?_
    refine I_iadd (pc := 69) hx dX11_newTune_69 ?_
    refine E_aload_n (pc := 70) hx 0 dX11_newTune_70 rfl rfl ?_
    refine I_getI (pc := 71) hx 11 11 rfl fc9 h0 rfl ⟨rfl, rfl, rfl⟩ g1343 dX11_newTune_71 ?_
    refine I_iast (pc := 74) hx (kt_9_0 h0) dX11_newTune_74 (fun w6 => ?_)
    refine E_aload_n (pc := 75) hx 0 dX11_newTune_75 rfl rfl ?_
    refine E_getR (pc := 76) hx 0 fc9 h0 rfl ⟨rfl, rfl, rfl⟩ g1332 dX11_newTune_76 ?_
    refine E_iload (pc := 79) hx 6 dX11_newTune_79 rfl ?_
    refine I_iconst (pc := 81) hx 4 dX11_newTune_81 ?_
    refine I_iadd (pc := 82) hx dX11_newTune_82 ?_
    refine E_iload_n (pc := 83) hx 1 dX11_newTune_83 rfl rfl ?_
    refine I_iast (pc := 84) hx (kt_9_0 h0) dX11_newTune_84 (fun w7 => ?_)
    refine E_aload_n (pc := 85) hx 0 dX11_newTune_85 rfl rfl ?_
    refine E_getR (pc := 86) hx 0 fc9 h0 rfl ⟨rfl, rfl, rfl⟩ g1332 dX11_newTune_86 ?_
    refine E_iload (pc := 89) hx 6 dX11_newTune_89 rfl ?_
    refine I_iconst (pc := 91) hx 5 dX11_newTune_91 ?_
    refine I_iadd (pc := 92) hx dX11_newTune_92 ?_
    refine I_iconst (pc := 93) hx (-1) dX11_newTune_93 ?_
    refine I_iast (pc := 94) hx (kt_9_0 h0) dX11_newTune_94 (fun w8 => ?_)
    refine E_aload_n (pc := 95) hx 0 dX11_newTune_95 rfl rfl ?_
    refine E_getR (pc := 96) hx 0 fc9 h0 rfl ⟨rfl, rfl, rfl⟩ g1332 dX11_newTune_96 ?_
    refine E_iload (pc := 99) hx 6 dX11_newTune_99 rfl ?_
    refine I_bipush (pc := 101) hx 6 dX11_newTune_101 rfl ?_
    refine I_iadd (pc := 103) hx dX11_newTune_103 ?_
    refine E_iload_n (pc := 104) hx 3 dX11_newTune_104 rfl rfl ?_
    refine I_cSI  (pc := 105) hx [.int (oI p3)] [.int (oI (v6 + 6)), .ref (shR a0 0)] (ev_X11_one F p3 w8) sm_X11_one g1597 dX11_newTune_105 rfl rfl (Nat.le_of_ble_eq_true rfl) (Nat.le_of_ble_eq_true rfl) (Nat.le_of_ble_eq_true rfl) (fun r9 => ?_)
    refine I_iast (pc := 108) hx (kt_9_0 h0) dX11_newTune_108 (fun w10 => ?_)
    refine E_aload_n (pc := 109) hx 0 dX11_newTune_109 rfl rfl ?_
    refine E_getR (pc := 110) hx 0 fc9 h0 rfl ⟨rfl, rfl, rfl⟩ g1332 dX11_newTune_110 ?_
    refine E_iload (pc := 113) hx 6 dX11_newTune_113 rfl ?_
    refine I_bipush (pc := 115) hx 7 dX11_newTune_115 rfl ?_
    refine I_iadd (pc := 117) hx dX11_newTune_117 ?_
    refine E_iload (pc := 118) hx 4 dX11_newTune_118 rfl ?_
    refine I_cSI  (pc := 120) hx [.int (oI p4)] [.int (oI (v6 + 7)), .ref (shR a0 0)] (ev_X11_one F p4 w10) sm_X11_one g1597 dX11_newTune_120 rfl rfl (Nat.le_of_ble_eq_true rfl) (Nat.le_of_ble_eq_true rfl) (Nat.le_of_ble_eq_true rfl) (fun r11 => ?_)
    refine I_iast (pc := 123) hx (kt_9_0 h0) dX11_newTune_123 (fun w12 => ?_)
    refine I_iconst (pc := 124) hx 0 dX11_newTune_124 ?_
    refine E_istore (pc := 125) hx dX11_newTune_125 (Nat.le_of_ble_eq_true rfl) rfl ?_
    refine En.sub [1, 4, 6, 7, 0] rfl ?_
    exact l_X11_newTune_b127 F a0 h0 p1 p2 p3 p4 hx F v5 v6 0 w12
  refine E_aload_n (pc := 25) hx 0 dX11_newTune_25 rfl rfl ?_
  refine E_getR (pc := 26) hx 0 fc9 h0 rfl ⟨rfl, rfl, rfl⟩ g1332 dX11_newTune_26 ?_
  refine E_iload (pc := 29) hx 6 dX11_newTune_29 rfl ?_
  refine E_iload (pc := 31) hx 7 dX11_newTune_31 rfl ?_
  refine I_iadd (pc := 33) hx dX11_newTune_33 ?_
  refine I_iconst (pc := 34) hx 0 dX11_newTune_34 ?_
  refine I_iast (pc := 35) hx (kt_9_0 h0) dX11_newTune_35 (fun w20 => ?_)
  refine I_iinc (pc := 36) hx 1 7 dX11_newTune_36 rfl (Nat.le_of_ble_eq_true rfl) rfl ?_
  refine E_goto (pc := 39) hx 18 dX11_newTune_39 rfl ?_
  refine En.sub [1, 2, 3, 4, 5, 6, 7, 0] rfl ?_
  exact hk18 v5 v6 (v7 + 1) w20
theorem l_X11_newTune_b18 {x : Cx} (F : Nat) (a0 : Nat) (h0 : shK a0 = 10 + 9) (p1 : Int) (p2 : Int) (p3 : Int) (p4 : Int)  (hx : CxOK x RX11 cX11_newTune 8 2 0 (some .int))  : ∀ (n : Nat) (v5 : Int) (v6 : Int) (v7 : Int) (w : aI), En x jvIW 0 0 18 [(0, .ref a0), (1, .int (oI p1)), (2, .int (oI p2)), (3, .int (oI p3)), (4, .int (oI p4)), (5, .int (oI v5)), (6, .int (oI v6)), (7, .int (oI v7))] [] (cm w) (f_X11_newTune_b18 F a0 p1 p2 p3 p4   n v5 v6 v7 w) := by
  intro n
  induction n with
  | zero => intro v5 v6 v7 w; exact E_none
  | succ n ih => intro v5 v6 v7 w; exact l_X11_newTune_b18_b F a0 h0 p1 p2 p3 p4  hx  _ ih v5 v6 v7 w
set_option maxHeartbeats 4000000 in
set_option maxRecDepth 100000 in
theorem ev_X11_newTune (F : Nat) (a0 : Nat) (h0 : shK a0 = 10 + 9) (p1 : Int) (p2 : Int) (p3 : Int) (p4 : Int) (w : aI) : Ev yX11_newTune cX11_newTune 8 (some .int) 2 0 jvIW [.ref a0, .int (oI p1), .int (oI p2), .int (oI p3), .int (oI p4)] (cm w) (f_X11_newTune F a0 p1 p2 p3 p4 w) := by
  refine Ev.of (own := RX11) (by decide +kernel) rfl (Nat.le_of_ble_eq_true rfl) (fun x hx => ?_)
  show En x jvIW 0 0 0 [(0, .ref a0), (1, .int (oI p1)), (2, .int (oI p2)), (3, .int (oI p3)), (4, .int (oI p4))] [] (cm w) _
  unfold f_X11_newTune
  refine E_aload_n (pc := 0) hx 0 dX11_newTune_0 rfl rfl ?_
  refine E_getR (pc := 1) hx 0 fc9 h0 rfl ⟨rfl, rfl, rfl⟩ g1332 dX11_newTune_1 ?_
  refine I_iconst (pc := 4) hx 2 dX11_newTune_4 ?_
  refine I_iald (pc := 5) hx (kt_9_0 h0) dX11_newTune_5 ?_
  refine I_ltv (fun v5_1 => ?_)
  refine E_istore (pc := 6) hx dX11_newTune_6 (Nat.le_of_ble_eq_true rfl) rfl ?_
  refine E_iload (pc := 8) hx 0 dX11_newTune_8 rfl ?_
  refine I_cSI  (pc := 10) hx [.int (oI v5_1)] [] (ev_X11_t F v5_1 w) sm_X11_t g1594 dX11_newTune_10 rfl rfl (Nat.le_of_ble_eq_true rfl) (Nat.le_of_ble_eq_true rfl) (Nat.le_of_ble_eq_true rfl) (fun r2 => ?_)
  refine E_istore (pc := 13) hx dX11_newTune_13 (Nat.le_of_ble_eq_true rfl) rfl ?_
  refine I_iconst (pc := 15) hx 0 dX11_newTune_15 ?_
  refine E_istore (pc := 16) hx dX11_newTune_16 (Nat.le_of_ble_eq_true rfl) rfl ?_
  refine En.sub [3, 4, 5, 6, 7, 2, 1, 0] rfl ?_
  exact l_X11_newTune_b18 F a0 h0 p1 p2 p3 p4 hx F v5_1 r2 0 w
set_option maxHeartbeats 4000000 in
set_option maxRecDepth 100000 in
theorem ev_X11_wrongBy (F : Nat) (a0 : Nat) (h0 : shK a0 = 10 + 9) (p1 : Int) (p2 : Int) (p3 : Int) (p4 : Int) (w : aI) : Ev yX11_wrongBy cX11_wrongBy 5 (some .int) 1 0 (jvI w) [.ref a0, .int (oI p1), .int (oI p2), .int (oI p3), .int (oI p4)] (cm w) (f_X11_wrongBy F a0 p1 p2 p3 p4 w) := by
  refine Ev.of (own := RX11) (by decide +kernel) rfl (Nat.le_of_ble_eq_true rfl) (fun x hx => ?_)
  show En x (jvI w) 0 0 0 [(0, .ref a0), (1, .int (oI p1)), (2, .int (oI p2)), (3, .int (oI p3)), (4, .int (oI p4))] [] (cm w) _
  unfold f_X11_wrongBy
  refine E_iload (pc := 0) hx 4 dX11_wrongBy_0 rfl ?_
  refine I_iconst (pc := 2) hx 0 dX11_wrongBy_2 ?_
  refine E_iload_n (pc := 3) hx 1 dX11_wrongBy_3 rfl rfl ?_
  refine E_iload_n (pc := 4) hx 2 dX11_wrongBy_4 rfl rfl ?_
  refine I_imul (pc := 5) hx dX11_wrongBy_5 ?_
  refine I_iconst (pc := 6) hx 3 dX11_wrongBy_6 ?_
  refine E_aload_n (pc := 7) hx 0 dX11_wrongBy_7 rfl rfl ?_
  refine E_getR (pc := 8) hx 0 fc9 h0 rfl ⟨rfl, rfl, rfl⟩ g1332 dX11_wrongBy_8 ?_
  refine E_iload_n (pc := 11) hx 3 dX11_wrongBy_11 rfl rfl ?_
  refine I_cSI  (pc := 12) hx [.int (oI p3)] [.ref (shR a0 0), .int (oI 3), .int (oI (p1 * p2)), .int (oI 0), .int (oI p4)] (ev_X11_r F p3 w) sm_X11_r g1322 dX11_wrongBy_12 rfl rfl (Nat.le_of_ble_eq_true rfl) (Nat.le_of_ble_eq_true rfl) (Nat.le_of_ble_eq_true rfl) (fun r1 => ?_)
  refine I_bipush (pc := 15) hx 8 dX11_wrongBy_15 rfl ?_
  refine I_iadd (pc := 17) hx dX11_wrongBy_17 ?_
  refine I_iald (pc := 18) hx (kt_9_0 h0) dX11_wrongBy_18 ?_
  refine I_imul (pc := 19) hx dX11_wrongBy_19 ?_
  refine I_isub (pc := 20) hx dX11_wrongBy_20 ?_
  refine E_gd (fun hr2 => ?_)
  refine I_mmax (pc := 21) hx ⟨(by decide), hr2⟩ g1519 g746 g121 g747 (Nat.le_of_ble_eq_true rfl) (Nat.le_of_ble_eq_true rfl) (Nat.le_of_ble_eq_true rfl) dX11_wrongBy_21 ?_
  refine I_bipush (pc := 24) hx 10 dX11_wrongBy_24 rfl ?_
  refine E_gd (fun hr3 => ?_)
  refine I_idiv (pc := 26) hx dX11_wrongBy_26 ⟨hr3, (by decide), (by decide)⟩ ?_
  refine E_gd (fun hr4 => ?_)
  refine I_mmin (pc := 27) hx ⟨hr4.1, hr4.2⟩ g1632 g574 g121 g575 (Nat.le_of_ble_eq_true rfl) (Nat.le_of_ble_eq_true rfl) (Nat.le_of_ble_eq_true rfl) dX11_wrongBy_27 ?_
  exact E_iret (pc := 30) hx dX11_wrongBy_30 rfl rfl (Nat.le_of_ble_eq_true rfl)
set_option maxHeartbeats 4000000 in
set_option maxRecDepth 100000 in
theorem l_X11_blurs_b47_b {x : Cx} (F : Nat) (a0 : Nat) (h0 : shK a0 = 10 + 9) (p1 : Int)  (hx : CxOK x RX11 cX11_blurs 7 2 0 none)  (k47 : Int → Int → Int → Int → aI → Option aI) (hk47 : ∀ (v2 : Int) (v3 : Int) (v4 : Int) (v5 : Int) (w : aI), En x jvV 0 0 47 [(0, .ref a0), (1, .int (oI p1)), (2, .int (oI v2)), (3, .int (oI v3)), (4, .int (oI v4)), (5, .int (oI v5))] [] (cm w) (k47 v2 v3 v4 v5 w)) (v2 : Int) (v3 : Int) (v4 : Int) (v5 : Int) (w : aI) : En x jvV 0 0 47 [(0, .ref a0), (1, .int (oI p1)), (2, .int (oI v2)), (3, .int (oI v3)), (4, .int (oI v4)), (5, .int (oI v5))] [] (cm w) (f_X11_blurs_b47_b F a0 p1   k47 v2 v3 v4 v5 w) := by
  unfold f_X11_blurs_b47_b
  refine E_iload (pc := 47) hx 5 dX11_blurs_47 rfl ?_
  refine E_iload (pc := 49) hx 4 dX11_blurs_49 rfl ?_
  refine E_gd (fun hr4 => ?_)
  refine I_icmp_ge (pc := 51) hx 92 dX11_blurs_51 rfl ⟨hr4.1, hr4.2⟩ ?_ ?_
  · refine E_aload_n (pc := 92) hx 0 dX11_blurs_92 rfl rfl ?_
    refine I_iconst (pc := 93) hx 4 dX11_blurs_93 ?_
    refine E_iload (pc := 94) hx 4 dX11_blurs_94 rfl ?_
    refine I_cVV  (pc := 96) hx [.int (oI 4), .int (oI v4)] [] (ev_X11_counts F a0 h0 4 v4 w) vm_X11_counts fc9 h0 g1604 dX11_blurs_96 rfl rfl (Nat.le_of_ble_eq_true rfl) (Nat.le_of_ble_eq_true rfl) (Nat.le_of_ble_eq_true rfl) (fun w5 => ?_)
    exact E_vret (pc := 99) hx dX11_blurs_99 rfl rfl (Nat.le_of_ble_eq_true rfl)
  refine E_iload_n (pc := 54) hx 2 dX11_blurs_54 rfl rfl ?_
  refine I_bipush (pc := 55) hx 19 dX11_blurs_55 rfl ?_
  refine I_iadd (pc := 57) hx dX11_blurs_57 ?_
  refine E_iload_n (pc := 58) hx 1 dX11_blurs_58 rfl rfl ?_
  refine E_iload (pc := 59) hx 5 dX11_blurs_59 rfl ?_
  refine I_iadd (pc := 61) hx dX11_blurs_61 ?_
  refine E_iload_n (pc := 62) hx 3 dX11_blurs_62 rfl rfl ?_
  refine E_gd (fun hr6 => ?_)
  refine E_gd (fun hd7 => ?_)
  refine I_irem (pc := 63) hx dX11_blurs_63 ⟨hr6.1, hr6.2, hd7⟩ ?_
  refine I_iadd (pc := 64) hx dX11_blurs_64 ?_
  refine I_ltv (fun v6_8 => ?_)
  refine E_istore (pc := 65) hx dX11_blurs_65 (Nat.le_of_ble_eq_true rfl) rfl ?_
  refine E_aload_n (pc := 67) hx 1 dX11_blurs_67 rfl rfl ?_
  refine E_getR (pc := 68) hx 0 fc9 h0 rfl ⟨rfl, rfl, rfl⟩ g1332 dX11_blurs_68 ?_
  refine E_iload (pc := 71) hx 0 dX11_blurs_71 rfl ?_
  refine E_aload_n (pc := 73) hx 1 dX11_blurs_73 rfl rfl ?_
  refine E_getR (pc := 74) hx 0 fc9 h0 rfl ⟨rfl, rfl, rfl⟩ g1332 dX11_blurs_74 ?_
  refine E_iload (pc := 77) hx 0 dX11_blurs_77 rfl ?_
  refine I_iald (pc := 79) hx (kt_9_0 h0) dX11_blurs_79 ?_
  refine I_iconst (pc := 80) hx 1 dX11_blurs_80 ?_
  refine I_iadd (pc := 81) hx dX11_blurs_81 ?_
  refine I_bipush (pc := 82) hx 8 dX11_blurs_82 rfl ?_
  refine E_gd (fun hr9 => ?_)
  refine I_irem (pc := 84) hx dX11_blurs_84 ⟨hr9, (by decide), (by decide)⟩ ?_
  refine I_iast (pc := 85) hx (kt_9_0 h0) dX11_blurs_85 (fun w10 => ?_)
  refine I_iinc (pc := 86) hx 1 6 dX11_blurs_86 rfl (Nat.le_of_ble_eq_true rfl) rfl ?_
  refine E_goto (pc := 89) hx 47 dX11_blurs_89 rfl ?_
  refine En.sub [2, 3, 4, 5, 6, 0] rfl ?_
  exact hk47 v2 v3 v4 (v5 + 1) w10
theorem l_X11_blurs_b47 {x : Cx} (F : Nat) (a0 : Nat) (h0 : shK a0 = 10 + 9) (p1 : Int)  (hx : CxOK x RX11 cX11_blurs 7 2 0 none)  : ∀ (n : Nat) (v2 : Int) (v3 : Int) (v4 : Int) (v5 : Int) (w : aI), En x jvV 0 0 47 [(0, .ref a0), (1, .int (oI p1)), (2, .int (oI v2)), (3, .int (oI v3)), (4, .int (oI v4)), (5, .int (oI v5))] [] (cm w) (f_X11_blurs_b47 F a0 p1   n v2 v3 v4 v5 w) := by
  intro n
  induction n with
  | zero => intro v2 v3 v4 v5 w; exact E_none
  | succ n ih => intro v2 v3 v4 v5 w; exact l_X11_blurs_b47_b F a0 h0 p1  hx  _ ih v2 v3 v4 v5 w
set_option maxHeartbeats 4000000 in
set_option maxRecDepth 100000 in
theorem ev_X11_blurs (F : Nat) (a0 : Nat) (h0 : shK a0 = 10 + 9) (p1 : Int) (w : aI) : Ev yX11_blurs cX11_blurs 7 none 2 0 jvV [.ref a0, .int (oI p1)] (cm w) (f_X11_blurs F a0 p1 w) := by
  refine Ev.of (own := RX11) (by decide +kernel) rfl (Nat.le_of_ble_eq_true rfl) (fun x hx => ?_)
  show En x jvV 0 0 0 [(0, .ref a0), (1, .int (oI p1))] [] (cm w) _
  unfold f_X11_blurs
  refine E_iload_n (pc := 0) hx 1 dX11_blurs_0 rfl rfl ?_
  refine I_cSI  (pc := 1) hx [.int (oI p1)] [] (ev_X11_t F p1 w) sm_X11_t g1594 dX11_blurs_1 rfl rfl (Nat.le_of_ble_eq_true rfl) (Nat.le_of_ble_eq_true rfl) (Nat.le_of_ble_eq_true rfl) (fun r1 => ?_)
  refine E_istore_n (pc := 4) hx dX11_blurs_4 rfl (Nat.le_of_ble_eq_true rfl) rfl ?_
  refine E_aload_n (pc := 5) hx 1 dX11_blurs_5 rfl rfl ?_
  refine E_getR (pc := 6) hx 0 fc9 h0 rfl ⟨rfl, rfl, rfl⟩ g1332 dX11_blurs_6 ?_
  refine E_iload_n (pc := 9) hx 0 dX11_blurs_9 rfl rfl ?_
  refine I_iconst (pc := 10) hx 2 dX11_blurs_10 ?_
  refine I_iadd (pc := 11) hx dX11_blurs_11 ?_
  refine I_iald (pc := 12) hx (kt_9_0 h0) dX11_blurs_12 ?_
  refine I_ltv (fun v3_2 => ?_)
  refine E_istore_n (pc := 13) hx dX11_blurs_13 rfl (Nat.le_of_ble_eq_true rfl) rfl ?_
  refine E_aload_n (pc := 14) hx 2 dX11_blurs_14 rfl rfl ?_
  refine E_aload_n (pc := 15) hx 2 dX11_blurs_15 rfl rfl ?_
  refine E_getR (pc := 16) hx 0 fc9 h0 rfl ⟨rfl, rfl, rfl⟩ g1332 dX11_blurs_16 ?_
  refine I_iconst (pc := 19) hx 4 dX11_blurs_19 ?_
  refine I_iald (pc := 20) hx (kt_9_0 h0) dX11_blurs_20 ?_
  refine E_aload_n (pc := 21) hx 2 dX11_blurs_21 rfl rfl ?_
  refine E_getR (pc := 22) hx 0 fc9 h0 rfl ⟨rfl, rfl, rfl⟩ g1332 dX11_blurs_22 ?_
  refine E_iload_n (pc := 25) hx 1 dX11_blurs_25 rfl rfl ?_
  refine I_bipush (pc := 26) hx 10 dX11_blurs_26 rfl ?_
  refine I_iadd (pc := 28) hx dX11_blurs_28 ?_
  refine I_iald (pc := 29) hx (kt_9_0 h0) dX11_blurs_29 ?_
  refine E_aload_n (pc := 30) hx 2 dX11_blurs_30 rfl rfl ?_
  refine E_getR (pc := 31) hx 0 fc9 h0 rfl ⟨rfl, rfl, rfl⟩ g1332 dX11_blurs_31 ?_
  refine E_iload_n (pc := 34) hx 1 dX11_blurs_34 rfl rfl ?_
  refine I_iconst (pc := 35) hx 4 dX11_blurs_35 ?_
  refine I_iadd (pc := 36) hx dX11_blurs_36 ?_
  refine I_iald (pc := 37) hx (kt_9_0 h0) dX11_blurs_37 ?_
  refine E_iload_n (pc := 38) hx 0 dX11_blurs_38 rfl rfl ?_
  refine I_cVI  (pc := 39) hx [.int (oI (w (shR a0 0) 4)), .int (oI (w (shR a0 0) (r1 + 10))), .int (oI (w (shR a0 0) (r1 + 4))), .int (oI v3_2)] [] (ev_X11_wrongBy F a0 h0 (w (shR a0 0) 4) (w (shR a0 0) (r1 + 10)) (w (shR a0 0) (r1 + 4)) v3_2 w) vm_X11_wrongBy fc9 h0 g1628 dX11_blurs_39 rfl rfl (Nat.le_of_ble_eq_true rfl) (Nat.le_of_ble_eq_true rfl) (Nat.le_of_ble_eq_true rfl) (fun r3 => ?_)
  refine E_istore (pc := 42) hx dX11_blurs_42 (Nat.le_of_ble_eq_true rfl) rfl ?_
  refine I_iconst (pc := 44) hx 0 dX11_blurs_44 ?_
  refine E_istore (pc := 45) hx dX11_blurs_45 (Nat.le_of_ble_eq_true rfl) rfl ?_
  refine En.sub [4, 5, 3, 2, 1, 0] rfl ?_
  exact l_X11_blurs_b47 F a0 h0 p1 hx F r1 v3_2 r3 0 w
set_option maxHeartbeats 4000000 in
set_option maxRecDepth 100000 in
theorem l_X11_replies_b51_b {x : Cx} (F : Nat) (a0 : Nat) (h0 : shK a0 = 10 + 9) (p1 : Int)  (hx : CxOK x RX11 cX11_replies 4 3 0 none)  (k51 : Int → Int → aI → Option aI) (hk51 : ∀ (v2 : Int) (v3 : Int) (w : aI), En x jvV 0 0 51 [(0, .ref a0), (2, .int (oI v2)), (3, .int (oI v3))] [] (cm w) (k51 v2 v3 w)) (v2 : Int) (v3 : Int) (w : aI) : En x jvV 0 0 51 [(0, .ref a0), (2, .int (oI v2)), (3, .int (oI v3))] [] (cm w) (f_X11_replies_b51_b F a0 p1   k51 v2 v3 w) := by
  unfold f_X11_replies_b51_b
  refine E_iload_n (pc := 51) hx 2 dX11_replies_51 rfl rfl ?_
  refine E_aload_n (pc := 52) hx 0 dX11_replies_52 rfl rfl ?_
  refine I_getI (pc := 53) hx 11 11 rfl fc9 h0 rfl ⟨rfl, rfl, rfl⟩ g1343 dX11_replies_53 ?_
  refine E_gd (fun hr7 => ?_)
  refine I_icmp_ge (pc := 56) hx 89 dX11_replies_56 rfl ⟨hr7.1, hr7.2⟩ ?_ ?_
  · refine E_aload_n (pc := 89) hx 0 dX11_replies_89 rfl rfl ?_
    refine E_aload_n (pc := 90) hx 0 dX11_replies_90 rfl rfl ?_
    refine E_getR (pc := 91) hx 0 fc9 h0 rfl ⟨rfl, rfl, rfl⟩ g1332 dX11_replies_91 ?_
    refine E_iload_n (pc := 94) hx 1 dX11_replies_94 rfl rfl ?_
    refine I_iconst (pc := 95) hx 1 dX11_replies_95 ?_
    refine I_iadd (pc := 96) hx dX11_replies_96 ?_
    refine I_iald (pc := 97) hx (kt_9_0 h0) dX11_replies_97 ?_
    refine E_aload_n (pc := 98) hx 0 dX11_replies_98 rfl rfl ?_
    refine E_getR (pc := 99) hx 0 fc9 h0 rfl ⟨rfl, rfl, rfl⟩ g1332 dX11_replies_99 ?_
    refine E_iload_n (pc := 102) hx 1 dX11_replies_102 rfl rfl ?_
    refine I_iconst (pc := 103) hx 0 dX11_replies_103 ?_
    refine I_iadd (pc := 104) hx dX11_replies_104 ?_
    refine I_iald (pc := 105) hx (kt_9_0 h0) dX11_replies_105 ?_
    refine I_iconst (pc := 106) hx 1 dX11_replies_106 ?_
    refine I_iconst (pc := 107) hx 0 dX11_replies_107 ?_
    refine I_cVIW  (pc := 108) hx [.int (oI (w (shR a0 0) (v2 + 1))), .int (oI (w (shR a0 0) (v2 + 0))), .int (oI 1), .int (oI 0)] [] (ev_X11_newTune F a0 h0 (w (shR a0 0) (v2 + 1)) (w (shR a0 0) (v2 + 0)) 1 0 w) vm_X11_newTune fc9 h0 g1590 dX11_replies_108 rfl rfl (Nat.le_of_ble_eq_true rfl) (Nat.le_of_ble_eq_true rfl) (Nat.le_of_ble_eq_true rfl) (fun r8 w9 => ?_)
    refine E_istore_n (pc := 111) hx dX11_replies_111 rfl (Nat.le_of_ble_eq_true rfl) rfl ?_
    exact E_vret (pc := 112) hx dX11_replies_112 rfl rfl (Nat.le_of_ble_eq_true rfl)
  refine E_aload_n (pc := 59) hx 0 dX11_replies_59 rfl rfl ?_
  refine E_getR (pc := 60) hx 10 fc9 h0 rfl ⟨rfl, rfl, rfl⟩ g1342 dX11_replies_60 ?_
  refine E_iload_n (pc := 63) hx 2 dX11_replies_63 rfl rfl ?_
  refine E_aload_n (pc := 64) hx 0 dX11_replies_64 rfl rfl ?_
  refine E_getR (pc := 65) hx 0 fc9 h0 rfl ⟨rfl, rfl, rfl⟩ g1332 dX11_replies_65 ?_
  refine E_iload_n (pc := 68) hx 1 dX11_replies_68 rfl rfl ?_
  refine I_bipush (pc := 69) hx 11 dX11_replies_69 rfl ?_
  refine I_iadd (pc := 71) hx dX11_replies_71 ?_
  refine E_aload_n (pc := 72) hx 0 dX11_replies_72 rfl rfl ?_
  refine I_getI (pc := 73) hx 11 11 rfl fc9 h0 rfl ⟨rfl, rfl, rfl⟩ g1343 dX11_replies_73 ?_
  refine I_iadd (pc := 76) hx dX11_replies_76 ?_
  refine I_iconst (pc := 77) hx 1 dX11_replies_77 ?_
  refine I_isub (pc := 78) hx dX11_replies_78 ?_
  refine E_iload_n (pc := 79) hx 2 dX11_replies_79 rfl rfl ?_
  refine I_isub (pc := 80) hx dX11_replies_80 ?_
  refine I_iald (pc := 81) hx (kt_9_0 h0) dX11_replies_81 ?_
  refine I_iast (pc := 82) hx (kt_9_10 h0) dX11_replies_82 (fun w10 => ?_)
  refine I_iinc (pc := 83) hx 1 2 dX11_replies_83 rfl (Nat.le_of_ble_eq_true rfl) rfl ?_
  refine E_goto (pc := 86) hx 51 dX11_replies_86 rfl ?_
  refine En.sub [1, 2, 0] rfl ?_
  exact hk51 v2 (v3 + 1) w10
theorem l_X11_replies_b51 {x : Cx} (F : Nat) (a0 : Nat) (h0 : shK a0 = 10 + 9) (p1 : Int)  (hx : CxOK x RX11 cX11_replies 4 3 0 none)  : ∀ (n : Nat) (v2 : Int) (v3 : Int) (w : aI), En x jvV 0 0 51 [(0, .ref a0), (2, .int (oI v2)), (3, .int (oI v3))] [] (cm w) (f_X11_replies_b51 F a0 p1   n v2 v3 w) := by
  intro n
  induction n with
  | zero => intro v2 v3 w; exact E_none
  | succ n ih => intro v2 v3 w; exact l_X11_replies_b51_b F a0 h0 p1  hx  _ ih v2 v3 w
set_option maxHeartbeats 4000000 in
set_option maxRecDepth 100000 in
theorem ev_X11_replies (F : Nat) (a0 : Nat) (h0 : shK a0 = 10 + 9) (p1 : Int) (w : aI) : Ev yX11_replies cX11_replies 4 none 3 0 jvV [.ref a0, .int (oI p1)] (cm w) (f_X11_replies F a0 p1 w) := by
  refine Ev.of (own := RX11) (by decide +kernel) rfl (Nat.le_of_ble_eq_true rfl) (fun x hx => ?_)
  show En x jvV 0 0 0 [(0, .ref a0), (1, .int (oI p1))] [] (cm w) _
  unfold f_X11_replies
  refine E_iload_n (pc := 0) hx 1 dX11_replies_0 rfl rfl ?_
  refine I_cSI  (pc := 1) hx [.int (oI p1)] [] (ev_X11_t F p1 w) sm_X11_t g1594 dX11_replies_1 rfl rfl (Nat.le_of_ble_eq_true rfl) (Nat.le_of_ble_eq_true rfl) (Nat.le_of_ble_eq_true rfl) (fun r1 => ?_)
  refine E_istore_n (pc := 4) hx dX11_replies_4 rfl (Nat.le_of_ble_eq_true rfl) rfl ?_
  refine E_aload_n (pc := 5) hx 1 dX11_replies_5 rfl rfl ?_
  refine E_getR (pc := 6) hx 0 fc9 h0 rfl ⟨rfl, rfl, rfl⟩ g1332 dX11_replies_6 ?_
  refine E_iload_n (pc := 9) hx 0 dX11_replies_9 rfl rfl ?_
  refine I_bipush (pc := 10) hx 7 dX11_replies_10 rfl ?_
  refine I_iadd (pc := 12) hx dX11_replies_12 ?_
  refine I_iald (pc := 13) hx (kt_9_0 h0) dX11_replies_13 ?_
  refine E_gd (fun hr2 => ?_)
  refine I_if_eq (pc := 14) hx 36 dX11_replies_14 rfl hr2 ?_ ?_
  · exact E_vret (pc := 36) hx dX11_replies_36 rfl rfl (Nat.le_of_ble_eq_true rfl)
  refine E_aload_n (pc := 17) hx 1 dX11_replies_17 rfl rfl ?_
  refine E_iload_n (pc := 18) hx 2 dX11_replies_18 rfl rfl ?_
  refine I_cVI  (pc := 19) hx [.int (oI p1)] [] (ev_X11_unlike F a0 h0 p1 w) vm_X11_unlike fc9 h0 g1633 dX11_replies_19 rfl rfl (Nat.le_of_ble_eq_true rfl) (Nat.le_of_ble_eq_true rfl) (Nat.le_of_ble_eq_true rfl) (fun r3 => ?_)
  refine E_gd (fun hr4 => ?_)
  refine I_if_gt (pc := 22) hx 36 dX11_replies_22 rfl hr4 ?_ ?_
  · exact E_vret (pc := 36) hx dX11_replies_36 rfl rfl (Nat.le_of_ble_eq_true rfl)
  refine E_aload_n (pc := 25) hx 1 dX11_replies_25 rfl rfl ?_
  refine E_getR (pc := 26) hx 0 fc9 h0 rfl ⟨rfl, rfl, rfl⟩ g1332 dX11_replies_26 ?_
  refine I_iconst (pc := 29) hx 2 dX11_replies_29 ?_
  refine I_iald (pc := 30) hx (kt_9_0 h0) dX11_replies_30 ?_
  refine I_bipush (pc := 31) hx 30 dX11_replies_31 rfl ?_
  refine E_gd (fun hr5 => ?_)
  refine I_icmp_ne (pc := 33) hx 37 dX11_replies_33 rfl ⟨hr5, (by decide)⟩ ?_ ?_
  · refine E_aload_n (pc := 37) hx 1 dX11_replies_37 rfl rfl ?_
    refine E_aload_n (pc := 38) hx 1 dX11_replies_38 rfl rfl ?_
    refine E_getR (pc := 39) hx 0 fc9 h0 rfl ⟨rfl, rfl, rfl⟩ g1332 dX11_replies_39 ?_
    refine E_iload_n (pc := 42) hx 0 dX11_replies_42 rfl rfl ?_
    refine I_iconst (pc := 43) hx 2 dX11_replies_43 ?_
    refine I_iadd (pc := 44) hx dX11_replies_44 ?_
    refine I_iald (pc := 45) hx (kt_9_0 h0) dX11_replies_45 ?_
    refine I_put (pc := 46) hx 11 11 rfl .int tyX11 fc9 tyX11_ok h0 rfl ⟨rfl, rfl, rfl, rfl, pfd_I⟩ rfl rfl g1343 dX11_replies_46 (fun w6 => ?_)
    refine I_iconst (pc := 49) hx 0 dX11_replies_49 ?_
    refine E_istore_n (pc := 50) hx dX11_replies_50 rfl (Nat.le_of_ble_eq_true rfl) rfl ?_
    refine En.sub [2, 1, 0] rfl ?_
    exact l_X11_replies_b51 F a0 h0 p1 hx F r1 0 w6
  exact E_vret (pc := 36) hx dX11_replies_36 rfl rfl (Nat.le_of_ble_eq_true rfl)
set_option maxHeartbeats 4000000 in
set_option maxRecDepth 100000 in
theorem l_X11_comes_b117 {x : Cx} (F : Nat) (a0 : Nat) (h0 : shK a0 = 10 + 9) (p1 : Int)  (hx : CxOK x RX11 cX11_comes 3 4 0 none)   (v2 : Int) (w : aI) : En x jvV 0 0 117 [(0, .ref a0), (1, .int (oI p1)), (2, .int (oI v2))] [] (cm w) (f_X11_comes_b117 F a0 p1    v2 w) := by
  unfold f_X11_comes_b117
  refine E_aload_n (pc := 117) hx 0 dX11_comes_117 rfl rfl ?_
  refine E_getR (pc := 118) hx 0 fc9 h0 rfl ⟨rfl, rfl, rfl⟩ g1332 dX11_comes_118 ?_
  refine E_iload_n (pc := 121) hx 2 dX11_comes_121 rfl rfl ?_
  refine I_iconst (pc := 122) hx 3 dX11_comes_122 ?_
  refine I_iadd (pc := 123) hx dX11_comes_123 ?_
  refine I_iconst (pc := 124) hx 2 dX11_comes_124 ?_
  refine I_iast (pc := 125) hx (kt_9_0 h0) dX11_comes_125 (fun w8 => ?_)
  refine E_aload_n (pc := 126) hx 0 dX11_comes_126 rfl rfl ?_
  refine I_iconst (pc := 127) hx 5 dX11_comes_127 ?_
  refine I_iconst (pc := 128) hx 1 dX11_comes_128 ?_
  refine I_cVV  (pc := 129) hx [.int (oI 5), .int (oI 1)] [] (ev_X11_counts F a0 h0 5 1 w8) vm_X11_counts fc9 h0 g1604 dX11_comes_129 rfl rfl (Nat.le_of_ble_eq_true rfl) (Nat.le_of_ble_eq_true rfl) (Nat.le_of_ble_eq_true rfl) (fun w9 => ?_)
  refine E_aload_n (pc := 132) hx 0 dX11_comes_132 rfl rfl ?_
  refine I_bipush (pc := 133) hx 6 dX11_comes_133 rfl ?_
  refine E_aload_n (pc := 135) hx 0 dX11_comes_135 rfl rfl ?_
  refine E_iload_n (pc := 136) hx 1 dX11_comes_136 rfl rfl ?_
  refine I_cVI  (pc := 137) hx [.int (oI p1)] [.int (oI 6), .ref a0] (ev_X11_unlike F a0 h0 p1 w9) vm_X11_unlike fc9 h0 g1633 dX11_comes_137 rfl rfl (Nat.le_of_ble_eq_true rfl) (Nat.le_of_ble_eq_true rfl) (Nat.le_of_ble_eq_true rfl) (fun r10 => ?_)
  refine E_gd (fun hr11 => ?_)
  refine I_if_ne (pc := 140) hx 147 dX11_comes_140 rfl hr11 ?_ ?_
  · refine I_iconst (pc := 147) hx 0 dX11_comes_147 ?_
    refine I_cSI  (pc := 148) hx [.int (oI 0)] [.int (oI 6), .ref a0] (ev_X11_one F 0 w9) sm_X11_one g1597 dX11_comes_148 rfl rfl (Nat.le_of_ble_eq_true rfl) (Nat.le_of_ble_eq_true rfl) (Nat.le_of_ble_eq_true rfl) (fun r12 => ?_)
    refine I_cVV  (pc := 151) hx [.int (oI 6), .int (oI r12)] [] (ev_X11_counts F a0 h0 6 r12 w9) vm_X11_counts fc9 h0 g1604 dX11_comes_151 rfl rfl (Nat.le_of_ble_eq_true rfl) (Nat.le_of_ble_eq_true rfl) (Nat.le_of_ble_eq_true rfl) (fun w13 => ?_)
    refine E_aload_n (pc := 154) hx 0 dX11_comes_154 rfl rfl ?_
    refine E_iload_n (pc := 155) hx 1 dX11_comes_155 rfl rfl ?_
    refine I_cVV  (pc := 156) hx [.int (oI p1)] [] (ev_X11_replies F a0 h0 p1 w13) vm_X11_replies fc9 h0 g1637 dX11_comes_156 rfl rfl (Nat.le_of_ble_eq_true rfl) (Nat.le_of_ble_eq_true rfl) (Nat.le_of_ble_eq_true rfl) (fun w14 => ?_)
    exact E_vret (pc := 159) hx dX11_comes_159 rfl rfl (Nat.le_of_ble_eq_true rfl)
  refine I_iconst (pc := 143) hx 1 dX11_comes_143 ?_
  refine E_goto (pc := 144) hx 148 dX11_comes_144 rfl ?_
  refine I_cSI  (pc := 148) hx [.int (oI 1)] [.int (oI 6), .ref a0] (ev_X11_one F 1 w9) sm_X11_one g1597 dX11_comes_148 rfl rfl (Nat.le_of_ble_eq_true rfl) (Nat.le_of_ble_eq_true rfl) (Nat.le_of_ble_eq_true rfl) (fun r15 => ?_)
  refine I_cVV  (pc := 151) hx [.int (oI 6), .int (oI r15)] [] (ev_X11_counts F a0 h0 6 r15 w9) vm_X11_counts fc9 h0 g1604 dX11_comes_151 rfl rfl (Nat.le_of_ble_eq_true rfl) (Nat.le_of_ble_eq_true rfl) (Nat.le_of_ble_eq_true rfl) (fun w16 => ?_)
  refine E_aload_n (pc := 154) hx 0 dX11_comes_154 rfl rfl ?_
  refine E_iload_n (pc := 155) hx 1 dX11_comes_155 rfl rfl ?_
  refine I_cVV  (pc := 156) hx [.int (oI p1)] [] (ev_X11_replies F a0 h0 p1 w16) vm_X11_replies fc9 h0 g1637 dX11_comes_156 rfl rfl (Nat.le_of_ble_eq_true rfl) (Nat.le_of_ble_eq_true rfl) (Nat.le_of_ble_eq_true rfl) (fun w17 => ?_)
  exact E_vret (pc := 159) hx dX11_comes_159 rfl rfl (Nat.le_of_ble_eq_true rfl)
set_option maxHeartbeats 4000000 in
set_option maxRecDepth 100000 in
theorem ev_X11_comes (F : Nat) (a0 : Nat) (h0 : shK a0 = 10 + 9) (p1 : Int) (w : aI) : Ev yX11_comes cX11_comes 3 none 4 0 jvV [.ref a0, .int (oI p1)] (cm w) (f_X11_comes F a0 p1 w) := by
  refine Ev.of (own := RX11) (by decide +kernel) rfl (Nat.le_of_ble_eq_true rfl) (fun x hx => ?_)
  show En x jvV 0 0 0 [(0, .ref a0), (1, .int (oI p1))] [] (cm w) _
  unfold f_X11_comes
  refine E_iload_n (pc := 0) hx 1 dX11_comes_0 rfl rfl ?_
  refine I_cSI  (pc := 1) hx [.int (oI p1)] [] (ev_X11_t F p1 w) sm_X11_t g1594 dX11_comes_1 rfl rfl (Nat.le_of_ble_eq_true rfl) (Nat.le_of_ble_eq_true rfl) (Nat.le_of_ble_eq_true rfl) (fun r1 => ?_)
  refine E_istore_n (pc := 4) hx dX11_comes_4 rfl (Nat.le_of_ble_eq_true rfl) rfl ?_
  refine E_aload_n (pc := 5) hx 1 dX11_comes_5 rfl rfl ?_
  refine E_iload_n (pc := 6) hx 2 dX11_comes_6 rfl rfl ?_
  refine I_cVV  (pc := 7) hx [.int (oI p1)] [] (ev_X11_blurs F a0 h0 p1 w) vm_X11_blurs fc9 h0 g1624 dX11_comes_7 rfl rfl (Nat.le_of_ble_eq_true rfl) (Nat.le_of_ble_eq_true rfl) (Nat.le_of_ble_eq_true rfl) (fun w2 => ?_)
  refine E_aload_n (pc := 10) hx 1 dX11_comes_10 rfl rfl ?_
  refine E_getR (pc := 11) hx 0 fc9 h0 rfl ⟨rfl, rfl, rfl⟩ g1332 dX11_comes_11 ?_
  refine E_iload_n (pc := 14) hx 0 dX11_comes_14 rfl rfl ?_
  refine I_iconst (pc := 15) hx 5 dX11_comes_15 ?_
  refine I_iadd (pc := 16) hx dX11_comes_16 ?_
  refine I_iconst (pc := 17) hx (-1) dX11_comes_17 ?_
  refine I_iast (pc := 18) hx (kt_9_0 h0) dX11_comes_18 (fun w3 => ?_)
  refine E_aload_n (pc := 19) hx 1 dX11_comes_19 rfl rfl ?_
  refine E_getR (pc := 20) hx 0 fc9 h0 rfl ⟨rfl, rfl, rfl⟩ g1332 dX11_comes_20 ?_
  refine E_iload_n (pc := 23) hx 0 dX11_comes_23 rfl rfl ?_
  refine I_iconst (pc := 24) hx 3 dX11_comes_24 ?_
  refine I_iadd (pc := 25) hx dX11_comes_25 ?_
  refine I_iconst (pc := 26) hx 0 dX11_comes_26 ?_
  refine I_iast (pc := 27) hx (kt_9_0 h0) dX11_comes_27 (fun w4 => ?_)
  refine E_aload_n (pc := 28) hx 1 dX11_comes_28 rfl rfl ?_
  refine E_getR (pc := 29) hx 0 fc9 h0 rfl ⟨rfl, rfl, rfl⟩ g1332 dX11_comes_29 ?_
  refine E_iload_n (pc := 32) hx 0 dX11_comes_32 rfl rfl ?_
  refine I_iconst (pc := 33) hx 4 dX11_comes_33 ?_
  refine I_iadd (pc := 34) hx dX11_comes_34 ?_
  refine I_iald (pc := 35) hx (kt_9_0 h0) dX11_comes_35 ?_
  refine E_aload_n (pc := 36) hx 1 dX11_comes_36 rfl rfl ?_
  refine E_getR (pc := 37) hx 0 fc9 h0 rfl ⟨rfl, rfl, rfl⟩ g1332 dX11_comes_37 ?_
  refine E_iload_n (pc := 40) hx 0 dX11_comes_40 rfl rfl ?_
  refine I_iconst (pc := 41) hx 1 dX11_comes_41 ?_
  refine I_iadd (pc := 42) hx dX11_comes_42 ?_
  refine I_iald (pc := 43) hx (kt_9_0 h0) dX11_comes_43 ?_
  refine E_gd (fun hr5 => ?_)
  refine I_icmp_eq (pc := 44) hx 48 dX11_comes_44 rfl ⟨hr5.1, hr5.2⟩ ?_ ?_
  · refine E_aload_n (pc := 48) hx 1 dX11_comes_48 rfl rfl ?_
    refine E_iload_n (pc := 49) hx 2 dX11_comes_49 rfl rfl ?_
    refine I_cVI  (pc := 50) hx [.int (oI p1)] [] (ev_X11_unlike F a0 h0 p1 w4) vm_X11_unlike fc9 h0 g1633 dX11_comes_50 rfl rfl (Nat.le_of_ble_eq_true rfl) (Nat.le_of_ble_eq_true rfl) (Nat.le_of_ble_eq_true rfl) (fun r6 => ?_)
    refine E_gd (fun hr7 => ?_)
    refine I_if_le (pc := 53) hx 117 dX11_comes_53 rfl hr7 ?_ ?_
    · refine En.sub [1, 2, 0] rfl ?_
      exact l_X11_comes_b117 F a0 h0 p1 hx r1 w4
    refine E_aload_n (pc := 56) hx 1 dX11_comes_56 rfl rfl ?_
    refine E_getR (pc := 57) hx 0 fc9 h0 rfl ⟨rfl, rfl, rfl⟩ g1332 dX11_comes_57 ?_
    refine E_iload_n (pc := 60) hx 0 dX11_comes_60 rfl rfl ?_
    refine I_bipush (pc := 61) hx 8 dX11_comes_61 rfl ?_
    refine I_iadd (pc := 63) hx dX11_comes_63 ?_
    refine I_iald (pc := 64) hx (kt_9_0 h0) dX11_comes_64 ?_
    refine E_aload_n (pc := 65) hx 1 dX11_comes_65 rfl rfl ?_
    refine E_getR (pc := 66) hx 0 fc9 h0 rfl ⟨rfl, rfl, rfl⟩ g1332 dX11_comes_66 ?_
    refine I_bipush (pc := 69) hx 6 dX11_comes_69 rfl ?_
    refine I_iald (pc := 71) hx (kt_9_0 h0) dX11_comes_71 ?_
    refine E_gd (fun hr18 => ?_)
    refine I_icmp_ge (pc := 72) hx 117 dX11_comes_72 rfl ⟨hr18.1, hr18.2⟩ ?_ ?_
    · refine En.sub [1, 2, 0] rfl ?_
      exact l_X11_comes_b117 F a0 h0 p1 hx r1 w4
    refine E_aload_n (pc := 75) hx 1 dX11_comes_75 rfl rfl ?_
    refine E_getR (pc := 76) hx 0 fc9 h0 rfl ⟨rfl, rfl, rfl⟩ g1332 dX11_comes_76 ?_
    refine E_iload_n (pc := 79) hx 0 dX11_comes_79 rfl rfl ?_
    refine I_bipush (pc := 80) hx 8 dX11_comes_80 rfl ?_
    refine I_iadd (pc := 82) hx dX11_comes_82 ?_
    refine I_ltv (fun u19 => ?_)
    refine E_dup2 (pc := 83) hx dX11_comes_83 rfl rfl ?_
    refine I_iald (pc := 84) hx (kt_9_0 h0) dX11_comes_84 ?_
    refine I_iconst (pc := 85) hx 1 dX11_comes_85 ?_
    refine I_iadd (pc := 86) hx dX11_comes_86 ?_
    refine I_iast (pc := 87) hx (kt_9_0 h0) dX11_comes_87 (fun w20 => ?_)
    refine E_aload_n (pc := 88) hx 1 dX11_comes_88 rfl rfl ?_
    refine E_iload_n (pc := 89) hx 2 dX11_comes_89 rfl rfl ?_
    refine I_cVV  (pc := 90) hx [.int (oI p1)] [] (ev_X11_hearsAsSent F a0 h0 p1 w20) vm_X11_hearsAsSent fc9 h0 g1600 dX11_comes_90 rfl rfl (Nat.le_of_ble_eq_true rfl) (Nat.le_of_ble_eq_true rfl) (Nat.le_of_ble_eq_true rfl) (fun w21 => ?_)
    refine E_aload_n (pc := 93) hx 1 dX11_comes_93 rfl rfl ?_
    refine E_getR (pc := 94) hx 0 fc9 h0 rfl ⟨rfl, rfl, rfl⟩ g1332 dX11_comes_94 ?_
    refine E_iload_n (pc := 97) hx 0 dX11_comes_97 rfl rfl ?_
    refine I_iconst (pc := 98) hx 4 dX11_comes_98 ?_
    refine I_iadd (pc := 99) hx dX11_comes_99 ?_
    refine E_aload_n (pc := 100) hx 1 dX11_comes_100 rfl rfl ?_
    refine E_getR (pc := 101) hx 0 fc9 h0 rfl ⟨rfl, rfl, rfl⟩ g1332 dX11_comes_101 ?_
    refine E_iload_n (pc := 104) hx 0 dX11_comes_104 rfl rfl ?_
    refine I_iconst (pc := 105) hx 0 dX11_comes_105 ?_
    refine I_iadd (pc := 106) hx dX11_comes_106 ?_
    refine I_iald (pc := 107) hx (kt_9_0 h0) dX11_comes_107 ?_
    refine I_iast (pc := 108) hx (kt_9_0 h0) dX11_comes_108 (fun w22 => ?_)
    refine E_aload_n (pc := 109) hx 1 dX11_comes_109 rfl rfl ?_
    refine I_bipush (pc := 110) hx 7 dX11_comes_110 rfl ?_
    refine I_iconst (pc := 112) hx 1 dX11_comes_112 ?_
    refine I_cVV  (pc := 113) hx [.int (oI 7), .int (oI 1)] [] (ev_X11_counts F a0 h0 7 1 w22) vm_X11_counts fc9 h0 g1604 dX11_comes_113 rfl rfl (Nat.le_of_ble_eq_true rfl) (Nat.le_of_ble_eq_true rfl) (Nat.le_of_ble_eq_true rfl) (fun w23 => ?_)
    exact E_vret (pc := 116) hx dX11_comes_116 rfl rfl (Nat.le_of_ble_eq_true rfl)
  exact E_vret (pc := 47) hx dX11_comes_47 rfl rfl (Nat.le_of_ble_eq_true rfl)
set_option maxHeartbeats 4000000 in
set_option maxRecDepth 100000 in
theorem ev_X11_feeAt (F : Nat) (a0 : Nat) (h0 : shK a0 = 10 + 9) (p1 : Int) (p2 : Int) (w : aI) : Ev yX11_feeAt cX11_feeAt 3 (some .int) 2 0 (jvI w) [.ref a0, .int (oI p1), .int (oI p2)] (cm w) (f_X11_feeAt F a0 p1 p2 w) := by
  refine Ev.of (own := RX11) (by decide +kernel) rfl (Nat.le_of_ble_eq_true rfl) (fun x hx => ?_)
  show En x (jvI w) 0 0 0 [(0, .ref a0), (1, .int (oI p1)), (2, .int (oI p2))] [] (cm w) _
  unfold f_X11_feeAt
  refine E_aload_n (pc := 0) hx 0 dX11_feeAt_0 rfl rfl ?_
  refine E_getR (pc := 1) hx 0 fc9 h0 rfl ⟨rfl, rfl, rfl⟩ g1332 dX11_feeAt_1 ?_
  refine E_iload_n (pc := 4) hx 2 dX11_feeAt_4 rfl rfl ?_
  refine I_cSI  (pc := 5) hx [.int (oI p2)] [.ref (shR a0 0)] (ev_X11_r F p2 w) sm_X11_r g1322 dX11_feeAt_5 rfl rfl (Nat.le_of_ble_eq_true rfl) (Nat.le_of_ble_eq_true rfl) (Nat.le_of_ble_eq_true rfl) (fun r1 => ?_)
  refine I_bipush (pc := 8) hx 9 dX11_feeAt_8 rfl ?_
  refine I_iadd (pc := 10) hx dX11_feeAt_10 ?_
  refine I_iald (pc := 11) hx (kt_9_0 h0) dX11_feeAt_11 ?_
  refine E_aload_n (pc := 12) hx 0 dX11_feeAt_12 rfl rfl ?_
  refine E_iload_n (pc := 13) hx 1 dX11_feeAt_13 rfl rfl ?_
  refine I_cVI  (pc := 14) hx [.int (oI p1)] [.int (oI (w (shR a0 0) (r1 + 9)))] (ev_X11_bars F a0 h0 p1 w) vm_X11_bars fc9 h0 g1653 dX11_feeAt_14 rfl rfl (Nat.le_of_ble_eq_true rfl) (Nat.le_of_ble_eq_true rfl) (Nat.le_of_ble_eq_true rfl) (fun r2 => ?_)
  refine I_imul (pc := 17) hx dX11_feeAt_17 ?_
  exact E_iret (pc := 18) hx dX11_feeAt_18 rfl rfl (Nat.le_of_ble_eq_true rfl)
set_option maxHeartbeats 4000000 in
set_option maxRecDepth 100000 in
theorem ev_X11_purseFor (F : Nat) (a0 : Nat) (h0 : shK a0 = 10 + 9) (p1 : Int) (w : aI) : Ev yX11_purseFor cX11_purseFor 2 (some .int) 1 0 (jvI w) [.ref a0, .int (oI p1)] (cm w) (f_X11_purseFor F a0 p1 w) := by
  refine Ev.of (own := RX11) (by decide +kernel) rfl (Nat.le_of_ble_eq_true rfl) (fun x hx => ?_)
  show En x (jvI w) 0 0 0 [(0, .ref a0), (1, .int (oI p1))] [] (cm w) _
  unfold f_X11_purseFor
  refine E_aload_n (pc := 0) hx 0 dX11_purseFor_0 rfl rfl ?_
  refine E_getR (pc := 1) hx 0 fc9 h0 rfl ⟨rfl, rfl, rfl⟩ g1332 dX11_purseFor_1 ?_
  refine E_aload_n (pc := 4) hx 0 dX11_purseFor_4 rfl rfl ?_
  refine E_getR (pc := 5) hx 0 fc9 h0 rfl ⟨rfl, rfl, rfl⟩ g1332 dX11_purseFor_5 ?_
  refine E_iload_n (pc := 8) hx 1 dX11_purseFor_8 rfl rfl ?_
  refine I_cSI  (pc := 9) hx [.int (oI p1)] [.ref (shR a0 0), .ref (shR a0 0)] (ev_X11_t F p1 w) sm_X11_t g1594 dX11_purseFor_9 rfl rfl (Nat.le_of_ble_eq_true rfl) (Nat.le_of_ble_eq_true rfl) (Nat.le_of_ble_eq_true rfl) (fun r1 => ?_)
  refine I_iconst (pc := 12) hx 0 dX11_purseFor_12 ?_
  refine I_iadd (pc := 13) hx dX11_purseFor_13 ?_
  refine I_iald (pc := 14) hx (kt_9_0 h0) dX11_purseFor_14 ?_
  refine I_cSI  (pc := 15) hx [.int (oI (w (shR a0 0) (r1 + 0)))] [.ref (shR a0 0)] (ev_X11_r F (w (shR a0 0) (r1 + 0)) w) sm_X11_r g1322 dX11_purseFor_15 rfl rfl (Nat.le_of_ble_eq_true rfl) (Nat.le_of_ble_eq_true rfl) (Nat.le_of_ble_eq_true rfl) (fun r2 => ?_)
  refine I_bipush (pc := 18) hx 10 dX11_purseFor_18 rfl ?_
  refine I_iadd (pc := 20) hx dX11_purseFor_20 ?_
  refine I_iald (pc := 21) hx (kt_9_0 h0) dX11_purseFor_21 ?_
  exact E_iret (pc := 22) hx dX11_purseFor_22 rfl rfl (Nat.le_of_ble_eq_true rfl)
set_option maxHeartbeats 4000000 in
set_option maxRecDepth 100000 in
theorem l_X11_firstAt_b83 {x : Cx} (F : Nat) (a0 : Nat) (h0 : shK a0 = 10 + 9) (p1 : Int)  (hx : CxOK x RX11 cX11_firstAt 5 6 0 (some .int)) (k4 : Int → Int → aI → Option (Int × aI)) (hk4 : ∀ (v2 : Int) (v3 : Int) (w : aI), En x jvIW 0 0 4 [(0, .ref a0), (1, .int (oI p1)), (2, .int (oI v2)), (3, .int (oI v3))] [] (cm w) (k4 v2 v3 w))  (v2 : Int) (v3 : Int) (z0 : Int) (w : aI) : En x jvIW 0 0 83 [(0, .ref a0), (1, .int (oI p1)), (2, .int (oI v2)), (3, .int (oI v3))] [.int (oI z0)] (cm w) (f_X11_firstAt_b83 F a0 p1  k4  v2 v3 z0 w) := by
  unfold f_X11_firstAt_b83
  refine E_istore (pc := 83) hx dX11_firstAt_83 (Nat.le_of_ble_eq_true rfl) rfl ?_
  refine E_iload (pc := 85) hx 0 dX11_firstAt_85 rfl ?_
  refine E_gd (fun hr7 => ?_)
  refine I_if_eq (pc := 87) hx 94 dX11_firstAt_87 rfl hr7 ?_ ?_
  · refine E_iload_n (pc := 94) hx 3 dX11_firstAt_94 rfl rfl ?_
    refine E_istore_n (pc := 95) hx dX11_firstAt_95 rfl (Nat.le_of_ble_eq_true rfl) rfl ?_
    refine I_iinc (pc := 96) hx 1 4 dX11_firstAt_96 rfl (Nat.le_of_ble_eq_true rfl) rfl ?_
    refine E_goto (pc := 99) hx 4 dX11_firstAt_99 rfl ?_
    refine En.sub [3, 4, 1, 0] rfl ?_
    exact hk4 v2 (v3 + 1) w
  refine E_iload_n (pc := 90) hx 4 dX11_firstAt_90 rfl rfl ?_
  refine E_goto (pc := 91) hx 95 dX11_firstAt_91 rfl ?_
  refine E_istore_n (pc := 95) hx dX11_firstAt_95 rfl (Nat.le_of_ble_eq_true rfl) rfl ?_
  refine I_iinc (pc := 96) hx 1 4 dX11_firstAt_96 rfl (Nat.le_of_ble_eq_true rfl) rfl ?_
  refine E_goto (pc := 99) hx 4 dX11_firstAt_99 rfl ?_
  refine En.sub [3, 4, 1, 0] rfl ?_
  exact hk4 v3 (v3 + 1) w
set_option maxHeartbeats 4000000 in
set_option maxRecDepth 100000 in
theorem l_X11_firstAt_b82 {x : Cx} (F : Nat) (a0 : Nat) (h0 : shK a0 = 10 + 9) (p1 : Int)  (hx : CxOK x RX11 cX11_firstAt 5 6 0 (some .int)) (k4 : Int → Int → aI → Option (Int × aI)) (hk4 : ∀ (v2 : Int) (v3 : Int) (w : aI), En x jvIW 0 0 4 [(0, .ref a0), (1, .int (oI p1)), (2, .int (oI v2)), (3, .int (oI v3))] [] (cm w) (k4 v2 v3 w))  (v2 : Int) (v3 : Int) (w : aI) : En x jvIW 0 0 82 [(0, .ref a0), (1, .int (oI p1)), (2, .int (oI v2)), (3, .int (oI v3))] [] (cm w) (f_X11_firstAt_b82 F a0 p1  k4  v2 v3 w) := by
  unfold f_X11_firstAt_b82
  refine I_iconst (pc := 82) hx 0 dX11_firstAt_82 ?_
  exact l_X11_firstAt_b83 F a0 h0 p1 hx k4 hk4 v2 v3 0 w
set_option maxHeartbeats 4000000 in
set_option maxRecDepth 100000 in
theorem l_X11_firstAt_b44 {x : Cx} (F : Nat) (a0 : Nat) (h0 : shK a0 = 10 + 9) (p1 : Int)  (hx : CxOK x RX11 cX11_firstAt 5 6 0 (some .int)) (k4 : Int → Int → aI → Option (Int × aI)) (hk4 : ∀ (v2 : Int) (v3 : Int) (w : aI), En x jvIW 0 0 4 [(0, .ref a0), (1, .int (oI p1)), (2, .int (oI v2)), (3, .int (oI v3))] [] (cm w) (k4 v2 v3 w))  (v2 : Int) (v3 : Int) (w : aI) : En x jvIW 0 0 44 [(0, .ref a0), (1, .int (oI p1)), (2, .int (oI v2)), (3, .int (oI v3))] [] (cm w) (f_X11_firstAt_b44 F a0 p1  k4  v2 v3 w) := by
  unfold f_X11_firstAt_b44
  refine E_aload_n (pc := 44) hx 0 dX11_firstAt_44 rfl rfl ?_
  refine E_iload_n (pc := 45) hx 3 dX11_firstAt_45 rfl rfl ?_
  refine I_cVI  (pc := 46) hx [.int (oI v3)] [] (ev_X11_purseFor F a0 h0 v3 w) vm_X11_purseFor fc9 h0 g1661 dX11_firstAt_46 rfl rfl (Nat.le_of_ble_eq_true rfl) (Nat.le_of_ble_eq_true rfl) (Nat.le_of_ble_eq_true rfl) (fun r4 => ?_)
  refine E_aload_n (pc := 49) hx 0 dX11_firstAt_49 rfl rfl ?_
  refine E_iload_n (pc := 50) hx 3 dX11_firstAt_50 rfl rfl ?_
  refine E_iload_n (pc := 51) hx 1 dX11_firstAt_51 rfl rfl ?_
  refine I_cVI  (pc := 52) hx [.int (oI v3), .int (oI p1)] [.int (oI r4)] (ev_X11_feeAt F a0 h0 v3 p1 w) vm_X11_feeAt fc9 h0 g1665 dX11_firstAt_52 rfl rfl (Nat.le_of_ble_eq_true rfl) (Nat.le_of_ble_eq_true rfl) (Nat.le_of_ble_eq_true rfl) (fun r5 => ?_)
  refine E_gd (fun hr6 => ?_)
  refine I_icmp_lt (pc := 55) hx 82 dX11_firstAt_55 rfl ⟨hr6.1, hr6.2⟩ ?_ ?_
  · exact l_X11_firstAt_b82 F a0 h0 p1 hx k4 hk4 v2 v3 w
  refine E_aload_n (pc := 58) hx 0 dX11_firstAt_58 rfl rfl ?_
  refine E_iload_n (pc := 59) hx 1 dX11_firstAt_59 rfl rfl ?_
  refine E_aload_n (pc := 60) hx 0 dX11_firstAt_60 rfl rfl ?_
  refine E_getR (pc := 61) hx 0 fc9 h0 rfl ⟨rfl, rfl, rfl⟩ g1332 dX11_firstAt_61 ?_
  refine E_iload_n (pc := 64) hx 3 dX11_firstAt_64 rfl rfl ?_
  refine I_cSI  (pc := 65) hx [.int (oI v3)] [.ref (shR a0 0), .int (oI p1), .ref a0] (ev_X11_t F v3 w) sm_X11_t g1594 dX11_firstAt_65 rfl rfl (Nat.le_of_ble_eq_true rfl) (Nat.le_of_ble_eq_true rfl) (Nat.le_of_ble_eq_true rfl) (fun r8 => ?_)
  refine I_iconst (pc := 68) hx 1 dX11_firstAt_68 ?_
  refine I_iadd (pc := 69) hx dX11_firstAt_69 ?_
  refine I_iald (pc := 70) hx (kt_9_0 h0) dX11_firstAt_70 ?_
  refine I_cVIW  (pc := 71) hx [.int (oI p1), .int (oI (w (shR a0 0) (r8 + 1)))] [] (ev_X11_nextTo F a0 h0 p1 (w (shR a0 0) (r8 + 1)) w) vm_X11_nextTo fc9 h0 g1669 dX11_firstAt_71 rfl rfl (Nat.le_of_ble_eq_true rfl) (Nat.le_of_ble_eq_true rfl) (Nat.le_of_ble_eq_true rfl) (fun r9 w10 => ?_)
  refine I_iconst (pc := 74) hx (-1) dX11_firstAt_74 ?_
  refine E_gd (fun hr11 => ?_)
  refine I_icmp_eq (pc := 75) hx 82 dX11_firstAt_75 rfl ⟨hr11, (by decide)⟩ ?_ ?_
  · exact l_X11_firstAt_b82 F a0 h0 p1 hx k4 hk4 v2 v3 w10
  refine I_iconst (pc := 78) hx 1 dX11_firstAt_78 ?_
  refine E_goto (pc := 79) hx 83 dX11_firstAt_79 rfl ?_
  exact l_X11_firstAt_b83 F a0 h0 p1 hx k4 hk4 v2 v3 1 w10
set_option maxHeartbeats 4000000 in
set_option maxRecDepth 100000 in
theorem l_X11_firstAt_b4_b {x : Cx} (F : Nat) (a0 : Nat) (h0 : shK a0 = 10 + 9) (p1 : Int)  (hx : CxOK x RX11 cX11_firstAt 5 6 0 (some .int))  (k4 : Int → Int → aI → Option (Int × aI)) (hk4 : ∀ (v2 : Int) (v3 : Int) (w : aI), En x jvIW 0 0 4 [(0, .ref a0), (1, .int (oI p1)), (2, .int (oI v2)), (3, .int (oI v3))] [] (cm w) (k4 v2 v3 w)) (v2 : Int) (v3 : Int) (w : aI) : En x jvIW 0 0 4 [(0, .ref a0), (1, .int (oI p1)), (2, .int (oI v2)), (3, .int (oI v3))] [] (cm w) (f_X11_firstAt_b4_b F a0 p1   k4 v2 v3 w) := by
  unfold f_X11_firstAt_b4_b
  refine E_iload_n (pc := 4) hx 3 dX11_firstAt_4 rfl rfl ?_
  refine E_aload_n (pc := 5) hx 0 dX11_firstAt_5 rfl rfl ?_
  refine E_getR (pc := 6) hx 0 fc9 h0 rfl ⟨rfl, rfl, rfl⟩ g1332 dX11_firstAt_6 ?_
  refine I_iconst (pc := 9) hx 2 dX11_firstAt_9 ?_
  refine I_iald (pc := 10) hx (kt_9_0 h0) dX11_firstAt_10 ?_
  refine E_gd (fun hr1 => ?_)
  refine I_icmp_ge (pc := 11) hx 102 dX11_firstAt_11 rfl ⟨hr1.1, hr1.2⟩ ?_ ?_
  · refine E_iload_n (pc := 102) hx 2 dX11_firstAt_102 rfl rfl ?_
    exact E_iret (pc := 103) hx dX11_firstAt_103 rfl rfl (Nat.le_of_ble_eq_true rfl)
  refine E_aload_n (pc := 14) hx 0 dX11_firstAt_14 rfl rfl ?_
  refine E_iload_n (pc := 15) hx 3 dX11_firstAt_15 rfl rfl ?_
  refine E_iload_n (pc := 16) hx 1 dX11_firstAt_16 rfl rfl ?_
  refine I_cVB  (pc := 17) hx [.int (oI v3), .int (oI p1)] [] (ev_X11_waitsAt F a0 h0 v3 p1 w) vm_X11_waitsAt fc9 h0 g1649 dX11_firstAt_17 rfl rfl (Nat.le_of_ble_eq_true rfl) (Nat.le_of_ble_eq_true rfl) (Nat.le_of_ble_eq_true rfl) (fun r2 => ?_)
  refine I_ifB_eq (pc := 20) hx 96 dX11_firstAt_20 rfl ?_ ?_
  · refine I_iinc (pc := 96) hx 1 3 dX11_firstAt_96 rfl (Nat.le_of_ble_eq_true rfl) rfl ?_
    refine E_goto (pc := 99) hx 4 dX11_firstAt_99 rfl ?_
    refine En.sub [1, 2, 3, 0] rfl ?_
    exact hk4 v2 (v3 + 1) w
  refine E_iload_n (pc := 23) hx 2 dX11_firstAt_23 rfl rfl ?_
  refine I_iconst (pc := 24) hx (-1) dX11_firstAt_24 ?_
  refine E_gd (fun hr3 => ?_)
  refine I_icmp_eq (pc := 25) hx 44 dX11_firstAt_25 rfl ⟨hr3, (by decide)⟩ ?_ ?_
  · exact l_X11_firstAt_b44 F a0 h0 p1 hx k4 hk4 v2 v3 w
  refine E_aload_n (pc := 28) hx 0 dX11_firstAt_28 rfl rfl ?_
  refine E_iload_n (pc := 29) hx 3 dX11_firstAt_29 rfl rfl ?_
  refine I_cVI  (pc := 30) hx [.int (oI v3)] [] (ev_X11_bars F a0 h0 v3 w) vm_X11_bars fc9 h0 g1653 dX11_firstAt_30 rfl rfl (Nat.le_of_ble_eq_true rfl) (Nat.le_of_ble_eq_true rfl) (Nat.le_of_ble_eq_true rfl) (fun r12 => ?_)
  refine E_aload_n (pc := 33) hx 0 dX11_firstAt_33 rfl rfl ?_
  refine E_iload_n (pc := 34) hx 2 dX11_firstAt_34 rfl rfl ?_
  refine I_cVI  (pc := 35) hx [.int (oI v2)] [.int (oI r12)] (ev_X11_bars F a0 h0 v2 w) vm_X11_bars fc9 h0 g1653 dX11_firstAt_35 rfl rfl (Nat.le_of_ble_eq_true rfl) (Nat.le_of_ble_eq_true rfl) (Nat.le_of_ble_eq_true rfl) (fun r13 => ?_)
  refine E_gd (fun hr14 => ?_)
  refine I_icmp_gt (pc := 38) hx 44 dX11_firstAt_38 rfl ⟨hr14.1, hr14.2⟩ ?_ ?_
  · exact l_X11_firstAt_b44 F a0 h0 p1 hx k4 hk4 v2 v3 w
  refine E_goto (pc := 41) hx 96 dX11_firstAt_41 rfl ?_
  refine I_iinc (pc := 96) hx 1 3 dX11_firstAt_96 rfl (Nat.le_of_ble_eq_true rfl) rfl ?_
  refine E_goto (pc := 99) hx 4 dX11_firstAt_99 rfl ?_
  refine En.sub [1, 2, 3, 0] rfl ?_
  exact hk4 v2 (v3 + 1) w
theorem l_X11_firstAt_b4 {x : Cx} (F : Nat) (a0 : Nat) (h0 : shK a0 = 10 + 9) (p1 : Int)  (hx : CxOK x RX11 cX11_firstAt 5 6 0 (some .int))  : ∀ (n : Nat) (v2 : Int) (v3 : Int) (w : aI), En x jvIW 0 0 4 [(0, .ref a0), (1, .int (oI p1)), (2, .int (oI v2)), (3, .int (oI v3))] [] (cm w) (f_X11_firstAt_b4 F a0 p1   n v2 v3 w) := by
  intro n
  induction n with
  | zero => intro v2 v3 w; exact E_none
  | succ n ih => intro v2 v3 w; exact l_X11_firstAt_b4_b F a0 h0 p1  hx  _ ih v2 v3 w
set_option maxHeartbeats 4000000 in
set_option maxRecDepth 100000 in
theorem ev_X11_firstAt (F : Nat) (a0 : Nat) (h0 : shK a0 = 10 + 9) (p1 : Int) (w : aI) : Ev yX11_firstAt cX11_firstAt 5 (some .int) 6 0 jvIW [.ref a0, .int (oI p1)] (cm w) (f_X11_firstAt F a0 p1 w) := by
  refine Ev.of (own := RX11) (by decide +kernel) rfl (Nat.le_of_ble_eq_true rfl) (fun x hx => ?_)
  show En x jvIW 0 0 0 [(0, .ref a0), (1, .int (oI p1))] [] (cm w) _
  unfold f_X11_firstAt
  refine I_iconst (pc := 0) hx (-1) dX11_firstAt_0 ?_
  refine E_istore_n (pc := 1) hx dX11_firstAt_1 rfl (Nat.le_of_ble_eq_true rfl) rfl ?_
  refine I_iconst (pc := 2) hx 0 dX11_firstAt_2 ?_
  refine E_istore_n (pc := 3) hx dX11_firstAt_3 rfl (Nat.le_of_ble_eq_true rfl) rfl ?_
  refine En.sub [2, 3, 1, 0] rfl ?_
  exact l_X11_firstAt_b4 F a0 h0 p1 hx F (-1) 0 w
set_option maxHeartbeats 4000000 in
set_option maxRecDepth 100000 in
theorem ev_X11_whistles (F : Nat) (a0 : Nat) (h0 : shK a0 = 10 + 9) (p1 : Int) (p2 : Int) (w : aI) : Ev yX11_whistles cX11_whistles 7 none 6 0 jvV [.ref a0, .int (oI p1), .int (oI p2)] (cm w) (f_X11_whistles F a0 p1 p2 w) := by
  refine Ev.of (own := RX11) (by decide +kernel) rfl (Nat.le_of_ble_eq_true rfl) (fun x hx => ?_)
  show En x jvV 0 0 0 [(0, .ref a0), (1, .int (oI p1)), (2, .int (oI p2))] [] (cm w) _
  unfold f_X11_whistles
  refine E_iload_n (pc := 0) hx 1 dX11_whistles_0 rfl rfl ?_
  refine I_cSI  (pc := 1) hx [.int (oI p1)] [] (ev_X11_t F p1 w) sm_X11_t g1594 dX11_whistles_1 rfl rfl (Nat.le_of_ble_eq_true rfl) (Nat.le_of_ble_eq_true rfl) (Nat.le_of_ble_eq_true rfl) (fun r1 => ?_)
  refine E_istore_n (pc := 4) hx dX11_whistles_4 rfl (Nat.le_of_ble_eq_true rfl) rfl ?_
  refine E_aload_n (pc := 5) hx 1 dX11_whistles_5 rfl rfl ?_
  refine E_iload_n (pc := 6) hx 3 dX11_whistles_6 rfl rfl ?_
  refine E_aload_n (pc := 7) hx 1 dX11_whistles_7 rfl rfl ?_
  refine E_getR (pc := 8) hx 0 fc9 h0 rfl ⟨rfl, rfl, rfl⟩ g1332 dX11_whistles_8 ?_
  refine E_iload_n (pc := 11) hx 0 dX11_whistles_11 rfl rfl ?_
  refine I_iconst (pc := 12) hx 1 dX11_whistles_12 ?_
  refine I_iadd (pc := 13) hx dX11_whistles_13 ?_
  refine I_iald (pc := 14) hx (kt_9_0 h0) dX11_whistles_14 ?_
  refine I_cVIW  (pc := 15) hx [.int (oI p2), .int (oI (w (shR a0 0) (r1 + 1)))] [] (ev_X11_nextTo F a0 h0 p2 (w (shR a0 0) (r1 + 1)) w) vm_X11_nextTo fc9 h0 g1669 dX11_whistles_15 rfl rfl (Nat.le_of_ble_eq_true rfl) (Nat.le_of_ble_eq_true rfl) (Nat.le_of_ble_eq_true rfl) (fun r2 w3 => ?_)
  refine E_istore (pc := 18) hx dX11_whistles_18 (Nat.le_of_ble_eq_true rfl) rfl ?_
  refine E_aload_n (pc := 20) hx 2 dX11_whistles_20 rfl rfl ?_
  refine E_iload_n (pc := 21) hx 3 dX11_whistles_21 rfl rfl ?_
  refine E_iload_n (pc := 22) hx 4 dX11_whistles_22 rfl rfl ?_
  refine I_cVI  (pc := 23) hx [.int (oI p1), .int (oI p2)] [] (ev_X11_feeAt F a0 h0 p1 p2 w3) vm_X11_feeAt fc9 h0 g1665 dX11_whistles_23 rfl rfl (Nat.le_of_ble_eq_true rfl) (Nat.le_of_ble_eq_true rfl) (Nat.le_of_ble_eq_true rfl) (fun r4 => ?_)
  refine E_istore (pc := 26) hx dX11_whistles_26 (Nat.le_of_ble_eq_true rfl) rfl ?_
  refine E_aload_n (pc := 28) hx 3 dX11_whistles_28 rfl rfl ?_
  refine E_getR (pc := 29) hx 0 fc9 h0 rfl ⟨rfl, rfl, rfl⟩ g1332 dX11_whistles_29 ?_
  refine E_aload_n (pc := 32) hx 3 dX11_whistles_32 rfl rfl ?_
  refine E_getR (pc := 33) hx 0 fc9 h0 rfl ⟨rfl, rfl, rfl⟩ g1332 dX11_whistles_33 ?_
  refine E_iload_n (pc := 36) hx 2 dX11_whistles_36 rfl rfl ?_
  refine I_iconst (pc := 37) hx 0 dX11_whistles_37 ?_
  refine I_iadd (pc := 38) hx dX11_whistles_38 ?_
  refine I_iald (pc := 39) hx (kt_9_0 h0) dX11_whistles_39 ?_
  refine I_cSI  (pc := 40) hx [.int (oI (w3 (shR a0 0) (r1 + 0)))] [.ref (shR a0 0)] (ev_X11_r F (w3 (shR a0 0) (r1 + 0)) w3) sm_X11_r g1322 dX11_whistles_40 rfl rfl (Nat.le_of_ble_eq_true rfl) (Nat.le_of_ble_eq_true rfl) (Nat.le_of_ble_eq_true rfl) (fun r5 => ?_)
  refine I_bipush (pc := 43) hx 10 dX11_whistles_43 rfl ?_
  refine I_iadd (pc := 45) hx dX11_whistles_45 ?_
  refine I_ltv (fun u6 => ?_)
  refine E_dup2 (pc := 46) hx dX11_whistles_46 rfl rfl ?_
  refine I_iald (pc := 47) hx (kt_9_0 h0) dX11_whistles_47 ?_
  refine E_iload (pc := 48) hx 0 dX11_whistles_48 rfl ?_
  refine I_isub (pc := 50) hx dX11_whistles_50 ?_
  refine I_iast (pc := 51) hx (kt_9_0 h0) dX11_whistles_51 (fun w7 => ?_)
  refine E_aload_n (pc := 52) hx 3 dX11_whistles_52 rfl rfl ?_
  refine E_getR (pc := 53) hx 0 fc9 h0 rfl ⟨rfl, rfl, rfl⟩ g1332 dX11_whistles_53 ?_
  refine E_iload_n (pc := 56) hx 5 dX11_whistles_56 rfl rfl ?_
  refine I_cSI  (pc := 57) hx [.int (oI p2)] [.ref (shR a0 0)] (ev_X11_r F p2 w7) sm_X11_r g1322 dX11_whistles_57 rfl rfl (Nat.le_of_ble_eq_true rfl) (Nat.le_of_ble_eq_true rfl) (Nat.le_of_ble_eq_true rfl) (fun r8 => ?_)
  refine I_bipush (pc := 60) hx 10 dX11_whistles_60 rfl ?_
  refine I_iadd (pc := 62) hx dX11_whistles_62 ?_
  refine I_ltv (fun u9 => ?_)
  refine E_dup2 (pc := 63) hx dX11_whistles_63 rfl rfl ?_
  refine I_iald (pc := 64) hx (kt_9_0 h0) dX11_whistles_64 ?_
  refine E_iload (pc := 65) hx 0 dX11_whistles_65 rfl ?_
  refine I_iadd (pc := 67) hx dX11_whistles_67 ?_
  refine I_iast (pc := 68) hx (kt_9_0 h0) dX11_whistles_68 (fun w10 => ?_)
  refine E_aload_n (pc := 69) hx 3 dX11_whistles_69 rfl rfl ?_
  refine E_getR (pc := 70) hx 0 fc9 h0 rfl ⟨rfl, rfl, rfl⟩ g1332 dX11_whistles_70 ?_
  refine E_iload_n (pc := 73) hx 5 dX11_whistles_73 rfl rfl ?_
  refine I_cSI  (pc := 74) hx [.int (oI p2)] [.ref (shR a0 0)] (ev_X11_r F p2 w10) sm_X11_r g1322 dX11_whistles_74 rfl rfl (Nat.le_of_ble_eq_true rfl) (Nat.le_of_ble_eq_true rfl) (Nat.le_of_ble_eq_true rfl) (fun r11 => ?_)
  refine I_bipush (pc := 77) hx 7 dX11_whistles_77 rfl ?_
  refine I_iadd (pc := 79) hx dX11_whistles_79 ?_
  refine I_iald (pc := 80) hx (kt_9_0 h0) dX11_whistles_80 ?_
  refine I_ltv (fun v6_12 => ?_)
  refine E_istore (pc := 81) hx dX11_whistles_81 (Nat.le_of_ble_eq_true rfl) rfl ?_
  refine E_aload_n (pc := 83) hx 4 dX11_whistles_83 rfl rfl ?_
  refine E_getR (pc := 84) hx 0 fc9 h0 rfl ⟨rfl, rfl, rfl⟩ g1332 dX11_whistles_84 ?_
  refine E_iload_n (pc := 87) hx 6 dX11_whistles_87 rfl rfl ?_
  refine I_cSI  (pc := 88) hx [.int (oI p2)] [.ref (shR a0 0)] (ev_X11_r F p2 w10) sm_X11_r g1322 dX11_whistles_88 rfl rfl (Nat.le_of_ble_eq_true rfl) (Nat.le_of_ble_eq_true rfl) (Nat.le_of_ble_eq_true rfl) (fun r13 => ?_)
  refine I_bipush (pc := 91) hx 11 dX11_whistles_91 rfl ?_
  refine I_iadd (pc := 93) hx dX11_whistles_93 ?_
  refine E_aload_n (pc := 94) hx 4 dX11_whistles_94 rfl rfl ?_
  refine E_getR (pc := 95) hx 0 fc9 h0 rfl ⟨rfl, rfl, rfl⟩ g1332 dX11_whistles_95 ?_
  refine I_iconst (pc := 98) hx 3 dX11_whistles_98 ?_
  refine I_iald (pc := 99) hx (kt_9_0 h0) dX11_whistles_99 ?_
  refine E_aload_n (pc := 100) hx 4 dX11_whistles_100 rfl rfl ?_
  refine E_getR (pc := 101) hx 0 fc9 h0 rfl ⟨rfl, rfl, rfl⟩ g1332 dX11_whistles_101 ?_
  refine E_iload_n (pc := 104) hx 3 dX11_whistles_104 rfl rfl ?_
  refine I_iconst (pc := 105) hx 2 dX11_whistles_105 ?_
  refine I_iadd (pc := 106) hx dX11_whistles_106 ?_
  refine I_iald (pc := 107) hx (kt_9_0 h0) dX11_whistles_107 ?_
  refine E_iload (pc := 108) hx 0 dX11_whistles_108 rfl ?_
  refine I_iadd (pc := 110) hx dX11_whistles_110 ?_
  refine I_iconst (pc := 111) hx 1 dX11_whistles_111 ?_
  refine I_isub (pc := 112) hx dX11_whistles_112 ?_
  refine E_iload (pc := 113) hx 0 dX11_whistles_113 rfl ?_
  refine E_gd (fun hr14 => ?_)
  refine E_gd (fun hd15 => ?_)
  refine I_idiv (pc := 115) hx dX11_whistles_115 ⟨hr14.1, hr14.2, hd15⟩ ?_
  refine I_iadd (pc := 116) hx dX11_whistles_116 ?_
  refine I_iast (pc := 117) hx (kt_9_0 h0) dX11_whistles_117 (fun w16 => ?_)
  refine E_aload_n (pc := 118) hx 4 dX11_whistles_118 rfl rfl ?_
  refine E_getR (pc := 119) hx 0 fc9 h0 rfl ⟨rfl, rfl, rfl⟩ g1332 dX11_whistles_119 ?_
  refine E_iload_n (pc := 122) hx 6 dX11_whistles_122 rfl rfl ?_
  refine I_cSI  (pc := 123) hx [.int (oI p2)] [.ref (shR a0 0)] (ev_X11_r F p2 w16) sm_X11_r g1322 dX11_whistles_123 rfl rfl (Nat.le_of_ble_eq_true rfl) (Nat.le_of_ble_eq_true rfl) (Nat.le_of_ble_eq_true rfl) (fun r17 => ?_)
  refine I_bipush (pc := 126) hx 12 dX11_whistles_126 rfl ?_
  refine I_iadd (pc := 128) hx dX11_whistles_128 ?_
  refine I_ltv (fun u18 => ?_)
  refine E_dup2 (pc := 129) hx dX11_whistles_129 rfl rfl ?_
  refine I_iald (pc := 130) hx (kt_9_0 h0) dX11_whistles_130 ?_
  refine I_iconst (pc := 131) hx 1 dX11_whistles_131 ?_
  refine I_iadd (pc := 132) hx dX11_whistles_132 ?_
  refine I_iast (pc := 133) hx (kt_9_0 h0) dX11_whistles_133 (fun w19 => ?_)
  refine E_aload_n (pc := 134) hx 4 dX11_whistles_134 rfl rfl ?_
  refine E_getR (pc := 135) hx 0 fc9 h0 rfl ⟨rfl, rfl, rfl⟩ g1332 dX11_whistles_135 ?_
  refine E_iload_n (pc := 138) hx 3 dX11_whistles_138 rfl rfl ?_
  refine I_bipush (pc := 139) hx 10 dX11_whistles_139 rfl ?_
  refine I_iadd (pc := 141) hx dX11_whistles_141 ?_
  refine E_aload_n (pc := 142) hx 4 dX11_whistles_142 rfl rfl ?_
  refine E_getR (pc := 143) hx 0 fc9 h0 rfl ⟨rfl, rfl, rfl⟩ g1332 dX11_whistles_143 ?_
  refine E_aload_n (pc := 146) hx 4 dX11_whistles_146 rfl rfl ?_
  refine E_iload_n (pc := 147) hx 6 dX11_whistles_147 rfl rfl ?_
  refine E_iload (pc := 148) hx 2 dX11_whistles_148 rfl ?_
  refine I_cVI  (pc := 150) hx [.int (oI p2), .int (oI r2)] [.ref (shR a0 0), .int (oI (r1 + 10)), .ref (shR a0 0)] (ev_X11_wayBetween F a0 h0 p2 r2 w19) vm_X11_wayBetween fc9 h0 g1520 dX11_whistles_150 rfl rfl (Nat.le_of_ble_eq_true rfl) (Nat.le_of_ble_eq_true rfl) (Nat.le_of_ble_eq_true rfl) (fun r20 => ?_)
  refine I_cSI  (pc := 153) hx [.int (oI r20)] [.ref (shR a0 0), .int (oI (r1 + 10)), .ref (shR a0 0)] (ev_X11_w F r20 w19) sm_X11_w g1329 dX11_whistles_153 rfl rfl (Nat.le_of_ble_eq_true rfl) (Nat.le_of_ble_eq_true rfl) (Nat.le_of_ble_eq_true rfl) (fun r21 => ?_)
  refine I_iconst (pc := 156) hx 2 dX11_whistles_156 ?_
  refine I_iadd (pc := 157) hx dX11_whistles_157 ?_
  refine I_iald (pc := 158) hx (kt_9_0 h0) dX11_whistles_158 ?_
  refine I_iast (pc := 159) hx (kt_9_0 h0) dX11_whistles_159 (fun w22 => ?_)
  refine E_aload_n (pc := 160) hx 4 dX11_whistles_160 rfl rfl ?_
  refine E_getR (pc := 161) hx 0 fc9 h0 rfl ⟨rfl, rfl, rfl⟩ g1332 dX11_whistles_161 ?_
  refine E_iload_n (pc := 164) hx 3 dX11_whistles_164 rfl rfl ?_
  refine I_iconst (pc := 165) hx 5 dX11_whistles_165 ?_
  refine I_iadd (pc := 166) hx dX11_whistles_166 ?_
  refine E_aload_n (pc := 167) hx 4 dX11_whistles_167 rfl rfl ?_
  refine E_getR (pc := 168) hx 0 fc9 h0 rfl ⟨rfl, rfl, rfl⟩ g1332 dX11_whistles_168 ?_
  refine E_iload_n (pc := 171) hx 6 dX11_whistles_171 rfl rfl ?_
  refine I_cSI  (pc := 172) hx [.int (oI p2)] [.ref (shR a0 0), .int (oI (r1 + 5)), .ref (shR a0 0)] (ev_X11_r F p2 w22) sm_X11_r g1322 dX11_whistles_172 rfl rfl (Nat.le_of_ble_eq_true rfl) (Nat.le_of_ble_eq_true rfl) (Nat.le_of_ble_eq_true rfl) (fun r23 => ?_)
  refine I_bipush (pc := 175) hx 11 dX11_whistles_175 rfl ?_
  refine I_iadd (pc := 177) hx dX11_whistles_177 ?_
  refine I_iald (pc := 178) hx (kt_9_0 h0) dX11_whistles_178 ?_
  refine E_aload_n (pc := 179) hx 4 dX11_whistles_179 rfl rfl ?_
  refine E_getR (pc := 180) hx 0 fc9 h0 rfl ⟨rfl, rfl, rfl⟩ g1332 dX11_whistles_180 ?_
  refine E_iload_n (pc := 183) hx 3 dX11_whistles_183 rfl rfl ?_
  refine I_bipush (pc := 184) hx 10 dX11_whistles_184 rfl ?_
  refine I_iadd (pc := 186) hx dX11_whistles_186 ?_
  refine I_iald (pc := 187) hx (kt_9_0 h0) dX11_whistles_187 ?_
  refine I_iadd (pc := 188) hx dX11_whistles_188 ?_
  refine I_iast (pc := 189) hx (kt_9_0 h0) dX11_whistles_189 (fun w24 => ?_)
  refine E_aload_n (pc := 190) hx 4 dX11_whistles_190 rfl rfl ?_
  refine E_getR (pc := 191) hx 0 fc9 h0 rfl ⟨rfl, rfl, rfl⟩ g1332 dX11_whistles_191 ?_
  refine E_iload_n (pc := 194) hx 3 dX11_whistles_194 rfl rfl ?_
  refine I_iconst (pc := 195) hx 4 dX11_whistles_195 ?_
  refine I_iadd (pc := 196) hx dX11_whistles_196 ?_
  refine E_iload (pc := 197) hx 2 dX11_whistles_197 rfl ?_
  refine I_iast (pc := 199) hx (kt_9_0 h0) dX11_whistles_199 (fun w25 => ?_)
  refine E_aload_n (pc := 200) hx 4 dX11_whistles_200 rfl rfl ?_
  refine E_getR (pc := 201) hx 0 fc9 h0 rfl ⟨rfl, rfl, rfl⟩ g1332 dX11_whistles_201 ?_
  refine E_iload_n (pc := 204) hx 3 dX11_whistles_204 rfl rfl ?_
  refine I_iconst (pc := 205) hx 3 dX11_whistles_205 ?_
  refine I_iadd (pc := 206) hx dX11_whistles_206 ?_
  refine I_iconst (pc := 207) hx 1 dX11_whistles_207 ?_
  refine I_iast (pc := 208) hx (kt_9_0 h0) dX11_whistles_208 (fun w26 => ?_)
  refine E_aload_n (pc := 209) hx 4 dX11_whistles_209 rfl rfl ?_
  refine E_getR (pc := 210) hx 0 fc9 h0 rfl ⟨rfl, rfl, rfl⟩ g1332 dX11_whistles_210 ?_
  refine E_iload_n (pc := 213) hx 3 dX11_whistles_213 rfl rfl ?_
  refine I_bipush (pc := 214) hx 9 dX11_whistles_214 rfl ?_
  refine I_iadd (pc := 216) hx dX11_whistles_216 ?_
  refine I_ltv (fun u27 => ?_)
  refine E_dup2 (pc := 217) hx dX11_whistles_217 rfl rfl ?_
  refine I_iald (pc := 218) hx (kt_9_0 h0) dX11_whistles_218 ?_
  refine I_iconst (pc := 219) hx 1 dX11_whistles_219 ?_
  refine I_iadd (pc := 220) hx dX11_whistles_220 ?_
  refine I_iast (pc := 221) hx (kt_9_0 h0) dX11_whistles_221 (fun w28 => ?_)
  refine E_aload_n (pc := 222) hx 4 dX11_whistles_222 rfl rfl ?_
  refine I_iconst (pc := 223) hx 3 dX11_whistles_223 ?_
  refine I_iconst (pc := 224) hx 1 dX11_whistles_224 ?_
  refine I_cVV  (pc := 225) hx [.int (oI 3), .int (oI 1)] [] (ev_X11_counts F a0 h0 3 1 w28) vm_X11_counts fc9 h0 g1604 dX11_whistles_225 rfl rfl (Nat.le_of_ble_eq_true rfl) (Nat.le_of_ble_eq_true rfl) (Nat.le_of_ble_eq_true rfl) (fun w29 => ?_)
  refine E_aload_n (pc := 228) hx 4 dX11_whistles_228 rfl rfl ?_
  refine I_bipush (pc := 229) hx 9 dX11_whistles_229 rfl ?_
  refine E_iload (pc := 231) hx 1 dX11_whistles_231 rfl ?_
  refine I_cVV  (pc := 233) hx [.int (oI 9), .int (oI r4)] [] (ev_X11_counts F a0 h0 9 r4 w29) vm_X11_counts fc9 h0 g1604 dX11_whistles_233 rfl rfl (Nat.le_of_ble_eq_true rfl) (Nat.le_of_ble_eq_true rfl) (Nat.le_of_ble_eq_true rfl) (fun w30 => ?_)
  exact E_vret (pc := 236) hx dX11_whistles_236 rfl rfl (Nat.le_of_ble_eq_true rfl)
set_option maxHeartbeats 4000000 in
set_option maxRecDepth 100000 in
theorem l_X11_arrives_b9_b {x : Cx} (F : Nat) (a0 : Nat) (h0 : shK a0 = 10 + 9)  (hx : CxOK x RX11 cX11_arrives 3 5 0 none)  (k9 : Int → Int → aI → Option aI) (hk9 : ∀ (v1 : Int) (v2 : Int) (w : aI), En x jvV 0 0 9 [(0, .ref a0), (1, .int (oI v1)), (2, .int (oI v2))] [] (cm w) (k9 v1 v2 w)) (v1 : Int) (v2 : Int) (w : aI) : En x jvV 0 0 9 [(0, .ref a0), (1, .int (oI v1)), (2, .int (oI v2))] [] (cm w) (f_X11_arrives_b9_b F a0   k9 v1 v2 w) := by
  unfold f_X11_arrives_b9_b
  refine E_iload_n (pc := 9) hx 2 dX11_arrives_9 rfl rfl ?_
  refine E_iload_n (pc := 10) hx 1 dX11_arrives_10 rfl rfl ?_
  refine E_gd (fun hr2 => ?_)
  refine I_icmp_ge (pc := 11) hx 60 dX11_arrives_11 rfl ⟨hr2.1, hr2.2⟩ ?_ ?_
  · exact E_vret (pc := 60) hx dX11_arrives_60 rfl rfl (Nat.le_of_ble_eq_true rfl)
  refine E_aload_n (pc := 14) hx 0 dX11_arrives_14 rfl rfl ?_
  refine E_getR (pc := 15) hx 0 fc9 h0 rfl ⟨rfl, rfl, rfl⟩ g1332 dX11_arrives_15 ?_
  refine E_iload_n (pc := 18) hx 2 dX11_arrives_18 rfl rfl ?_
  refine I_cSI  (pc := 19) hx [.int (oI v2)] [.ref (shR a0 0)] (ev_X11_t F v2 w) sm_X11_t g1594 dX11_arrives_19 rfl rfl (Nat.le_of_ble_eq_true rfl) (Nat.le_of_ble_eq_true rfl) (Nat.le_of_ble_eq_true rfl) (fun r3 => ?_)
  refine I_iconst (pc := 22) hx 3 dX11_arrives_22 ?_
  refine I_iadd (pc := 23) hx dX11_arrives_23 ?_
  refine I_iald (pc := 24) hx (kt_9_0 h0) dX11_arrives_24 ?_
  refine I_iconst (pc := 25) hx 1 dX11_arrives_25 ?_
  refine E_gd (fun hr4 => ?_)
  refine I_icmp_ne (pc := 26) hx 54 dX11_arrives_26 rfl ⟨hr4, (by decide)⟩ ?_ ?_
  · refine I_iinc (pc := 54) hx 1 2 dX11_arrives_54 rfl (Nat.le_of_ble_eq_true rfl) rfl ?_
    refine E_goto (pc := 57) hx 9 dX11_arrives_57 rfl ?_
    refine En.sub [1, 2, 0] rfl ?_
    exact hk9 v1 (v2 + 1) w
  refine E_aload_n (pc := 29) hx 0 dX11_arrives_29 rfl rfl ?_
  refine E_getR (pc := 30) hx 0 fc9 h0 rfl ⟨rfl, rfl, rfl⟩ g1332 dX11_arrives_30 ?_
  refine E_iload_n (pc := 33) hx 2 dX11_arrives_33 rfl rfl ?_
  refine I_cSI  (pc := 34) hx [.int (oI v2)] [.ref (shR a0 0)] (ev_X11_t F v2 w) sm_X11_t g1594 dX11_arrives_34 rfl rfl (Nat.le_of_ble_eq_true rfl) (Nat.le_of_ble_eq_true rfl) (Nat.le_of_ble_eq_true rfl) (fun r5 => ?_)
  refine I_iconst (pc := 37) hx 5 dX11_arrives_37 ?_
  refine I_iadd (pc := 38) hx dX11_arrives_38 ?_
  refine I_iald (pc := 39) hx (kt_9_0 h0) dX11_arrives_39 ?_
  refine E_aload_n (pc := 40) hx 0 dX11_arrives_40 rfl rfl ?_
  refine E_getR (pc := 41) hx 0 fc9 h0 rfl ⟨rfl, rfl, rfl⟩ g1332 dX11_arrives_41 ?_
  refine I_iconst (pc := 44) hx 3 dX11_arrives_44 ?_
  refine I_iald (pc := 45) hx (kt_9_0 h0) dX11_arrives_45 ?_
  refine E_gd (fun hr6 => ?_)
  refine I_icmp_ne (pc := 46) hx 54 dX11_arrives_46 rfl ⟨hr6.1, hr6.2⟩ ?_ ?_
  · refine I_iinc (pc := 54) hx 1 2 dX11_arrives_54 rfl (Nat.le_of_ble_eq_true rfl) rfl ?_
    refine E_goto (pc := 57) hx 9 dX11_arrives_57 rfl ?_
    refine En.sub [1, 2, 0] rfl ?_
    exact hk9 v1 (v2 + 1) w
  refine E_aload_n (pc := 49) hx 0 dX11_arrives_49 rfl rfl ?_
  refine E_iload_n (pc := 50) hx 2 dX11_arrives_50 rfl rfl ?_
  refine I_cVV  (pc := 51) hx [.int (oI v2)] [] (ev_X11_comes F a0 h0 v2 w) vm_X11_comes fc9 h0 g1620 dX11_arrives_51 rfl rfl (Nat.le_of_ble_eq_true rfl) (Nat.le_of_ble_eq_true rfl) (Nat.le_of_ble_eq_true rfl) (fun w7 => ?_)
  refine I_iinc (pc := 54) hx 1 2 dX11_arrives_54 rfl (Nat.le_of_ble_eq_true rfl) rfl ?_
  refine E_goto (pc := 57) hx 9 dX11_arrives_57 rfl ?_
  refine En.sub [1, 2, 0] rfl ?_
  exact hk9 v1 (v2 + 1) w7
theorem l_X11_arrives_b9 {x : Cx} (F : Nat) (a0 : Nat) (h0 : shK a0 = 10 + 9)  (hx : CxOK x RX11 cX11_arrives 3 5 0 none)  : ∀ (n : Nat) (v1 : Int) (v2 : Int) (w : aI), En x jvV 0 0 9 [(0, .ref a0), (1, .int (oI v1)), (2, .int (oI v2))] [] (cm w) (f_X11_arrives_b9 F a0   n v1 v2 w) := by
  intro n
  induction n with
  | zero => intro v1 v2 w; exact E_none
  | succ n ih => intro v1 v2 w; exact l_X11_arrives_b9_b F a0 h0  hx  _ ih v1 v2 w
set_option maxHeartbeats 4000000 in
set_option maxRecDepth 100000 in
theorem ev_X11_arrives (F : Nat) (a0 : Nat) (h0 : shK a0 = 10 + 9) (w : aI) : Ev yX11_arrives cX11_arrives 3 none 5 0 jvV [.ref a0] (cm w) (f_X11_arrives F a0 w) := by
  refine Ev.of (own := RX11) (by decide +kernel) rfl (Nat.le_of_ble_eq_true rfl) (fun x hx => ?_)
  show En x jvV 0 0 0 [(0, .ref a0)] [] (cm w) _
  unfold f_X11_arrives
  refine E_aload_n (pc := 0) hx 0 dX11_arrives_0 rfl rfl ?_
  refine E_getR (pc := 1) hx 0 fc9 h0 rfl ⟨rfl, rfl, rfl⟩ g1332 dX11_arrives_1 ?_
  refine I_iconst (pc := 4) hx 2 dX11_arrives_4 ?_
  refine I_iald (pc := 5) hx (kt_9_0 h0) dX11_arrives_5 ?_
  refine I_ltv (fun v1_1 => ?_)
  refine E_istore_n (pc := 6) hx dX11_arrives_6 rfl (Nat.le_of_ble_eq_true rfl) rfl ?_
  refine I_iconst (pc := 7) hx 0 dX11_arrives_7 ?_
  refine E_istore_n (pc := 8) hx dX11_arrives_8 rfl (Nat.le_of_ble_eq_true rfl) rfl ?_
  refine En.sub [2, 1, 0] rfl ?_
  exact l_X11_arrives_b9 F a0 h0 hx F v1_1 0 w
set_option maxHeartbeats 4000000 in
set_option maxRecDepth 100000 in
theorem l_X11_loses_b2_b {x : Cx} (F : Nat) (a0 : Nat) (h0 : shK a0 = 10 + 9)  (hx : CxOK x RX11 cX11_loses 3 5 0 none)  (k2 : Int → aI → Option aI) (hk2 : ∀ (v1 : Int) (w : aI), En x jvV 0 0 2 [(0, .ref a0), (1, .int (oI v1))] [] (cm w) (k2 v1 w)) (v1 : Int) (w : aI) : En x jvV 0 0 2 [(0, .ref a0), (1, .int (oI v1))] [] (cm w) (f_X11_loses_b2_b F a0   k2 v1 w) := by
  unfold f_X11_loses_b2_b
  refine E_iload_n (pc := 2) hx 1 dX11_loses_2 rfl rfl ?_
  refine E_aload_n (pc := 3) hx 0 dX11_loses_3 rfl rfl ?_
  refine E_getR (pc := 4) hx 0 fc9 h0 rfl ⟨rfl, rfl, rfl⟩ g1332 dX11_loses_4 ?_
  refine I_iconst (pc := 7) hx 2 dX11_loses_7 ?_
  refine I_iald (pc := 8) hx (kt_9_0 h0) dX11_loses_8 ?_
  refine E_gd (fun hr1 => ?_)
  refine I_icmp_ge (pc := 9) hx 74 dX11_loses_9 rfl ⟨hr1.1, hr1.2⟩ ?_ ?_
  · exact E_vret (pc := 74) hx dX11_loses_74 rfl rfl (Nat.le_of_ble_eq_true rfl)
  refine E_iload_n (pc := 12) hx 1 dX11_loses_12 rfl rfl ?_
  refine I_cSI  (pc := 13) hx [.int (oI v1)] [] (ev_X11_t F v1 w) sm_X11_t g1594 dX11_loses_13 rfl rfl (Nat.le_of_ble_eq_true rfl) (Nat.le_of_ble_eq_true rfl) (Nat.le_of_ble_eq_true rfl) (fun r2 => ?_)
  refine E_istore_n (pc := 16) hx dX11_loses_16 rfl (Nat.le_of_ble_eq_true rfl) rfl ?_
  refine E_aload_n (pc := 17) hx 1 dX11_loses_17 rfl rfl ?_
  refine E_getR (pc := 18) hx 0 fc9 h0 rfl ⟨rfl, rfl, rfl⟩ g1332 dX11_loses_18 ?_
  refine E_iload_n (pc := 21) hx 0 dX11_loses_21 rfl rfl ?_
  refine I_iconst (pc := 22) hx 3 dX11_loses_22 ?_
  refine I_iadd (pc := 23) hx dX11_loses_23 ?_
  refine I_iald (pc := 24) hx (kt_9_0 h0) dX11_loses_24 ?_
  refine E_gd (fun hr3 => ?_)
  refine I_if_ne (pc := 25) hx 68 dX11_loses_25 rfl hr3 ?_ ?_
  · refine I_iinc (pc := 68) hx 1 2 dX11_loses_68 rfl (Nat.le_of_ble_eq_true rfl) rfl ?_
    refine E_goto (pc := 71) hx 2 dX11_loses_71 rfl ?_
    refine En.sub [2, 0] rfl ?_
    exact hk2 (v1 + 1) w
  refine E_aload_n (pc := 28) hx 1 dX11_loses_28 rfl rfl ?_
  refine E_aload_n (pc := 29) hx 1 dX11_loses_29 rfl rfl ?_
  refine E_getR (pc := 30) hx 0 fc9 h0 rfl ⟨rfl, rfl, rfl⟩ g1332 dX11_loses_30 ?_
  refine E_iload_n (pc := 33) hx 0 dX11_loses_33 rfl rfl ?_
  refine I_iconst (pc := 34) hx 4 dX11_loses_34 ?_
  refine I_iadd (pc := 35) hx dX11_loses_35 ?_
  refine I_iald (pc := 36) hx (kt_9_0 h0) dX11_loses_36 ?_
  refine E_aload_n (pc := 37) hx 1 dX11_loses_37 rfl rfl ?_
  refine E_getR (pc := 38) hx 0 fc9 h0 rfl ⟨rfl, rfl, rfl⟩ g1332 dX11_loses_38 ?_
  refine E_iload_n (pc := 41) hx 0 dX11_loses_41 rfl rfl ?_
  refine I_iconst (pc := 42) hx 1 dX11_loses_42 ?_
  refine I_iadd (pc := 43) hx dX11_loses_43 ?_
  refine I_iald (pc := 44) hx (kt_9_0 h0) dX11_loses_44 ?_
  refine I_cVIW  (pc := 45) hx [.int (oI (w (shR a0 0) (r2 + 4))), .int (oI (w (shR a0 0) (r2 + 1)))] [] (ev_X11_sumTo F a0 h0 (w (shR a0 0) (r2 + 4)) (w (shR a0 0) (r2 + 1)) w) vm_X11_sumTo fc9 h0 g1673 dX11_loses_45 rfl rfl (Nat.le_of_ble_eq_true rfl) (Nat.le_of_ble_eq_true rfl) (Nat.le_of_ble_eq_true rfl) (fun r4 w5 => ?_)
  refine I_iconst (pc := 48) hx (-1) dX11_loses_48 ?_
  refine E_gd (fun hr6 => ?_)
  refine I_icmp_ne (pc := 49) hx 68 dX11_loses_49 rfl ⟨hr6, (by decide)⟩ ?_ ?_
  · refine I_iinc (pc := 68) hx 1 2 dX11_loses_68 rfl (Nat.le_of_ble_eq_true rfl) rfl ?_
    refine E_goto (pc := 71) hx 2 dX11_loses_71 rfl ?_
    refine En.sub [2, 0] rfl ?_
    exact hk2 (v1 + 1) w5
  refine E_aload_n (pc := 52) hx 1 dX11_loses_52 rfl rfl ?_
  refine E_getR (pc := 53) hx 0 fc9 h0 rfl ⟨rfl, rfl, rfl⟩ g1332 dX11_loses_53 ?_
  refine E_iload_n (pc := 56) hx 0 dX11_loses_56 rfl rfl ?_
  refine I_iconst (pc := 57) hx 3 dX11_loses_57 ?_
  refine I_iadd (pc := 58) hx dX11_loses_58 ?_
  refine I_iconst (pc := 59) hx 3 dX11_loses_59 ?_
  refine I_iast (pc := 60) hx (kt_9_0 h0) dX11_loses_60 (fun w7 => ?_)
  refine E_aload_n (pc := 61) hx 1 dX11_loses_61 rfl rfl ?_
  refine I_bipush (pc := 62) hx 8 dX11_loses_62 rfl ?_
  refine I_iconst (pc := 64) hx 1 dX11_loses_64 ?_
  refine I_cVV  (pc := 65) hx [.int (oI 8), .int (oI 1)] [] (ev_X11_counts F a0 h0 8 1 w7) vm_X11_counts fc9 h0 g1604 dX11_loses_65 rfl rfl (Nat.le_of_ble_eq_true rfl) (Nat.le_of_ble_eq_true rfl) (Nat.le_of_ble_eq_true rfl) (fun w8 => ?_)
  refine I_iinc (pc := 68) hx 1 2 dX11_loses_68 rfl (Nat.le_of_ble_eq_true rfl) rfl ?_
  refine E_goto (pc := 71) hx 2 dX11_loses_71 rfl ?_
  refine En.sub [2, 0] rfl ?_
  exact hk2 (v1 + 1) w8
theorem l_X11_loses_b2 {x : Cx} (F : Nat) (a0 : Nat) (h0 : shK a0 = 10 + 9)  (hx : CxOK x RX11 cX11_loses 3 5 0 none)  : ∀ (n : Nat) (v1 : Int) (w : aI), En x jvV 0 0 2 [(0, .ref a0), (1, .int (oI v1))] [] (cm w) (f_X11_loses_b2 F a0   n v1 w) := by
  intro n
  induction n with
  | zero => intro v1 w; exact E_none
  | succ n ih => intro v1 w; exact l_X11_loses_b2_b F a0 h0  hx  _ ih v1 w
set_option maxHeartbeats 4000000 in
set_option maxRecDepth 100000 in
theorem ev_X11_loses (F : Nat) (a0 : Nat) (h0 : shK a0 = 10 + 9) (w : aI) : Ev yX11_loses cX11_loses 3 none 5 0 jvV [.ref a0] (cm w) (f_X11_loses F a0 w) := by
  refine Ev.of (own := RX11) (by decide +kernel) rfl (Nat.le_of_ble_eq_true rfl) (fun x hx => ?_)
  show En x jvV 0 0 0 [(0, .ref a0)] [] (cm w) _
  unfold f_X11_loses
  refine I_iconst (pc := 0) hx 0 dX11_loses_0 ?_
  refine E_istore_n (pc := 1) hx dX11_loses_1 rfl (Nat.le_of_ble_eq_true rfl) rfl ?_
  refine En.sub [1, 0] rfl ?_
  exact l_X11_loses_b2 F a0 h0 hx F 0 w
set_option maxHeartbeats 4000000 in
set_option maxRecDepth 100000 in
theorem l_X11_ticks_b73 {x : Cx} (F : Nat) (a0 : Nat) (h0 : shK a0 = 10 + 9)  (hx : CxOK x RX11 cX11_ticks 3 7 0 none) (k22 : Int → aI → Option aI) (hk22 : ∀ (v1 : Int) (w : aI), En x jvV 0 0 22 [(0, .ref a0), (1, .int (oI v1))] [] (cm w) (k22 v1 w))  (v1 : Int) (z0 : Int) (w : aI) : En x jvV 0 0 73 [(0, .ref a0), (1, .int (oI v1))] [.int (oI z0)] (cm w) (f_X11_ticks_b73 F a0  k22  v1 z0 w) := by
  unfold f_X11_ticks_b73
  refine E_istore_n (pc := 73) hx dX11_ticks_73 rfl (Nat.le_of_ble_eq_true rfl) rfl ?_
  refine E_iload_n (pc := 74) hx 0 dX11_ticks_74 rfl rfl ?_
  refine I_iconst (pc := 75) hx (-1) dX11_ticks_75 ?_
  refine E_gd (fun hr12 => ?_)
  refine I_icmp_eq (pc := 76) hx 85 dX11_ticks_76 rfl ⟨hr12, (by decide)⟩ ?_ ?_
  · refine I_iinc (pc := 85) hx 1 2 dX11_ticks_85 rfl (Nat.le_of_ble_eq_true rfl) rfl ?_
    refine E_goto (pc := 88) hx 22 dX11_ticks_88 rfl ?_
    refine En.sub [2, 0] rfl ?_
    exact hk22 (v1 + 1) w
  refine E_aload_n (pc := 79) hx 1 dX11_ticks_79 rfl rfl ?_
  refine E_iload_n (pc := 80) hx 0 dX11_ticks_80 rfl rfl ?_
  refine E_iload_n (pc := 81) hx 2 dX11_ticks_81 rfl rfl ?_
  refine I_cVV  (pc := 82) hx [.int (oI z0), .int (oI v1)] [] (ev_X11_whistles F a0 h0 z0 v1 w) vm_X11_whistles fc9 h0 g1689 dX11_ticks_82 rfl rfl (Nat.le_of_ble_eq_true rfl) (Nat.le_of_ble_eq_true rfl) (Nat.le_of_ble_eq_true rfl) (fun w13 => ?_)
  refine I_iinc (pc := 85) hx 1 2 dX11_ticks_85 rfl (Nat.le_of_ble_eq_true rfl) rfl ?_
  refine E_goto (pc := 88) hx 22 dX11_ticks_88 rfl ?_
  refine En.sub [2, 0] rfl ?_
  exact hk22 (v1 + 1) w13
set_option maxHeartbeats 4000000 in
set_option maxRecDepth 100000 in
theorem l_X11_ticks_b22_b {x : Cx} (F : Nat) (a0 : Nat) (h0 : shK a0 = 10 + 9)  (hx : CxOK x RX11 cX11_ticks 3 7 0 none)  (k22 : Int → aI → Option aI) (hk22 : ∀ (v1 : Int) (w : aI), En x jvV 0 0 22 [(0, .ref a0), (1, .int (oI v1))] [] (cm w) (k22 v1 w)) (v1 : Int) (w : aI) : En x jvV 0 0 22 [(0, .ref a0), (1, .int (oI v1))] [] (cm w) (f_X11_ticks_b22_b F a0   k22 v1 w) := by
  unfold f_X11_ticks_b22_b
  refine E_iload_n (pc := 22) hx 1 dX11_ticks_22 rfl rfl ?_
  refine E_aload_n (pc := 23) hx 0 dX11_ticks_23 rfl rfl ?_
  refine E_getR (pc := 24) hx 0 fc9 h0 rfl ⟨rfl, rfl, rfl⟩ g1332 dX11_ticks_24 ?_
  refine I_iconst (pc := 27) hx 0 dX11_ticks_27 ?_
  refine I_iald (pc := 28) hx (kt_9_0 h0) dX11_ticks_28 ?_
  refine E_gd (fun hr4 => ?_)
  refine I_icmp_ge (pc := 29) hx 91 dX11_ticks_29 rfl ⟨hr4.1, hr4.2⟩ ?_ ?_
  · refine E_aload_n (pc := 91) hx 0 dX11_ticks_91 rfl rfl ?_
    refine I_cVV  (pc := 92) hx [] [] (ev_X11_loses F a0 h0 w) vm_X11_loses fc9 h0 g1693 dX11_ticks_92 rfl rfl (Nat.le_of_ble_eq_true rfl) (Nat.le_of_ble_eq_true rfl) (Nat.le_of_ble_eq_true rfl) (fun w5 => ?_)
    exact E_vret (pc := 95) hx dX11_ticks_95 rfl rfl (Nat.le_of_ble_eq_true rfl)
  refine E_aload_n (pc := 32) hx 0 dX11_ticks_32 rfl rfl ?_
  refine E_getR (pc := 33) hx 0 fc9 h0 rfl ⟨rfl, rfl, rfl⟩ g1332 dX11_ticks_33 ?_
  refine I_iconst (pc := 36) hx 3 dX11_ticks_36 ?_
  refine I_iald (pc := 37) hx (kt_9_0 h0) dX11_ticks_37 ?_
  refine I_bipush (pc := 38) hx 60 dX11_ticks_38 rfl ?_
  refine E_gd (fun hr6 => ?_)
  refine I_irem (pc := 40) hx dX11_ticks_40 ⟨hr6, (by decide), (by decide)⟩ ?_
  refine E_aload_n (pc := 41) hx 0 dX11_ticks_41 rfl rfl ?_
  refine E_getR (pc := 42) hx 0 fc9 h0 rfl ⟨rfl, rfl, rfl⟩ g1332 dX11_ticks_42 ?_
  refine I_iconst (pc := 45) hx 5 dX11_ticks_45 ?_
  refine I_iald (pc := 46) hx (kt_9_0 h0) dX11_ticks_46 ?_
  refine E_gd (fun hr7 => ?_)
  refine I_icmp_ge (pc := 47) hx 91 dX11_ticks_47 rfl ⟨hr7.1, hr7.2⟩ ?_ ?_
  · refine E_aload_n (pc := 91) hx 0 dX11_ticks_91 rfl rfl ?_
    refine I_cVV  (pc := 92) hx [] [] (ev_X11_loses F a0 h0 w) vm_X11_loses fc9 h0 g1693 dX11_ticks_92 rfl rfl (Nat.le_of_ble_eq_true rfl) (Nat.le_of_ble_eq_true rfl) (Nat.le_of_ble_eq_true rfl) (fun w8 => ?_)
    exact E_vret (pc := 95) hx dX11_ticks_95 rfl rfl (Nat.le_of_ble_eq_true rfl)
  refine E_aload_n (pc := 50) hx 0 dX11_ticks_50 rfl rfl ?_
  refine E_iload_n (pc := 51) hx 1 dX11_ticks_51 rfl rfl ?_
  refine E_aload_n (pc := 52) hx 0 dX11_ticks_52 rfl rfl ?_
  refine E_getR (pc := 53) hx 0 fc9 h0 rfl ⟨rfl, rfl, rfl⟩ g1332 dX11_ticks_53 ?_
  refine I_iconst (pc := 56) hx 3 dX11_ticks_56 ?_
  refine I_iald (pc := 57) hx (kt_9_0 h0) dX11_ticks_57 ?_
  refine I_cVB  (pc := 58) hx [.int (oI v1), .int (oI (w (shR a0 0) 3))] [] (ev_X11_isBusy F a0 h0 v1 (w (shR a0 0) 3) w) vm_X11_isBusy fc9 h0 g1641 dX11_ticks_58 rfl rfl (Nat.le_of_ble_eq_true rfl) (Nat.le_of_ble_eq_true rfl) (Nat.le_of_ble_eq_true rfl) (fun r9 => ?_)
  refine I_ifB_eq (pc := 61) hx 68 dX11_ticks_61 rfl ?_ ?_
  · refine E_aload_n (pc := 68) hx 0 dX11_ticks_68 rfl rfl ?_
    refine E_iload_n (pc := 69) hx 1 dX11_ticks_69 rfl rfl ?_
    refine I_cVIW  (pc := 70) hx [.int (oI v1)] [] (ev_X11_firstAt F a0 h0 v1 w) vm_X11_firstAt fc9 h0 g1645 dX11_ticks_70 rfl rfl (Nat.le_of_ble_eq_true rfl) (Nat.le_of_ble_eq_true rfl) (Nat.le_of_ble_eq_true rfl) (fun r10 w11 => ?_)
    exact l_X11_ticks_b73 F a0 h0 hx k22 hk22 v1 r10 w11
  refine I_iconst (pc := 64) hx (-1) dX11_ticks_64 ?_
  refine E_goto (pc := 65) hx 73 dX11_ticks_65 rfl ?_
  exact l_X11_ticks_b73 F a0 h0 hx k22 hk22 v1 (-1) w
theorem l_X11_ticks_b22 {x : Cx} (F : Nat) (a0 : Nat) (h0 : shK a0 = 10 + 9)  (hx : CxOK x RX11 cX11_ticks 3 7 0 none)  : ∀ (n : Nat) (v1 : Int) (w : aI), En x jvV 0 0 22 [(0, .ref a0), (1, .int (oI v1))] [] (cm w) (f_X11_ticks_b22 F a0   n v1 w) := by
  intro n
  induction n with
  | zero => intro v1 w; exact E_none
  | succ n ih => intro v1 w; exact l_X11_ticks_b22_b F a0 h0  hx  _ ih v1 w
set_option maxHeartbeats 4000000 in
set_option maxRecDepth 100000 in
theorem ev_X11_ticks (F : Nat) (a0 : Nat) (h0 : shK a0 = 10 + 9) (w : aI) : Ev yX11_ticks cX11_ticks 3 none 7 0 jvV [.ref a0] (cm w) (f_X11_ticks F a0 w) := by
  refine Ev.of (own := RX11) (by decide +kernel) rfl (Nat.le_of_ble_eq_true rfl) (fun x hx => ?_)
  show En x jvV 0 0 0 [(0, .ref a0)] [] (cm w) _
  unfold f_X11_ticks
  refine E_aload_n (pc := 0) hx 0 dX11_ticks_0 rfl rfl ?_
  refine E_getR (pc := 1) hx 0 fc9 h0 rfl ⟨rfl, rfl, rfl⟩ g1332 dX11_ticks_1 ?_
  refine I_iconst (pc := 4) hx 3 dX11_ticks_4 ?_
  refine E_dup2 (pc := 5) hx dX11_ticks_5 rfl rfl ?_
  refine I_iald (pc := 6) hx (kt_9_0 h0) dX11_ticks_6 ?_
  refine I_iconst (pc := 7) hx 1 dX11_ticks_7 ?_
  refine I_iadd (pc := 8) hx dX11_ticks_8 ?_
  refine I_iast (pc := 9) hx (kt_9_0 h0) dX11_ticks_9 (fun w1 => ?_)
  refine E_aload_n (pc := 10) hx 0 dX11_ticks_10 rfl rfl ?_
  refine I_iconst (pc := 11) hx 0 dX11_ticks_11 ?_
  refine I_iconst (pc := 12) hx 1 dX11_ticks_12 ?_
  refine I_cVV  (pc := 13) hx [.int (oI 0), .int (oI 1)] [] (ev_X11_counts F a0 h0 0 1 w1) vm_X11_counts fc9 h0 g1604 dX11_ticks_13 rfl rfl (Nat.le_of_ble_eq_true rfl) (Nat.le_of_ble_eq_true rfl) (Nat.le_of_ble_eq_true rfl) (fun w2 => ?_)
  refine E_aload_n (pc := 16) hx 0 dX11_ticks_16 rfl rfl ?_
  refine I_cVV  (pc := 17) hx [] [] (ev_X11_arrives F a0 h0 w2) vm_X11_arrives fc9 h0 g1616 dX11_ticks_17 rfl rfl (Nat.le_of_ble_eq_true rfl) (Nat.le_of_ble_eq_true rfl) (Nat.le_of_ble_eq_true rfl) (fun w3 => ?_)
  refine I_iconst (pc := 20) hx 0 dX11_ticks_20 ?_
  refine E_istore_n (pc := 21) hx dX11_ticks_21 rfl (Nat.le_of_ble_eq_true rfl) rfl ?_
  refine En.sub [1, 0] rfl ?_
  exact l_X11_ticks_b22 F a0 h0 hx F 0 w3
set_option maxHeartbeats 4000000 in
set_option maxRecDepth 100000 in
theorem l_X11_goes_b10_b {x : Cx} (F : Nat) (a0 : Nat) (h0 : shK a0 = 10 + 9) (p1 : Int)  (hx : CxOK x RX11 cX11_goes 4 8 0 (some .int))  (k10 : Int → Int → aI → Option (Int × aI)) (hk10 : ∀ (v2 : Int) (v3 : Int) (w : aI), En x jvIW 0 0 10 [(0, .ref a0), (1, .int (oI p1)), (2, .int (oI v2)), (3, .int (oI v3))] [] (cm w) (k10 v2 v3 w)) (v2 : Int) (v3 : Int) (w : aI) : En x jvIW 0 0 10 [(0, .ref a0), (1, .int (oI p1)), (2, .int (oI v2)), (3, .int (oI v3))] [] (cm w) (f_X11_goes_b10_b F a0 p1   k10 v2 v3 w) := by
  unfold f_X11_goes_b10_b
  refine E_iload_n (pc := 10) hx 3 dX11_goes_10 rfl rfl ?_
  refine E_iload_n (pc := 11) hx 1 dX11_goes_11 rfl rfl ?_
  refine E_gd (fun hr2 => ?_)
  refine I_icmp_ge (pc := 12) hx 25 dX11_goes_12 rfl ⟨hr2.1, hr2.2⟩ ?_ ?_
  · refine E_aload_n (pc := 25) hx 0 dX11_goes_25 rfl rfl ?_
    refine E_getR (pc := 26) hx 0 fc9 h0 rfl ⟨rfl, rfl, rfl⟩ g1332 dX11_goes_26 ?_
    refine I_bipush (pc := 29) hx 15 dX11_goes_29 rfl ?_
    refine I_iald (pc := 31) hx (kt_9_0 h0) dX11_goes_31 ?_
    refine E_iload_n (pc := 32) hx 2 dX11_goes_32 rfl rfl ?_
    refine I_isub (pc := 33) hx dX11_goes_33 ?_
    exact E_iret (pc := 34) hx dX11_goes_34 rfl rfl (Nat.le_of_ble_eq_true rfl)
  refine E_aload_n (pc := 15) hx 0 dX11_goes_15 rfl rfl ?_
  refine I_cVV  (pc := 16) hx [] [] (ev_X11_ticks F a0 h0 w) vm_X11_ticks fc9 h0 g1612 dX11_goes_16 rfl rfl (Nat.le_of_ble_eq_true rfl) (Nat.le_of_ble_eq_true rfl) (Nat.le_of_ble_eq_true rfl) (fun w3 => ?_)
  refine I_iinc (pc := 19) hx 1 3 dX11_goes_19 rfl (Nat.le_of_ble_eq_true rfl) rfl ?_
  refine E_goto (pc := 22) hx 10 dX11_goes_22 rfl ?_
  refine En.sub [1, 2, 3, 0] rfl ?_
  exact hk10 v2 (v3 + 1) w3
theorem l_X11_goes_b10 {x : Cx} (F : Nat) (a0 : Nat) (h0 : shK a0 = 10 + 9) (p1 : Int)  (hx : CxOK x RX11 cX11_goes 4 8 0 (some .int))  : ∀ (n : Nat) (v2 : Int) (v3 : Int) (w : aI), En x jvIW 0 0 10 [(0, .ref a0), (1, .int (oI p1)), (2, .int (oI v2)), (3, .int (oI v3))] [] (cm w) (f_X11_goes_b10 F a0 p1   n v2 v3 w) := by
  intro n
  induction n with
  | zero => intro v2 v3 w; exact E_none
  | succ n ih => intro v2 v3 w; exact l_X11_goes_b10_b F a0 h0 p1  hx  _ ih v2 v3 w
set_option maxHeartbeats 4000000 in
set_option maxRecDepth 100000 in
theorem ev_X11_goes (F : Nat) (a0 : Nat) (h0 : shK a0 = 10 + 9) (p1 : Int) (w : aI) : Ev yX11_goes cX11_goes 4 (some .int) 8 0 jvIW [.ref a0, .int (oI p1)] (cm w) (f_X11_goes F a0 p1 w) := by
  refine Ev.of (own := RX11) (by decide +kernel) rfl (Nat.le_of_ble_eq_true rfl) (fun x hx => ?_)
  show En x jvIW 0 0 0 [(0, .ref a0), (1, .int (oI p1))] [] (cm w) _
  unfold f_X11_goes
  refine E_aload_n (pc := 0) hx 0 dX11_goes_0 rfl rfl ?_
  refine E_getR (pc := 1) hx 0 fc9 h0 rfl ⟨rfl, rfl, rfl⟩ g1332 dX11_goes_1 ?_
  refine I_bipush (pc := 4) hx 15 dX11_goes_4 rfl ?_
  refine I_iald (pc := 6) hx (kt_9_0 h0) dX11_goes_6 ?_
  refine I_ltv (fun v2_1 => ?_)
  refine E_istore_n (pc := 7) hx dX11_goes_7 rfl (Nat.le_of_ble_eq_true rfl) rfl ?_
  refine I_iconst (pc := 8) hx 0 dX11_goes_8 ?_
  refine E_istore_n (pc := 9) hx dX11_goes_9 rfl (Nat.le_of_ble_eq_true rfl) rfl ?_
  refine En.sub [2, 3, 1, 0] rfl ?_
  exact l_X11_goes_b10 F a0 h0 p1 hx F v2_1 0 w
set_option maxHeartbeats 4000000 in
set_option maxRecDepth 100000 in
theorem ev_X11_givesCoins (F : Nat) (a0 : Nat) (h0 : shK a0 = 10 + 9) (p1 : Int) (p2 : Int) (w : aI) : Ev yX11_givesCoins cX11_givesCoins 3 (some .int) 1 0 jvIW [.ref a0, .int (oI p1), .int (oI p2)] (cm w) (f_X11_givesCoins F a0 p1 p2 w) := by
  refine Ev.of (own := RX11) (by decide +kernel) rfl (Nat.le_of_ble_eq_true rfl) (fun x hx => ?_)
  show En x jvIW 0 0 0 [(0, .ref a0), (1, .int (oI p1)), (2, .int (oI p2))] [] (cm w) _
  unfold f_X11_givesCoins
  refine E_aload_n (pc := 0) hx 0 dX11_givesCoins_0 rfl rfl ?_
  refine E_getR (pc := 1) hx 0 fc9 h0 rfl ⟨rfl, rfl, rfl⟩ g1332 dX11_givesCoins_1 ?_
  refine E_iload_n (pc := 4) hx 1 dX11_givesCoins_4 rfl rfl ?_
  refine I_cSI  (pc := 5) hx [.int (oI p1)] [.ref (shR a0 0)] (ev_X11_r F p1 w) sm_X11_r g1322 dX11_givesCoins_5 rfl rfl (Nat.le_of_ble_eq_true rfl) (Nat.le_of_ble_eq_true rfl) (Nat.le_of_ble_eq_true rfl) (fun r1 => ?_)
  refine I_bipush (pc := 8) hx 10 dX11_givesCoins_8 rfl ?_
  refine I_iadd (pc := 10) hx dX11_givesCoins_10 ?_
  refine I_ltv (fun u2 => ?_)
  refine E_dup2 (pc := 11) hx dX11_givesCoins_11 rfl rfl ?_
  refine I_iald (pc := 12) hx (kt_9_0 h0) dX11_givesCoins_12 ?_
  refine E_iload_n (pc := 13) hx 2 dX11_givesCoins_13 rfl rfl ?_
  refine I_iadd (pc := 14) hx dX11_givesCoins_14 ?_
  refine I_iast (pc := 15) hx (kt_9_0 h0) dX11_givesCoins_15 (fun w3 => ?_)
  refine E_aload_n (pc := 16) hx 0 dX11_givesCoins_16 rfl rfl ?_
  refine I_bipush (pc := 17) hx 10 dX11_givesCoins_17 rfl ?_
  refine E_iload_n (pc := 19) hx 2 dX11_givesCoins_19 rfl rfl ?_
  refine I_cVV  (pc := 20) hx [.int (oI 10), .int (oI p2)] [] (ev_X11_counts F a0 h0 10 p2 w3) vm_X11_counts fc9 h0 g1604 dX11_givesCoins_20 rfl rfl (Nat.le_of_ble_eq_true rfl) (Nat.le_of_ble_eq_true rfl) (Nat.le_of_ble_eq_true rfl) (fun w4 => ?_)
  refine E_aload_n (pc := 23) hx 0 dX11_givesCoins_23 rfl rfl ?_
  refine E_getR (pc := 24) hx 0 fc9 h0 rfl ⟨rfl, rfl, rfl⟩ g1332 dX11_givesCoins_24 ?_
  refine E_iload_n (pc := 27) hx 1 dX11_givesCoins_27 rfl rfl ?_
  refine I_cSI  (pc := 28) hx [.int (oI p1)] [.ref (shR a0 0)] (ev_X11_r F p1 w4) sm_X11_r g1322 dX11_givesCoins_28 rfl rfl (Nat.le_of_ble_eq_true rfl) (Nat.le_of_ble_eq_true rfl) (Nat.le_of_ble_eq_true rfl) (fun r5 => ?_)
  refine I_bipush (pc := 31) hx 10 dX11_givesCoins_31 rfl ?_
  refine I_iadd (pc := 33) hx dX11_givesCoins_33 ?_
  refine I_iald (pc := 34) hx (kt_9_0 h0) dX11_givesCoins_34 ?_
  exact E_iret (pc := 35) hx dX11_givesCoins_35 rfl rfl (Nat.le_of_ble_eq_true rfl)
set_option maxHeartbeats 4000000 in
set_option maxRecDepth 100000 in
theorem l_X11_cuts_b5_b {x : Cx} (F : Nat) (a0 : Nat) (h0 : shK a0 = 10 + 9) (p1 : Int)  (hx : CxOK x RX11 cX11_cuts 3 1 0 (some .int))  (k5 : Int → aI → Option (Int × aI)) (hk5 : ∀ (v2 : Int) (w : aI), En x jvIW 0 0 5 [(0, .ref a0), (2, .int (oI v2))] [] (cm w) (k5 v2 w)) (v2 : Int) (w : aI) : En x jvIW 0 0 5 [(0, .ref a0), (2, .int (oI v2))] [] (cm w) (f_X11_cuts_b5_b F a0 p1   k5 v2 w) := by
  unfold f_X11_cuts_b5_b
  refine E_iload_n (pc := 5) hx 1 dX11_cuts_5 rfl rfl ?_
  refine E_aload_n (pc := 6) hx 0 dX11_cuts_6 rfl rfl ?_
  refine E_getR (pc := 7) hx 0 fc9 h0 rfl ⟨rfl, rfl, rfl⟩ g1332 dX11_cuts_7 ?_
  refine I_iconst (pc := 10) hx 1 dX11_cuts_10 ?_
  refine I_iald (pc := 11) hx (kt_9_0 h0) dX11_cuts_11 ?_
  refine I_iconst (pc := 12) hx 1 dX11_cuts_12 ?_
  refine I_isub (pc := 13) hx dX11_cuts_13 ?_
  refine I_cSI  (pc := 14) hx [.int (oI ((w (shR a0 0) 1) - 1))] [.int (oI v2)] (ev_X11_w F ((w (shR a0 0) 1) - 1) w) sm_X11_w g1329 dX11_cuts_14 rfl rfl (Nat.le_of_ble_eq_true rfl) (Nat.le_of_ble_eq_true rfl) (Nat.le_of_ble_eq_true rfl) (fun r2 => ?_)
  refine E_gd (fun hr3 => ?_)
  refine I_icmp_ge (pc := 17) hx 40 dX11_cuts_17 rfl ⟨hr3.1, hr3.2⟩ ?_ ?_
  · refine E_aload_n (pc := 40) hx 0 dX11_cuts_40 rfl rfl ?_
    refine E_getR (pc := 41) hx 0 fc9 h0 rfl ⟨rfl, rfl, rfl⟩ g1332 dX11_cuts_41 ?_
    refine I_iconst (pc := 44) hx 1 dX11_cuts_44 ?_
    refine E_dup2 (pc := 45) hx dX11_cuts_45 rfl rfl ?_
    refine I_iald (pc := 46) hx (kt_9_0 h0) dX11_cuts_46 ?_
    refine I_iconst (pc := 47) hx 1 dX11_cuts_47 ?_
    refine I_isub (pc := 48) hx dX11_cuts_48 ?_
    refine I_iast (pc := 49) hx (kt_9_0 h0) dX11_cuts_49 (fun w4 => ?_)
    refine E_aload_n (pc := 50) hx 0 dX11_cuts_50 rfl rfl ?_
    refine E_getR (pc := 51) hx 0 fc9 h0 rfl ⟨rfl, rfl, rfl⟩ g1332 dX11_cuts_51 ?_
    refine I_iconst (pc := 54) hx 1 dX11_cuts_54 ?_
    refine I_iald (pc := 55) hx (kt_9_0 h0) dX11_cuts_55 ?_
    exact E_iret (pc := 56) hx dX11_cuts_56 rfl rfl (Nat.le_of_ble_eq_true rfl)
  refine E_aload_n (pc := 20) hx 0 dX11_cuts_20 rfl rfl ?_
  refine E_getR (pc := 21) hx 0 fc9 h0 rfl ⟨rfl, rfl, rfl⟩ g1332 dX11_cuts_21 ?_
  refine E_iload_n (pc := 24) hx 1 dX11_cuts_24 rfl rfl ?_
  refine E_aload_n (pc := 25) hx 0 dX11_cuts_25 rfl rfl ?_
  refine E_getR (pc := 26) hx 0 fc9 h0 rfl ⟨rfl, rfl, rfl⟩ g1332 dX11_cuts_26 ?_
  refine E_iload_n (pc := 29) hx 1 dX11_cuts_29 rfl rfl ?_
  refine I_iconst (pc := 30) hx 3 dX11_cuts_30 ?_
  refine I_iadd (pc := 31) hx dX11_cuts_31 ?_
  refine I_iald (pc := 32) hx (kt_9_0 h0) dX11_cuts_32 ?_
  refine I_iast (pc := 33) hx (kt_9_0 h0) dX11_cuts_33 (fun w5 => ?_)
  refine I_iinc (pc := 34) hx 1 1 dX11_cuts_34 rfl (Nat.le_of_ble_eq_true rfl) rfl ?_
  refine E_goto (pc := 37) hx 5 dX11_cuts_37 rfl ?_
  refine En.sub [1, 0] rfl ?_
  exact hk5 (v2 + 1) w5
theorem l_X11_cuts_b5 {x : Cx} (F : Nat) (a0 : Nat) (h0 : shK a0 = 10 + 9) (p1 : Int)  (hx : CxOK x RX11 cX11_cuts 3 1 0 (some .int))  : ∀ (n : Nat) (v2 : Int) (w : aI), En x jvIW 0 0 5 [(0, .ref a0), (2, .int (oI v2))] [] (cm w) (f_X11_cuts_b5 F a0 p1   n v2 w) := by
  intro n
  induction n with
  | zero => intro v2 w; exact E_none
  | succ n ih => intro v2 w; exact l_X11_cuts_b5_b F a0 h0 p1  hx  _ ih v2 w
set_option maxHeartbeats 4000000 in
set_option maxRecDepth 100000 in
theorem ev_X11_cuts (F : Nat) (a0 : Nat) (h0 : shK a0 = 10 + 9) (p1 : Int) (w : aI) : Ev yX11_cuts cX11_cuts 3 (some .int) 1 0 jvIW [.ref a0, .int (oI p1)] (cm w) (f_X11_cuts F a0 p1 w) := by
  refine Ev.of (own := RX11) (by decide +kernel) rfl (Nat.le_of_ble_eq_true rfl) (fun x hx => ?_)
  show En x jvIW 0 0 0 [(0, .ref a0), (1, .int (oI p1))] [] (cm w) _
  unfold f_X11_cuts
  refine E_iload_n (pc := 0) hx 1 dX11_cuts_0 rfl rfl ?_
  refine I_cSI  (pc := 1) hx [.int (oI p1)] [] (ev_X11_w F p1 w) sm_X11_w g1329 dX11_cuts_1 rfl rfl (Nat.le_of_ble_eq_true rfl) (Nat.le_of_ble_eq_true rfl) (Nat.le_of_ble_eq_true rfl) (fun r1 => ?_)
  refine E_istore_n (pc := 4) hx dX11_cuts_4 rfl (Nat.le_of_ble_eq_true rfl) rfl ?_
  refine En.sub [1, 0] rfl ?_
  exact l_X11_cuts_b5 F a0 h0 p1 hx F r1 w
set_option maxHeartbeats 4000000 in
set_option maxRecDepth 100000 in
theorem ev_X11_lowOf (F : Nat) (p0 : Int) (w : aI) : Ev yX11_lowOf cX11_lowOf 1 (some .int) 0 0 (jvI w) [.int (oI p0)] (cm w) (f_X11_lowOf F p0 w) := by
  refine Ev.of (own := RX11) (by decide +kernel) rfl (Nat.le_of_ble_eq_true rfl) (fun x hx => ?_)
  show En x (jvI w) 0 0 0 [(0, .int (oI p0))] [] (cm w) _
  unfold f_X11_lowOf
  refine E_iload_n (pc := 0) hx 0 dX11_lowOf_0 rfl rfl ?_
  refine I_iconst (pc := 1) hx 5 dX11_lowOf_1 ?_
  refine E_gd (fun hr1 => ?_)
  refine I_icmp_ne (pc := 2) hx 9 dX11_lowOf_2 rfl ⟨hr1, (by decide)⟩ ?_ ?_
  · refine I_iconst (pc := 9) hx 0 dX11_lowOf_9 ?_
    exact E_iret (pc := 10) hx dX11_lowOf_10 rfl rfl (Nat.le_of_ble_eq_true rfl)
  refine I_iconst (pc := 5) hx 1 dX11_lowOf_5 ?_
  refine E_goto (pc := 6) hx 10 dX11_lowOf_6 rfl ?_
  exact E_iret (pc := 10) hx dX11_lowOf_10 rfl rfl (Nat.le_of_ble_eq_true rfl)
set_option maxHeartbeats 4000000 in
set_option maxRecDepth 100000 in
theorem ev_X11_highOf (F : Nat) (p0 : Int) (w : aI) : Ev yX11_highOf cX11_highOf 1 (some .int) 0 0 (jvI w) [.int (oI p0)] (cm w) (f_X11_highOf F p0 w) := by
  refine Ev.of (own := RX11) (by decide +kernel) rfl (Nat.le_of_ble_eq_true rfl) (fun x hx => ?_)
  show En x (jvI w) 0 0 0 [(0, .int (oI p0))] [] (cm w) _
  unfold f_X11_highOf
  refine E_iload_n (pc := 0) hx 0 dX11_highOf_0 rfl rfl ?_
  refine I_iconst (pc := 1) hx 5 dX11_highOf_1 ?_
  refine E_gd (fun hr1 => ?_)
  refine I_icmp_ne (pc := 2) hx 10 dX11_highOf_2 rfl ⟨hr1, (by decide)⟩ ?_ ?_
  · refine E_iload_n (pc := 10) hx 0 dX11_highOf_10 rfl rfl ?_
    refine I_iconst (pc := 11) hx 4 dX11_highOf_11 ?_
    refine I_icmp_ne (pc := 12) hx 20 dX11_highOf_12 rfl ⟨hr1, (by decide)⟩ ?_ ?_
    · refine I_iconst (pc := 20) hx 3 dX11_highOf_20 ?_
      exact E_iret (pc := 21) hx dX11_highOf_21 rfl rfl (Nat.le_of_ble_eq_true rfl)
    refine I_bipush (pc := 15) hx 9 dX11_highOf_15 rfl ?_
    refine E_goto (pc := 17) hx 21 dX11_highOf_17 rfl ?_
    exact E_iret (pc := 21) hx dX11_highOf_21 rfl rfl (Nat.le_of_ble_eq_true rfl)
  refine I_bipush (pc := 5) hx 60 dX11_highOf_5 rfl ?_
  refine E_goto (pc := 7) hx 21 dX11_highOf_7 rfl ?_
  exact E_iret (pc := 21) hx dX11_highOf_21 rfl rfl (Nat.le_of_ble_eq_true rfl)
set_option maxHeartbeats 4000000 in
set_option maxRecDepth 100000 in
theorem ev_X11_sets (F : Nat) (a0 : Nat) (h0 : shK a0 = 10 + 9) (p1 : Int) (p2 : Int) (w : aI) : Ev yX11_sets cX11_sets 4 (some .int) 0 0 jvIW [.ref a0, .int (oI p1), .int (oI p2)] (cm w) (f_X11_sets F a0 p1 p2 w) := by
  refine Ev.of (own := RX11) (by decide +kernel) rfl (Nat.le_of_ble_eq_true rfl) (fun x hx => ?_)
  show En x jvIW 0 0 0 [(0, .ref a0), (1, .int (oI p1)), (2, .int (oI p2))] [] (cm w) _
  unfold f_X11_sets
  refine E_aload_n (pc := 0) hx 0 dX11_sets_0 rfl rfl ?_
  refine E_getR (pc := 1) hx 0 fc9 h0 rfl ⟨rfl, rfl, rfl⟩ g1332 dX11_sets_1 ?_
  refine E_iload_n (pc := 4) hx 1 dX11_sets_4 rfl rfl ?_
  refine I_iald (pc := 5) hx (kt_9_0 h0) dX11_sets_5 ?_
  refine I_ltv (fun v3_1 => ?_)
  refine E_istore_n (pc := 6) hx dX11_sets_6 rfl (Nat.le_of_ble_eq_true rfl) rfl ?_
  refine E_aload_n (pc := 7) hx 1 dX11_sets_7 rfl rfl ?_
  refine E_getR (pc := 8) hx 0 fc9 h0 rfl ⟨rfl, rfl, rfl⟩ g1332 dX11_sets_8 ?_
  refine E_iload_n (pc := 11) hx 2 dX11_sets_11 rfl rfl ?_
  refine E_iload_n (pc := 12) hx 3 dX11_sets_12 rfl rfl ?_
  refine I_iast (pc := 13) hx (kt_9_0 h0) dX11_sets_13 (fun w2 => ?_)
  refine E_iload_n (pc := 14) hx 0 dX11_sets_14 rfl rfl ?_
  exact E_iret (pc := 15) hx dX11_sets_15 rfl rfl (Nat.le_of_ble_eq_true rfl)
set_option maxHeartbeats 4000000 in
set_option maxRecDepth 100000 in
theorem l_X11_four_b2_b {x : Cx} (F : Nat) (a0 : Nat) (h0 : shK a0 = 10 + 9) (p1 : Int)  (hx : CxOK x RX11 cX11_four 3 0 0 none)  (k2 : Int → aI → Option aI) (hk2 : ∀ (v2 : Int) (w : aI), En x jvV 0 0 2 [(0, .ref a0), (1, .int (oI p1)), (2, .int (oI v2))] [] (cm w) (k2 v2 w)) (v2 : Int) (w : aI) : En x jvV 0 0 2 [(0, .ref a0), (1, .int (oI p1)), (2, .int (oI v2))] [] (cm w) (f_X11_four_b2_b F a0 p1   k2 v2 w) := by
  unfold f_X11_four_b2_b
  refine E_iload_n (pc := 2) hx 2 dX11_four_2 rfl rfl ?_
  refine E_gd (fun hr1 => ?_)
  refine I_if_lt (pc := 3) hx 38 dX11_four_3 rfl hr1 ?_ ?_
  · exact E_vret (pc := 38) hx dX11_four_38 rfl rfl (Nat.le_of_ble_eq_true rfl)
  refine E_aload_n (pc := 6) hx 0 dX11_four_6 rfl rfl ?_
  refine E_getR (pc := 7) hx 12 fc9 h0 rfl ⟨rfl, rfl, rfl⟩ g1344 dX11_four_7 ?_
  refine E_aload_n (pc := 10) hx 0 dX11_four_10 rfl rfl ?_
  refine I_getI (pc := 11) hx 13 13 rfl fc9 h0 rfl ⟨rfl, rfl, rfl⟩ g1345 dX11_four_11 ?_
  refine E_iload_n (pc := 14) hx 1 dX11_four_14 rfl rfl ?_
  refine I_bipush (pc := 15) hx 8 dX11_four_15 rfl ?_
  refine E_iload_n (pc := 17) hx 2 dX11_four_17 rfl rfl ?_
  refine I_imul (pc := 18) hx dX11_four_18 ?_
  refine E_gd (fun hr2 => ?_)
  refine E_gd (fun hs3 => ?_)
  refine I_ishr (pc := 19) hx dX11_four_19 ⟨hr2, hs3⟩ ?_
  refine I_i2b (pc := 20) hx dX11_four_20 ?_
  refine I_bast (pc := 21) hx (kt_9_12 h0) dX11_four_21 (fun w4 => ?_)
  refine E_aload_n (pc := 22) hx 0 dX11_four_22 rfl rfl ?_
  refine E_dup (pc := 23) hx dX11_four_23 rfl ?_
  refine I_getI (pc := 24) hx 13 13 rfl fc9 h0 rfl ⟨rfl, rfl, rfl⟩ g1345 dX11_four_24 ?_
  refine I_iconst (pc := 27) hx 1 dX11_four_27 ?_
  refine I_iadd (pc := 28) hx dX11_four_28 ?_
  refine I_put (pc := 29) hx 13 13 rfl .int tyX11 fc9 tyX11_ok h0 rfl ⟨rfl, rfl, rfl, rfl, pfd_I⟩ rfl rfl g1345 dX11_four_29 (fun w5 => ?_)
  refine I_iinc (pc := 32) hx (-1) 2 dX11_four_32 rfl (Nat.le_of_ble_eq_true rfl) rfl ?_
  refine E_goto (pc := 35) hx 2 dX11_four_35 rfl ?_
  refine En.sub [1, 2, 0] rfl ?_
  exact hk2 (v2 + (-1)) w5
theorem l_X11_four_b2 {x : Cx} (F : Nat) (a0 : Nat) (h0 : shK a0 = 10 + 9) (p1 : Int)  (hx : CxOK x RX11 cX11_four 3 0 0 none)  : ∀ (n : Nat) (v2 : Int) (w : aI), En x jvV 0 0 2 [(0, .ref a0), (1, .int (oI p1)), (2, .int (oI v2))] [] (cm w) (f_X11_four_b2 F a0 p1   n v2 w) := by
  intro n
  induction n with
  | zero => intro v2 w; exact E_none
  | succ n ih => intro v2 w; exact l_X11_four_b2_b F a0 h0 p1  hx  _ ih v2 w
set_option maxHeartbeats 4000000 in
set_option maxRecDepth 100000 in
theorem ev_X11_four (F : Nat) (a0 : Nat) (h0 : shK a0 = 10 + 9) (p1 : Int) (w : aI) : Ev yX11_four cX11_four 3 none 0 0 jvV [.ref a0, .int (oI p1)] (cm w) (f_X11_four F a0 p1 w) := by
  refine Ev.of (own := RX11) (by decide +kernel) rfl (Nat.le_of_ble_eq_true rfl) (fun x hx => ?_)
  show En x jvV 0 0 0 [(0, .ref a0), (1, .int (oI p1))] [] (cm w) _
  unfold f_X11_four
  refine I_iconst (pc := 0) hx 3 dX11_four_0 ?_
  refine E_istore_n (pc := 1) hx dX11_four_1 rfl (Nat.le_of_ble_eq_true rfl) rfl ?_
  refine En.sub [1, 2, 0] rfl ?_
  exact l_X11_four_b2 F a0 h0 p1 hx F 3 w
set_option maxHeartbeats 4000000 in
set_option maxRecDepth 100000 in
theorem ev_X11_appendInput (F : Nat) (a0 : Nat) (h0 : shK a0 = 10 + 9) (p1 : Int) (p2 : Int) (p3 : Int) (p4 : Int) (p5 : Int) (w : aI) : Ev yX11_appendInput cX11_appendInput 6 (some .int) 1 0 jvIW [.ref a0, .int (oI p1), .int (oI p2), .int (oI p3), .int (oI p4), .int (oI p5)] (cm w) (f_X11_appendInput F a0 p1 p2 p3 p4 p5 w) := by
  refine Ev.of (own := RX11) (by decide +kernel) rfl (Nat.le_of_ble_eq_true rfl) (fun x hx => ?_)
  show En x jvIW 0 0 0 [(0, .ref a0), (1, .int (oI p1)), (2, .int (oI p2)), (3, .int (oI p3)), (4, .int (oI p4)), (5, .int (oI p5))] [] (cm w) _
  unfold f_X11_appendInput
  refine E_aload_n (pc := 0) hx 0 dX11_appendInput_0 rfl rfl ?_
  refine I_iconst (pc := 1) hx 0 dX11_appendInput_1 ?_
  refine I_put (pc := 2) hx 6 6 rfl .int tyX11 fc9 tyX11_ok h0 rfl ⟨rfl, rfl, rfl, rfl, pfd_I⟩ rfl rfl g1338 dX11_appendInput_2 (fun w1 => ?_)
  refine E_aload_n (pc := 5) hx 0 dX11_appendInput_5 rfl rfl ?_
  refine I_getI (pc := 6) hx 13 13 rfl fc9 h0 rfl ⟨rfl, rfl, rfl⟩ g1345 dX11_appendInput_6 ?_
  refine I_sipush (pc := 9) hx 780 dX11_appendInput_9 rfl ?_
  refine E_gd (fun hr2 => ?_)
  refine I_icmp_le (pc := 12) hx 17 dX11_appendInput_12 rfl ⟨hr2, (by decide)⟩ ?_ ?_
  · refine E_aload_n (pc := 17) hx 0 dX11_appendInput_17 rfl rfl ?_
    refine E_iload_n (pc := 18) hx 1 dX11_appendInput_18 rfl rfl ?_
    refine I_cVV  (pc := 19) hx [.int (oI p1)] [] (ev_X11_four F a0 h0 p1 w1) vm_X11_four fc9 h0 g1426 dX11_appendInput_19 rfl rfl (Nat.le_of_ble_eq_true rfl) (Nat.le_of_ble_eq_true rfl) (Nat.le_of_ble_eq_true rfl) (fun w3 => ?_)
    refine E_aload_n (pc := 22) hx 0 dX11_appendInput_22 rfl rfl ?_
    refine E_iload_n (pc := 23) hx 2 dX11_appendInput_23 rfl rfl ?_
    refine I_cVV  (pc := 24) hx [.int (oI p2)] [] (ev_X11_four F a0 h0 p2 w3) vm_X11_four fc9 h0 g1426 dX11_appendInput_24 rfl rfl (Nat.le_of_ble_eq_true rfl) (Nat.le_of_ble_eq_true rfl) (Nat.le_of_ble_eq_true rfl) (fun w4 => ?_)
    refine E_aload_n (pc := 27) hx 0 dX11_appendInput_27 rfl rfl ?_
    refine E_iload_n (pc := 28) hx 3 dX11_appendInput_28 rfl rfl ?_
    refine I_cVV  (pc := 29) hx [.int (oI p3)] [] (ev_X11_four F a0 h0 p3 w4) vm_X11_four fc9 h0 g1426 dX11_appendInput_29 rfl rfl (Nat.le_of_ble_eq_true rfl) (Nat.le_of_ble_eq_true rfl) (Nat.le_of_ble_eq_true rfl) (fun w5 => ?_)
    refine E_aload_n (pc := 32) hx 0 dX11_appendInput_32 rfl rfl ?_
    refine E_iload (pc := 33) hx 4 dX11_appendInput_33 rfl ?_
    refine I_cVV  (pc := 35) hx [.int (oI p4)] [] (ev_X11_four F a0 h0 p4 w5) vm_X11_four fc9 h0 g1426 dX11_appendInput_35 rfl rfl (Nat.le_of_ble_eq_true rfl) (Nat.le_of_ble_eq_true rfl) (Nat.le_of_ble_eq_true rfl) (fun w6 => ?_)
    refine E_aload_n (pc := 38) hx 0 dX11_appendInput_38 rfl rfl ?_
    refine E_iload (pc := 39) hx 5 dX11_appendInput_39 rfl ?_
    refine I_cVV  (pc := 41) hx [.int (oI p5)] [] (ev_X11_four F a0 h0 p5 w6) vm_X11_four fc9 h0 g1426 dX11_appendInput_41 rfl rfl (Nat.le_of_ble_eq_true rfl) (Nat.le_of_ble_eq_true rfl) (Nat.le_of_ble_eq_true rfl) (fun w7 => ?_)
    refine E_aload_n (pc := 44) hx 0 dX11_appendInput_44 rfl rfl ?_
    refine I_getI (pc := 45) hx 13 13 rfl fc9 h0 rfl ⟨rfl, rfl, rfl⟩ g1345 dX11_appendInput_45 ?_
    exact E_iret (pc := 48) hx dX11_appendInput_48 rfl rfl (Nat.le_of_ble_eq_true rfl)
  refine I_iconst (pc := 15) hx (-1) dX11_appendInput_15 ?_
  exact E_iret (pc := 16) hx dX11_appendInput_16 rfl rfl (Nat.le_of_ble_eq_true rfl)
set_option maxHeartbeats 4000000 in
set_option maxRecDepth 100000 in
theorem ev_X11_truncateInput (F : Nat) (a0 : Nat) (h0 : shK a0 = 10 + 9) (p1 : Int) (w : aI) : Ev yX11_truncateInput cX11_truncateInput 2 (some .boolean) 1 0 jvBW [.ref a0, .int (oI p1)] (cm w) (f_X11_truncateInput F a0 p1 w) := by
  refine Ev.of (own := RX11) (by decide +kernel) rfl (Nat.le_of_ble_eq_true rfl) (fun x hx => ?_)
  show En x jvBW 0 0 0 [(0, .ref a0), (1, .int (oI p1))] [] (cm w) _
  unfold f_X11_truncateInput
  refine E_aload_n (pc := 0) hx 0 dX11_truncateInput_0 rfl rfl ?_
  refine I_iconst (pc := 1) hx 0 dX11_truncateInput_1 ?_
  refine I_put (pc := 2) hx 6 6 rfl .int tyX11 fc9 tyX11_ok h0 rfl ⟨rfl, rfl, rfl, rfl, pfd_I⟩ rfl rfl g1338 dX11_truncateInput_2 (fun w1 => ?_)
  refine E_iload_n (pc := 5) hx 1 dX11_truncateInput_5 rfl rfl ?_
  refine E_gd (fun hr2 => ?_)
  refine I_i2l (pc := 6) hx dX11_truncateInput_6 hr2 ?_
  refine I_lconst (pc := 7) hx 0 dX11_truncateInput_7 rfl ?_
  refine E_aload_n (pc := 8) hx 0 dX11_truncateInput_8 rfl rfl ?_
  refine I_getI (pc := 9) hx 13 13 rfl fc9 h0 rfl ⟨rfl, rfl, rfl⟩ g1345 dX11_truncateInput_9 ?_
  refine E_gd (fun hr3 => ?_)
  refine I_i2l (pc := 12) hx dX11_truncateInput_12 hr3 ?_
  refine I_cSB  (pc := 13) hx [.long (oL p1), .long (oL 0), .long (oL (w1 a0 13))] [] (ev_X11_in F p1 0 (w1 a0 13) w1) sm_X11_in g1434 dX11_truncateInput_13 rfl rfl (Nat.le_of_ble_eq_true rfl) (Nat.le_of_ble_eq_true rfl) (Nat.le_of_ble_eq_true rfl) (fun r4 => ?_)
  refine I_ifB_ne (pc := 16) hx 21 dX11_truncateInput_16 rfl ?_ ?_
  · refine E_aload_n (pc := 21) hx 0 dX11_truncateInput_21 rfl rfl ?_
    refine E_iload_n (pc := 22) hx 1 dX11_truncateInput_22 rfl rfl ?_
    refine I_put (pc := 23) hx 13 13 rfl .int tyX11 fc9 tyX11_ok h0 rfl ⟨rfl, rfl, rfl, rfl, pfd_I⟩ rfl rfl g1345 dX11_truncateInput_23 (fun w5 => ?_)
    refine I_iconst (pc := 26) hx 1 dX11_truncateInput_26 ?_
    exact E_zret (pc := 27) hx dX11_truncateInput_27 rfl rfl rfl (Nat.le_of_ble_eq_true rfl)
  refine I_iconst (pc := 19) hx 0 dX11_truncateInput_19 ?_
  exact E_zret (pc := 20) hx dX11_truncateInput_20 rfl rfl rfl (Nat.le_of_ble_eq_true rfl)
set_option maxHeartbeats 4000000 in
set_option maxRecDepth 100000 in
theorem ev_X11_errorCode (F : Nat) (a0 : Nat) (h0 : shK a0 = 10 + 9) (w : aI) : Ev yX11_errorCode cX11_errorCode 1 (some .int) 0 0 jvIW [.ref a0] (cm w) (f_X11_errorCode F a0 w) := by
  refine Ev.of (own := RX11) (by decide +kernel) rfl (Nat.le_of_ble_eq_true rfl) (fun x hx => ?_)
  show En x jvIW 0 0 0 [(0, .ref a0)] [] (cm w) _
  unfold f_X11_errorCode
  refine E_aload_n (pc := 0) hx 0 dX11_errorCode_0 rfl rfl ?_
  refine I_iconst (pc := 1) hx 0 dX11_errorCode_1 ?_
  refine I_put (pc := 2) hx 6 6 rfl .int tyX11 fc9 tyX11_ok h0 rfl ⟨rfl, rfl, rfl, rfl, pfd_I⟩ rfl rfl g1338 dX11_errorCode_2 (fun w1 => ?_)
  refine E_aload_n (pc := 5) hx 0 dX11_errorCode_5 rfl rfl ?_
  refine I_getI (pc := 6) hx 14 14 rfl fc9 h0 rfl ⟨rfl, rfl, rfl⟩ g1346 dX11_errorCode_6 ?_
  exact E_iret (pc := 9) hx dX11_errorCode_9 rfl rfl (Nat.le_of_ble_eq_true rfl)
set_option maxHeartbeats 4000000 in
set_option maxRecDepth 100000 in
theorem ev_X11_errorOffset (F : Nat) (a0 : Nat) (h0 : shK a0 = 10 + 9) (w : aI) : Ev yX11_errorOffset cX11_errorOffset 1 (some .int) 0 0 jvIW [.ref a0] (cm w) (f_X11_errorOffset F a0 w) := by
  refine Ev.of (own := RX11) (by decide +kernel) rfl (Nat.le_of_ble_eq_true rfl) (fun x hx => ?_)
  show En x jvIW 0 0 0 [(0, .ref a0)] [] (cm w) _
  unfold f_X11_errorOffset
  refine E_aload_n (pc := 0) hx 0 dX11_errorOffset_0 rfl rfl ?_
  refine I_iconst (pc := 1) hx 0 dX11_errorOffset_1 ?_
  refine I_put (pc := 2) hx 6 6 rfl .int tyX11 fc9 tyX11_ok h0 rfl ⟨rfl, rfl, rfl, rfl, pfd_I⟩ rfl rfl g1338 dX11_errorOffset_2 (fun w1 => ?_)
  refine E_aload_n (pc := 5) hx 0 dX11_errorOffset_5 rfl rfl ?_
  refine I_getI (pc := 6) hx 15 15 rfl fc9 h0 rfl ⟨rfl, rfl, rfl⟩ g1347 dX11_errorOffset_6 ?_
  exact E_iret (pc := 9) hx dX11_errorOffset_9 rfl rfl (Nat.le_of_ble_eq_true rfl)
set_option maxHeartbeats 4000000 in
set_option maxRecDepth 100000 in
theorem ev_X11_isLetter (F : Nat) (a0 : Nat) (h0 : shK a0 = 10 + 9) (p1 : Int) (w : aI) : Ev yX11_isLetter cX11_isLetter 2 (some .boolean) 1 0 (jvB w) [.ref a0, .int (oI p1)] (cm w) (f_X11_isLetter F a0 p1 w) := by
  refine Ev.of (own := RX11) (by decide +kernel) rfl (Nat.le_of_ble_eq_true rfl) (fun x hx => ?_)
  show En x (jvB w) 0 0 0 [(0, .ref a0), (1, .int (oI p1))] [] (cm w) _
  unfold f_X11_isLetter
  refine E_iload_n (pc := 0) hx 1 dX11_isLetter_0 rfl rfl ?_
  refine E_aload_n (pc := 1) hx 0 dX11_isLetter_1 rfl rfl ?_
  refine I_getI (pc := 2) hx 13 13 rfl fc9 h0 rfl ⟨rfl, rfl, rfl⟩ g1345 dX11_isLetter_2 ?_
  refine E_gd (fun hr1 => ?_)
  refine I_icmp_ge (pc := 5) hx 31 dX11_isLetter_5 rfl ⟨hr1.1, hr1.2⟩ ?_ ?_
  · refine I_iconst (pc := 31) hx 0 dX11_isLetter_31 ?_
    exact E_zret (pc := 32) hx dX11_isLetter_32 rfl rfl rfl (Nat.le_of_ble_eq_true rfl)
  refine E_aload_n (pc := 8) hx 0 dX11_isLetter_8 rfl rfl ?_
  refine E_getR (pc := 9) hx 12 fc9 h0 rfl ⟨rfl, rfl, rfl⟩ g1344 dX11_isLetter_9 ?_
  refine E_iload_n (pc := 12) hx 1 dX11_isLetter_12 rfl rfl ?_
  refine I_bald (pc := 13) hx (kt_9_12 h0) dX11_isLetter_13 ?_
  refine E_gd (fun hr2 => ?_)
  refine I_i2l (pc := 14) hx dX11_isLetter_14 hr2 ?_
  refine I_ldc2 (pc := 15) hx 97 g1465 rfl dX11_isLetter_15 ?_
  refine I_ldc2 (pc := 18) hx 122 g1466 rfl dX11_isLetter_18 ?_
  refine I_cSB  (pc := 21) hx [.long (oL (w (shR a0 12) p1)), .long (oL 97), .long (oL 122)] [] (ev_X11_in F (w (shR a0 12) p1) 97 122 w) sm_X11_in g1434 dX11_isLetter_21 rfl rfl (Nat.le_of_ble_eq_true rfl) (Nat.le_of_ble_eq_true rfl) (Nat.le_of_ble_eq_true rfl) (fun r3 => ?_)
  refine I_ifB_eq (pc := 24) hx 31 dX11_isLetter_24 rfl ?_ ?_
  · refine I_iconst (pc := 31) hx 0 dX11_isLetter_31 ?_
    exact E_zret (pc := 32) hx dX11_isLetter_32 rfl rfl rfl (Nat.le_of_ble_eq_true rfl)
  refine I_iconst (pc := 27) hx 1 dX11_isLetter_27 ?_
  refine E_goto (pc := 28) hx 32 dX11_isLetter_28 rfl ?_
  exact E_zret (pc := 32) hx dX11_isLetter_32 rfl rfl rfl (Nat.le_of_ble_eq_true rfl)
set_option maxHeartbeats 4000000 in
set_option maxRecDepth 100000 in
theorem ev_X11_isDigit (F : Nat) (a0 : Nat) (h0 : shK a0 = 10 + 9) (p1 : Int) (w : aI) : Ev yX11_isDigit cX11_isDigit 2 (some .boolean) 1 0 (jvB w) [.ref a0, .int (oI p1)] (cm w) (f_X11_isDigit F a0 p1 w) := by
  refine Ev.of (own := RX11) (by decide +kernel) rfl (Nat.le_of_ble_eq_true rfl) (fun x hx => ?_)
  show En x (jvB w) 0 0 0 [(0, .ref a0), (1, .int (oI p1))] [] (cm w) _
  unfold f_X11_isDigit
  refine E_iload_n (pc := 0) hx 1 dX11_isDigit_0 rfl rfl ?_
  refine E_aload_n (pc := 1) hx 0 dX11_isDigit_1 rfl rfl ?_
  refine I_getI (pc := 2) hx 13 13 rfl fc9 h0 rfl ⟨rfl, rfl, rfl⟩ g1345 dX11_isDigit_2 ?_
  refine E_gd (fun hr1 => ?_)
  refine I_icmp_ge (pc := 5) hx 31 dX11_isDigit_5 rfl ⟨hr1.1, hr1.2⟩ ?_ ?_
  · refine I_iconst (pc := 31) hx 0 dX11_isDigit_31 ?_
    exact E_zret (pc := 32) hx dX11_isDigit_32 rfl rfl rfl (Nat.le_of_ble_eq_true rfl)
  refine E_aload_n (pc := 8) hx 0 dX11_isDigit_8 rfl rfl ?_
  refine E_getR (pc := 9) hx 12 fc9 h0 rfl ⟨rfl, rfl, rfl⟩ g1344 dX11_isDigit_9 ?_
  refine E_iload_n (pc := 12) hx 1 dX11_isDigit_12 rfl rfl ?_
  refine I_bald (pc := 13) hx (kt_9_12 h0) dX11_isDigit_13 ?_
  refine E_gd (fun hr2 => ?_)
  refine I_i2l (pc := 14) hx dX11_isDigit_14 hr2 ?_
  refine I_ldc2 (pc := 15) hx 48 g1471 rfl dX11_isDigit_15 ?_
  refine I_ldc2 (pc := 18) hx 57 g1472 rfl dX11_isDigit_18 ?_
  refine I_cSB  (pc := 21) hx [.long (oL (w (shR a0 12) p1)), .long (oL 48), .long (oL 57)] [] (ev_X11_in F (w (shR a0 12) p1) 48 57 w) sm_X11_in g1434 dX11_isDigit_21 rfl rfl (Nat.le_of_ble_eq_true rfl) (Nat.le_of_ble_eq_true rfl) (Nat.le_of_ble_eq_true rfl) (fun r3 => ?_)
  refine I_ifB_eq (pc := 24) hx 31 dX11_isDigit_24 rfl ?_ ?_
  · refine I_iconst (pc := 31) hx 0 dX11_isDigit_31 ?_
    exact E_zret (pc := 32) hx dX11_isDigit_32 rfl rfl rfl (Nat.le_of_ble_eq_true rfl)
  refine I_iconst (pc := 27) hx 1 dX11_isDigit_27 ?_
  refine E_goto (pc := 28) hx 32 dX11_isDigit_28 rfl ?_
  exact E_zret (pc := 32) hx dX11_isDigit_32 rfl rfl rfl (Nat.le_of_ble_eq_true rfl)
set_option maxHeartbeats 4000000 in
set_option maxRecDepth 100000 in
theorem l_X11_goesOn_b285 {x : Cx} (F : Nat) (a0 : Nat) (h0 : shK a0 = 10 + 9)  (hx : CxOK x RX11 cX11_goesOn 1 2 0 none)   (z0 : Int) (z1 : Nat) (hz1 : shK z1 = 10 + 9) (w : aI) : En x jvV 0 0 285 [(0, .ref a0)] [.int (oI z0), .ref z1] (cm w) (f_X11_goesOn_b285 F a0    z0 z1 w) := by
  unfold f_X11_goesOn_b285
  refine I_put (pc := 285) hx 18 18 rfl .int tyX11 fc9 tyX11_ok hz1 rfl ⟨rfl, rfl, rfl, rfl, pfd_I⟩ rfl rfl g1350 dX11_goesOn_285 (fun w9 => ?_)
  refine E_aload_n (pc := 288) hx 0 dX11_goesOn_288 rfl rfl ?_
  refine E_dup (pc := 289) hx dX11_goesOn_289 rfl ?_
  refine I_getI (pc := 290) hx 17 17 rfl fc9 h0 rfl ⟨rfl, rfl, rfl⟩ g1349 dX11_goesOn_290 ?_
  refine I_iconst (pc := 293) hx 1 dX11_goesOn_293 ?_
  refine I_iadd (pc := 294) hx dX11_goesOn_294 ?_
  refine I_put (pc := 295) hx 17 17 rfl .int tyX11 fc9 tyX11_ok h0 rfl ⟨rfl, rfl, rfl, rfl, pfd_I⟩ rfl rfl g1349 dX11_goesOn_295 (fun w10 => ?_)
  exact E_vret (pc := 298) hx dX11_goesOn_298 rfl rfl (Nat.le_of_ble_eq_true rfl)
set_option maxHeartbeats 4000000 in
set_option maxRecDepth 100000 in
theorem l_X11_goesOn_b224 {x : Cx} (F : Nat) (a0 : Nat) (h0 : shK a0 = 10 + 9)  (hx : CxOK x RX11 cX11_goesOn 1 2 0 none) (k172 : aI → Option aI) (hk172 : ∀  (w : aI), En x jvV 0 0 172 [(0, .ref a0)] [] (cm w) (k172 w))  (z0 : Int) (z1 : Nat) (hz1 : shK z1 = 10 + 9) (w : aI) : En x jvV 0 0 224 [(0, .ref a0)] [.int (oI z0), .ref z1] (cm w) (f_X11_goesOn_b224 F a0  k172  z0 z1 w) := by
  unfold f_X11_goesOn_b224
  refine I_put (pc := 224) hx 19 19 rfl .int tyX11 fc9 tyX11_ok hz1 rfl ⟨rfl, rfl, rfl, rfl, pfd_I⟩ rfl rfl g1351 dX11_goesOn_224 (fun w17 => ?_)
  refine E_aload_n (pc := 227) hx 0 dX11_goesOn_227 rfl rfl ?_
  refine E_dup (pc := 228) hx dX11_goesOn_228 rfl ?_
  refine I_getI (pc := 229) hx 17 17 rfl fc9 h0 rfl ⟨rfl, rfl, rfl⟩ g1349 dX11_goesOn_229 ?_
  refine I_iconst (pc := 232) hx 1 dX11_goesOn_232 ?_
  refine I_iadd (pc := 233) hx dX11_goesOn_233 ?_
  refine I_put (pc := 234) hx 17 17 rfl .int tyX11 fc9 tyX11_ok h0 rfl ⟨rfl, rfl, rfl, rfl, pfd_I⟩ rfl rfl g1349 dX11_goesOn_234 (fun w18 => ?_)
  refine E_goto (pc := 237) hx 172 dX11_goesOn_237 rfl ?_
  exact hk172 w18
set_option maxHeartbeats 4000000 in
set_option maxRecDepth 100000 in
theorem l_X11_goesOn_b172_b {x : Cx} (F : Nat) (a0 : Nat) (h0 : shK a0 = 10 + 9)  (hx : CxOK x RX11 cX11_goesOn 1 2 0 none)  (k172 : aI → Option aI) (hk172 : ∀  (w : aI), En x jvV 0 0 172 [(0, .ref a0)] [] (cm w) (k172 w))  (w : aI) : En x jvV 0 0 172 [(0, .ref a0)] [] (cm w) (f_X11_goesOn_b172_b F a0   k172 w) := by
  unfold f_X11_goesOn_b172_b
  refine E_aload_n (pc := 172) hx 0 dX11_goesOn_172 rfl rfl ?_
  refine E_aload_n (pc := 173) hx 0 dX11_goesOn_173 rfl rfl ?_
  refine I_getI (pc := 174) hx 17 17 rfl fc9 h0 rfl ⟨rfl, rfl, rfl⟩ g1349 dX11_goesOn_174 ?_
  refine I_cVB  (pc := 177) hx [.int (oI (w a0 17))] [] (ev_X11_isDigit F a0 h0 (w a0 17) w) vm_X11_isDigit fc9 h0 g1467 dX11_goesOn_177 rfl rfl (Nat.le_of_ble_eq_true rfl) (Nat.le_of_ble_eq_true rfl) (Nat.le_of_ble_eq_true rfl) (fun r12 => ?_)
  refine I_ifB_eq (pc := 180) hx 240 dX11_goesOn_180 rfl ?_ ?_
  · refine E_aload_n (pc := 240) hx 0 dX11_goesOn_240 rfl rfl ?_
    refine E_aload_n (pc := 241) hx 0 dX11_goesOn_241 rfl rfl ?_
    refine I_getI (pc := 242) hx 17 17 rfl fc9 h0 rfl ⟨rfl, rfl, rfl⟩ g1349 dX11_goesOn_242 ?_
    refine E_aload_n (pc := 245) hx 0 dX11_goesOn_245 rfl rfl ?_
    refine I_getI (pc := 246) hx 16 16 rfl fc9 h0 rfl ⟨rfl, rfl, rfl⟩ g1348 dX11_goesOn_246 ?_
    refine I_isub (pc := 249) hx dX11_goesOn_249 ?_
    refine I_iconst (pc := 250) hx 3 dX11_goesOn_250 ?_
    refine E_gd (fun hr13 => ?_)
    refine I_icmp_le (pc := 251) hx 258 dX11_goesOn_251 rfl ⟨hr13, (by decide)⟩ ?_ ?_
    · refine I_iconst (pc := 258) hx 2 dX11_goesOn_258 ?_
      refine I_put (pc := 259) hx 18 18 rfl .int tyX11 fc9 tyX11_ok h0 rfl ⟨rfl, rfl, rfl, rfl, pfd_I⟩ rfl rfl g1350 dX11_goesOn_259 (fun w14 => ?_)
      refine E_goto (pc := 262) hx 298 dX11_goesOn_262 rfl ?_
      exact E_vret (pc := 298) hx dX11_goesOn_298 rfl rfl (Nat.le_of_ble_eq_true rfl)
    refine I_iconst (pc := 254) hx 4 dX11_goesOn_254 ?_
    refine E_goto (pc := 255) hx 259 dX11_goesOn_255 rfl ?_
    refine I_put (pc := 259) hx 18 18 rfl .int tyX11 fc9 tyX11_ok h0 rfl ⟨rfl, rfl, rfl, rfl, pfd_I⟩ rfl rfl g1350 dX11_goesOn_259 (fun w15 => ?_)
    refine E_goto (pc := 262) hx 298 dX11_goesOn_262 rfl ?_
    exact E_vret (pc := 298) hx dX11_goesOn_298 rfl rfl (Nat.le_of_ble_eq_true rfl)
  refine E_aload_n (pc := 183) hx 0 dX11_goesOn_183 rfl rfl ?_
  refine E_aload_n (pc := 184) hx 0 dX11_goesOn_184 rfl rfl ?_
  refine I_getI (pc := 185) hx 17 17 rfl fc9 h0 rfl ⟨rfl, rfl, rfl⟩ g1349 dX11_goesOn_185 ?_
  refine E_aload_n (pc := 188) hx 0 dX11_goesOn_188 rfl rfl ?_
  refine I_getI (pc := 189) hx 16 16 rfl fc9 h0 rfl ⟨rfl, rfl, rfl⟩ g1348 dX11_goesOn_189 ?_
  refine I_isub (pc := 192) hx dX11_goesOn_192 ?_
  refine I_iconst (pc := 193) hx 3 dX11_goesOn_193 ?_
  refine E_gd (fun hr16 => ?_)
  refine I_icmp_ge (pc := 194) hx 220 dX11_goesOn_194 rfl ⟨hr16, (by decide)⟩ ?_ ?_
  · refine E_aload_n (pc := 220) hx 0 dX11_goesOn_220 rfl rfl ?_
    refine I_getI (pc := 221) hx 19 19 rfl fc9 h0 rfl ⟨rfl, rfl, rfl⟩ g1351 dX11_goesOn_221 ?_
    exact l_X11_goesOn_b224 F a0 h0 hx k172 hk172 (w a0 19) a0 h0 w
  refine I_bipush (pc := 197) hx 10 dX11_goesOn_197 rfl ?_
  refine E_aload_n (pc := 199) hx 0 dX11_goesOn_199 rfl rfl ?_
  refine I_getI (pc := 200) hx 19 19 rfl fc9 h0 rfl ⟨rfl, rfl, rfl⟩ g1351 dX11_goesOn_200 ?_
  refine I_imul (pc := 203) hx dX11_goesOn_203 ?_
  refine E_aload_n (pc := 204) hx 0 dX11_goesOn_204 rfl rfl ?_
  refine E_getR (pc := 205) hx 12 fc9 h0 rfl ⟨rfl, rfl, rfl⟩ g1344 dX11_goesOn_205 ?_
  refine E_aload_n (pc := 208) hx 0 dX11_goesOn_208 rfl rfl ?_
  refine I_getI (pc := 209) hx 17 17 rfl fc9 h0 rfl ⟨rfl, rfl, rfl⟩ g1349 dX11_goesOn_209 ?_
  refine I_bald (pc := 212) hx (kt_9_12 h0) dX11_goesOn_212 ?_
  refine I_iadd (pc := 213) hx dX11_goesOn_213 ?_
  refine I_bipush (pc := 214) hx 48 dX11_goesOn_214 rfl ?_
  refine I_isub (pc := 216) hx dX11_goesOn_216 ?_
  refine E_goto (pc := 217) hx 224 dX11_goesOn_217 rfl ?_
  exact l_X11_goesOn_b224 F a0 h0 hx k172 hk172 (((10 * (w a0 19)) + (w (shR a0 12) (w a0 17))) - 48) a0 h0 w
theorem l_X11_goesOn_b172 {x : Cx} (F : Nat) (a0 : Nat) (h0 : shK a0 = 10 + 9)  (hx : CxOK x RX11 cX11_goesOn 1 2 0 none)  : ∀ (n : Nat) (w : aI), En x jvV 0 0 172 [(0, .ref a0)] [] (cm w) (f_X11_goesOn_b172 F a0   n w) := by
  intro n
  induction n with
  | zero => intro  w; exact E_none
  | succ n ih => intro  w; exact l_X11_goesOn_b172_b F a0 h0  hx  _ ih  w
set_option maxHeartbeats 4000000 in
set_option maxRecDepth 100000 in
theorem l_X11_goesOn_b106_b {x : Cx} (F : Nat) (a0 : Nat) (h0 : shK a0 = 10 + 9)  (hx : CxOK x RX11 cX11_goesOn 1 2 0 none)  (k106 : aI → Option aI) (hk106 : ∀  (w : aI), En x jvV 0 0 106 [(0, .ref a0)] [] (cm w) (k106 w))  (w : aI) : En x jvV 0 0 106 [(0, .ref a0)] [] (cm w) (f_X11_goesOn_b106_b F a0   k106 w) := by
  unfold f_X11_goesOn_b106_b
  refine E_aload_n (pc := 106) hx 0 dX11_goesOn_106 rfl rfl ?_
  refine E_aload_n (pc := 107) hx 0 dX11_goesOn_107 rfl rfl ?_
  refine I_getI (pc := 108) hx 17 17 rfl fc9 h0 rfl ⟨rfl, rfl, rfl⟩ g1349 dX11_goesOn_108 ?_
  refine I_cVB  (pc := 111) hx [.int (oI (w a0 17))] [] (ev_X11_isLetter F a0 h0 (w a0 17) w) vm_X11_isLetter fc9 h0 g1461 dX11_goesOn_111 rfl rfl (Nat.le_of_ble_eq_true rfl) (Nat.le_of_ble_eq_true rfl) (Nat.le_of_ble_eq_true rfl) (fun r19 => ?_)
  refine I_ifB_eq (pc := 114) hx 130 dX11_goesOn_114 rfl ?_ ?_
  · refine E_aload_n (pc := 130) hx 0 dX11_goesOn_130 rfl rfl ?_
    refine E_aload_n (pc := 131) hx 0 dX11_goesOn_131 rfl rfl ?_
    refine I_getI (pc := 132) hx 17 17 rfl fc9 h0 rfl ⟨rfl, rfl, rfl⟩ g1349 dX11_goesOn_132 ?_
    refine E_aload_n (pc := 135) hx 0 dX11_goesOn_135 rfl rfl ?_
    refine I_getI (pc := 136) hx 16 16 rfl fc9 h0 rfl ⟨rfl, rfl, rfl⟩ g1348 dX11_goesOn_136 ?_
    refine I_isub (pc := 139) hx dX11_goesOn_139 ?_
    refine I_bipush (pc := 140) hx 8 dX11_goesOn_140 rfl ?_
    refine E_gd (fun hr20 => ?_)
    refine I_icmp_le (pc := 142) hx 149 dX11_goesOn_142 rfl ⟨hr20, (by decide)⟩ ?_ ?_
    · refine I_iconst (pc := 149) hx 1 dX11_goesOn_149 ?_
      refine I_put (pc := 150) hx 18 18 rfl .int tyX11 fc9 tyX11_ok h0 rfl ⟨rfl, rfl, rfl, rfl, pfd_I⟩ rfl rfl g1350 dX11_goesOn_150 (fun w21 => ?_)
      refine E_goto (pc := 153) hx 298 dX11_goesOn_153 rfl ?_
      exact E_vret (pc := 298) hx dX11_goesOn_298 rfl rfl (Nat.le_of_ble_eq_true rfl)
    refine I_iconst (pc := 145) hx 4 dX11_goesOn_145 ?_
    refine E_goto (pc := 146) hx 150 dX11_goesOn_146 rfl ?_
    refine I_put (pc := 150) hx 18 18 rfl .int tyX11 fc9 tyX11_ok h0 rfl ⟨rfl, rfl, rfl, rfl, pfd_I⟩ rfl rfl g1350 dX11_goesOn_150 (fun w22 => ?_)
    refine E_goto (pc := 153) hx 298 dX11_goesOn_153 rfl ?_
    exact E_vret (pc := 298) hx dX11_goesOn_298 rfl rfl (Nat.le_of_ble_eq_true rfl)
  refine E_aload_n (pc := 117) hx 0 dX11_goesOn_117 rfl rfl ?_
  refine E_dup (pc := 118) hx dX11_goesOn_118 rfl ?_
  refine I_getI (pc := 119) hx 17 17 rfl fc9 h0 rfl ⟨rfl, rfl, rfl⟩ g1349 dX11_goesOn_119 ?_
  refine I_iconst (pc := 122) hx 1 dX11_goesOn_122 ?_
  refine I_iadd (pc := 123) hx dX11_goesOn_123 ?_
  refine I_put (pc := 124) hx 17 17 rfl .int tyX11 fc9 tyX11_ok h0 rfl ⟨rfl, rfl, rfl, rfl, pfd_I⟩ rfl rfl g1349 dX11_goesOn_124 (fun w23 => ?_)
  refine E_goto (pc := 127) hx 106 dX11_goesOn_127 rfl ?_
  exact hk106 w23
theorem l_X11_goesOn_b106 {x : Cx} (F : Nat) (a0 : Nat) (h0 : shK a0 = 10 + 9)  (hx : CxOK x RX11 cX11_goesOn 1 2 0 none)  : ∀ (n : Nat) (w : aI), En x jvV 0 0 106 [(0, .ref a0)] [] (cm w) (f_X11_goesOn_b106 F a0   n w) := by
  intro n
  induction n with
  | zero => intro  w; exact E_none
  | succ n ih => intro  w; exact l_X11_goesOn_b106_b F a0 h0  hx  _ ih  w
set_option maxHeartbeats 4000000 in
set_option maxRecDepth 100000 in
theorem l_X11_goesOn_b68 {x : Cx} (F : Nat) (a0 : Nat) (h0 : shK a0 = 10 + 9)  (hx : CxOK x RX11 cX11_goesOn 1 2 0 none)    (w : aI) : En x jvV 0 0 68 [(0, .ref a0)] [] (cm w) (f_X11_goesOn_b68 F a0    w) := by
  unfold f_X11_goesOn_b68
  refine E_aload_n (pc := 68) hx 0 dX11_goesOn_68 rfl rfl ?_
  refine E_aload_n (pc := 69) hx 0 dX11_goesOn_69 rfl rfl ?_
  refine I_getI (pc := 70) hx 16 16 rfl fc9 h0 rfl ⟨rfl, rfl, rfl⟩ g1348 dX11_goesOn_70 ?_
  refine I_put (pc := 73) hx 17 17 rfl .int tyX11 fc9 tyX11_ok h0 rfl ⟨rfl, rfl, rfl, rfl, pfd_I⟩ rfl rfl g1349 dX11_goesOn_73 (fun w4 => ?_)
  refine E_aload_n (pc := 76) hx 0 dX11_goesOn_76 rfl rfl ?_
  refine I_getI (pc := 77) hx 16 16 rfl fc9 h0 rfl ⟨rfl, rfl, rfl⟩ g1348 dX11_goesOn_77 ?_
  refine E_aload_n (pc := 80) hx 0 dX11_goesOn_80 rfl rfl ?_
  refine I_getI (pc := 81) hx 13 13 rfl fc9 h0 rfl ⟨rfl, rfl, rfl⟩ g1345 dX11_goesOn_81 ?_
  refine E_gd (fun hr5 => ?_)
  refine I_icmp_ne (pc := 84) hx 95 dX11_goesOn_84 rfl ⟨hr5.1, hr5.2⟩ ?_ ?_
  · refine E_aload_n (pc := 95) hx 0 dX11_goesOn_95 rfl rfl ?_
    refine E_aload_n (pc := 96) hx 0 dX11_goesOn_96 rfl rfl ?_
    refine I_getI (pc := 97) hx 16 16 rfl fc9 h0 rfl ⟨rfl, rfl, rfl⟩ g1348 dX11_goesOn_97 ?_
    refine I_cVB  (pc := 100) hx [.int (oI (w4 a0 16))] [] (ev_X11_isLetter F a0 h0 (w4 a0 16) w4) vm_X11_isLetter fc9 h0 g1461 dX11_goesOn_100 rfl rfl (Nat.le_of_ble_eq_true rfl) (Nat.le_of_ble_eq_true rfl) (Nat.le_of_ble_eq_true rfl) (fun r6 => ?_)
    refine I_ifB_eq (pc := 103) hx 156 dX11_goesOn_103 rfl ?_ ?_
    · refine E_aload_n (pc := 156) hx 0 dX11_goesOn_156 rfl rfl ?_
      refine E_aload_n (pc := 157) hx 0 dX11_goesOn_157 rfl rfl ?_
      refine I_getI (pc := 158) hx 16 16 rfl fc9 h0 rfl ⟨rfl, rfl, rfl⟩ g1348 dX11_goesOn_158 ?_
      refine I_cVB  (pc := 161) hx [.int (oI (w4 a0 16))] [] (ev_X11_isDigit F a0 h0 (w4 a0 16) w4) vm_X11_isDigit fc9 h0 g1467 dX11_goesOn_161 rfl rfl (Nat.le_of_ble_eq_true rfl) (Nat.le_of_ble_eq_true rfl) (Nat.le_of_ble_eq_true rfl) (fun r7 => ?_)
      refine I_ifB_eq (pc := 164) hx 265 dX11_goesOn_164 rfl ?_ ?_
      · refine E_aload_n (pc := 265) hx 0 dX11_goesOn_265 rfl rfl ?_
        refine E_aload_n (pc := 266) hx 0 dX11_goesOn_266 rfl rfl ?_
        refine E_getR (pc := 267) hx 12 fc9 h0 rfl ⟨rfl, rfl, rfl⟩ g1344 dX11_goesOn_267 ?_
        refine E_aload_n (pc := 270) hx 0 dX11_goesOn_270 rfl rfl ?_
        refine I_getI (pc := 271) hx 16 16 rfl fc9 h0 rfl ⟨rfl, rfl, rfl⟩ g1348 dX11_goesOn_271 ?_
        refine I_bald (pc := 274) hx (kt_9_12 h0) dX11_goesOn_274 ?_
        refine I_bipush (pc := 275) hx 59 dX11_goesOn_275 rfl ?_
        refine E_gd (fun hr8 => ?_)
        refine I_icmp_ne (pc := 277) hx 284 dX11_goesOn_277 rfl ⟨hr8, (by decide)⟩ ?_ ?_
        · refine I_iconst (pc := 284) hx 4 dX11_goesOn_284 ?_
          exact l_X11_goesOn_b285 F a0 h0 hx 4 a0 h0 w4
        refine I_iconst (pc := 280) hx 3 dX11_goesOn_280 ?_
        refine E_goto (pc := 281) hx 285 dX11_goesOn_281 rfl ?_
        exact l_X11_goesOn_b285 F a0 h0 hx 3 a0 h0 w4
      refine E_aload_n (pc := 167) hx 0 dX11_goesOn_167 rfl rfl ?_
      refine I_iconst (pc := 168) hx 0 dX11_goesOn_168 ?_
      refine I_put (pc := 169) hx 19 19 rfl .int tyX11 fc9 tyX11_ok h0 rfl ⟨rfl, rfl, rfl, rfl, pfd_I⟩ rfl rfl g1351 dX11_goesOn_169 (fun w11 => ?_)
      exact l_X11_goesOn_b172 F a0 h0 hx F w11
    exact l_X11_goesOn_b106 F a0 h0 hx F w4
  refine E_aload_n (pc := 87) hx 0 dX11_goesOn_87 rfl rfl ?_
  refine I_iconst (pc := 88) hx 0 dX11_goesOn_88 ?_
  refine I_put (pc := 89) hx 18 18 rfl .int tyX11 fc9 tyX11_ok h0 rfl ⟨rfl, rfl, rfl, rfl, pfd_I⟩ rfl rfl g1350 dX11_goesOn_89 (fun w24 => ?_)
  refine E_goto (pc := 92) hx 298 dX11_goesOn_92 rfl ?_
  exact E_vret (pc := 298) hx dX11_goesOn_298 rfl rfl (Nat.le_of_ble_eq_true rfl)
set_option maxHeartbeats 4000000 in
set_option maxRecDepth 100000 in
theorem l_X11_goesOn_b55 {x : Cx} (F : Nat) (a0 : Nat) (h0 : shK a0 = 10 + 9)  (hx : CxOK x RX11 cX11_goesOn 1 2 0 none) (k16 : aI → Option aI) (hk16 : ∀  (w : aI), En x jvV 0 0 16 [(0, .ref a0)] [] (cm w) (k16 w))   (w : aI) : En x jvV 0 0 55 [(0, .ref a0)] [] (cm w) (f_X11_goesOn_b55 F a0  k16  w) := by
  unfold f_X11_goesOn_b55
  refine E_aload_n (pc := 55) hx 0 dX11_goesOn_55 rfl rfl ?_
  refine E_dup (pc := 56) hx dX11_goesOn_56 rfl ?_
  refine I_getI (pc := 57) hx 16 16 rfl fc9 h0 rfl ⟨rfl, rfl, rfl⟩ g1348 dX11_goesOn_57 ?_
  refine I_iconst (pc := 60) hx 1 dX11_goesOn_60 ?_
  refine I_iadd (pc := 61) hx dX11_goesOn_61 ?_
  refine I_put (pc := 62) hx 16 16 rfl .int tyX11 fc9 tyX11_ok h0 rfl ⟨rfl, rfl, rfl, rfl, pfd_I⟩ rfl rfl g1348 dX11_goesOn_62 (fun w26 => ?_)
  refine E_goto (pc := 65) hx 16 dX11_goesOn_65 rfl ?_
  exact hk16 w26
set_option maxHeartbeats 4000000 in
set_option maxRecDepth 100000 in
theorem l_X11_goesOn_b16_b {x : Cx} (F : Nat) (a0 : Nat) (h0 : shK a0 = 10 + 9)  (hx : CxOK x RX11 cX11_goesOn 1 2 0 none)  (k16 : aI → Option aI) (hk16 : ∀  (w : aI), En x jvV 0 0 16 [(0, .ref a0)] [] (cm w) (k16 w))  (w : aI) : En x jvV 0 0 16 [(0, .ref a0)] [] (cm w) (f_X11_goesOn_b16_b F a0   k16 w) := by
  unfold f_X11_goesOn_b16_b
  refine E_aload_n (pc := 16) hx 0 dX11_goesOn_16 rfl rfl ?_
  refine I_getI (pc := 17) hx 16 16 rfl fc9 h0 rfl ⟨rfl, rfl, rfl⟩ g1348 dX11_goesOn_17 ?_
  refine E_aload_n (pc := 20) hx 0 dX11_goesOn_20 rfl rfl ?_
  refine I_getI (pc := 21) hx 13 13 rfl fc9 h0 rfl ⟨rfl, rfl, rfl⟩ g1345 dX11_goesOn_21 ?_
  refine E_gd (fun hr3 => ?_)
  refine I_icmp_ge (pc := 24) hx 68 dX11_goesOn_24 rfl ⟨hr3.1, hr3.2⟩ ?_ ?_
  · exact l_X11_goesOn_b68 F a0 h0 hx w
  refine E_aload_n (pc := 27) hx 0 dX11_goesOn_27 rfl rfl ?_
  refine E_getR (pc := 28) hx 12 fc9 h0 rfl ⟨rfl, rfl, rfl⟩ g1344 dX11_goesOn_28 ?_
  refine E_aload_n (pc := 31) hx 0 dX11_goesOn_31 rfl rfl ?_
  refine I_getI (pc := 32) hx 16 16 rfl fc9 h0 rfl ⟨rfl, rfl, rfl⟩ g1348 dX11_goesOn_32 ?_
  refine I_bald (pc := 35) hx (kt_9_12 h0) dX11_goesOn_35 ?_
  refine I_bipush (pc := 36) hx 32 dX11_goesOn_36 rfl ?_
  refine E_gd (fun hr25 => ?_)
  refine I_icmp_eq (pc := 38) hx 55 dX11_goesOn_38 rfl ⟨hr25, (by decide)⟩ ?_ ?_
  · exact l_X11_goesOn_b55 F a0 h0 hx k16 hk16 w
  refine E_aload_n (pc := 41) hx 0 dX11_goesOn_41 rfl rfl ?_
  refine E_getR (pc := 42) hx 12 fc9 h0 rfl ⟨rfl, rfl, rfl⟩ g1344 dX11_goesOn_42 ?_
  refine E_aload_n (pc := 45) hx 0 dX11_goesOn_45 rfl rfl ?_
  refine I_getI (pc := 46) hx 16 16 rfl fc9 h0 rfl ⟨rfl, rfl, rfl⟩ g1348 dX11_goesOn_46 ?_
  refine I_bald (pc := 49) hx (kt_9_12 h0) dX11_goesOn_49 ?_
  refine I_bipush (pc := 50) hx 10 dX11_goesOn_50 rfl ?_
  refine I_icmp_ne (pc := 52) hx 68 dX11_goesOn_52 rfl ⟨hr25, (by decide)⟩ ?_ ?_
  · exact l_X11_goesOn_b68 F a0 h0 hx w
  exact l_X11_goesOn_b55 F a0 h0 hx k16 hk16 w
theorem l_X11_goesOn_b16 {x : Cx} (F : Nat) (a0 : Nat) (h0 : shK a0 = 10 + 9)  (hx : CxOK x RX11 cX11_goesOn 1 2 0 none)  : ∀ (n : Nat) (w : aI), En x jvV 0 0 16 [(0, .ref a0)] [] (cm w) (f_X11_goesOn_b16 F a0   n w) := by
  intro n
  induction n with
  | zero => intro  w; exact E_none
  | succ n ih => intro  w; exact l_X11_goesOn_b16_b F a0 h0  hx  _ ih  w
set_option maxHeartbeats 4000000 in
set_option maxRecDepth 100000 in
theorem ev_X11_goesOn (F : Nat) (a0 : Nat) (h0 : shK a0 = 10 + 9) (w : aI) : Ev yX11_goesOn cX11_goesOn 1 none 2 0 jvV [.ref a0] (cm w) (f_X11_goesOn F a0 w) := by
  refine Ev.of (own := RX11) (by decide +kernel) rfl (Nat.le_of_ble_eq_true rfl) (fun x hx => ?_)
  show En x jvV 0 0 0 [(0, .ref a0)] [] (cm w) _
  unfold f_X11_goesOn
  refine E_aload_n (pc := 0) hx 0 dX11_goesOn_0 rfl rfl ?_
  refine I_getI (pc := 1) hx 20 20 rfl fc9 h0 rfl ⟨rfl, rfl, rfl⟩ g1352 dX11_goesOn_1 ?_
  refine E_gd (fun hr1 => ?_)
  refine I_if_le (pc := 4) hx 8 dX11_goesOn_4 rfl hr1 ?_ ?_
  · refine E_aload_n (pc := 8) hx 0 dX11_goesOn_8 rfl rfl ?_
    refine E_aload_n (pc := 9) hx 0 dX11_goesOn_9 rfl rfl ?_
    refine I_getI (pc := 10) hx 17 17 rfl fc9 h0 rfl ⟨rfl, rfl, rfl⟩ g1349 dX11_goesOn_10 ?_
    refine I_put (pc := 13) hx 16 16 rfl .int tyX11 fc9 tyX11_ok h0 rfl ⟨rfl, rfl, rfl, rfl, pfd_I⟩ rfl rfl g1348 dX11_goesOn_13 (fun w2 => ?_)
    exact l_X11_goesOn_b16 F a0 h0 hx F w2
  exact E_vret (pc := 7) hx dX11_goesOn_7 rfl rfl (Nat.le_of_ble_eq_true rfl)
set_option maxHeartbeats 4000000 in
set_option maxRecDepth 100000 in
theorem ev_X11_need (F : Nat) (a0 : Nat) (h0 : shK a0 = 10 + 9) (p1 : Int) (p2 : Int) (w : aI) : Ev yX11_need cX11_need 3 none 0 0 jvV [.ref a0, .int (oI p1), .int (oI p2)] (cm w) (f_X11_need F a0 p1 p2 w) := by
  refine Ev.of (own := RX11) (by decide +kernel) rfl (Nat.le_of_ble_eq_true rfl) (fun x hx => ?_)
  show En x jvV 0 0 0 [(0, .ref a0), (1, .int (oI p1)), (2, .int (oI p2))] [] (cm w) _
  unfold f_X11_need
  refine E_aload_n (pc := 0) hx 0 dX11_need_0 rfl rfl ?_
  refine I_getI (pc := 1) hx 20 20 rfl fc9 h0 rfl ⟨rfl, rfl, rfl⟩ g1352 dX11_need_1 ?_
  refine E_gd (fun hr1 => ?_)
  refine I_if_ne (pc := 4) hx 24 dX11_need_4 rfl hr1 ?_ ?_
  · exact E_vret (pc := 24) hx dX11_need_24 rfl rfl (Nat.le_of_ble_eq_true rfl)
  refine E_iload_n (pc := 7) hx 1 dX11_need_7 rfl rfl ?_
  refine E_gd (fun hr2 => ?_)
  refine I_if_ne (pc := 8) hx 24 dX11_need_8 rfl hr2 ?_ ?_
  · exact E_vret (pc := 24) hx dX11_need_24 rfl rfl (Nat.le_of_ble_eq_true rfl)
  refine E_aload_n (pc := 11) hx 0 dX11_need_11 rfl rfl ?_
  refine E_iload_n (pc := 12) hx 2 dX11_need_12 rfl rfl ?_
  refine I_put (pc := 13) hx 20 20 rfl .int tyX11 fc9 tyX11_ok h0 rfl ⟨rfl, rfl, rfl, rfl, pfd_I⟩ rfl rfl g1352 dX11_need_13 (fun w3 => ?_)
  refine E_aload_n (pc := 16) hx 0 dX11_need_16 rfl rfl ?_
  refine E_aload_n (pc := 17) hx 0 dX11_need_17 rfl rfl ?_
  refine I_getI (pc := 18) hx 16 16 rfl fc9 h0 rfl ⟨rfl, rfl, rfl⟩ g1348 dX11_need_18 ?_
  refine I_put (pc := 21) hx 21 21 rfl .int tyX11 fc9 tyX11_ok h0 rfl ⟨rfl, rfl, rfl, rfl, pfd_I⟩ rfl rfl g1353 dX11_need_21 (fun w4 => ?_)
  exact E_vret (pc := 24) hx dX11_need_24 rfl rfl (Nat.le_of_ble_eq_true rfl)
set_option maxHeartbeats 4000000 in
set_option maxRecDepth 100000 in
theorem ev_X11_starts (F : Nat) (a0 : Nat) (h0 : shK a0 = 10 + 9) (w : aI) : Ev yX11_starts cX11_starts 1 none 3 0 jvV [.ref a0] (cm w) (f_X11_starts F a0 w) := by
  refine Ev.of (own := RX11) (by decide +kernel) rfl (Nat.le_of_ble_eq_true rfl) (fun x hx => ?_)
  show En x jvV 0 0 0 [(0, .ref a0)] [] (cm w) _
  unfold f_X11_starts
  refine E_aload_n (pc := 0) hx 0 dX11_starts_0 rfl rfl ?_
  refine I_iconst (pc := 1) hx 0 dX11_starts_1 ?_
  refine I_put (pc := 2) hx 20 20 rfl .int tyX11 fc9 tyX11_ok h0 rfl ⟨rfl, rfl, rfl, rfl, pfd_I⟩ rfl rfl g1352 dX11_starts_2 (fun w1 => ?_)
  refine E_aload_n (pc := 5) hx 0 dX11_starts_5 rfl rfl ?_
  refine I_iconst (pc := 6) hx 0 dX11_starts_6 ?_
  refine I_put (pc := 7) hx 17 17 rfl .int tyX11 fc9 tyX11_ok h0 rfl ⟨rfl, rfl, rfl, rfl, pfd_I⟩ rfl rfl g1349 dX11_starts_7 (fun w2 => ?_)
  refine E_aload_n (pc := 10) hx 0 dX11_starts_10 rfl rfl ?_
  refine I_cVV  (pc := 11) hx [] [] (ev_X11_goesOn F a0 h0 w2) vm_X11_goesOn fc9 h0 g1457 dX11_starts_11 rfl rfl (Nat.le_of_ble_eq_true rfl) (Nat.le_of_ble_eq_true rfl) (Nat.le_of_ble_eq_true rfl) (fun w3 => ?_)
  exact E_vret (pc := 14) hx dX11_starts_14 rfl rfl (Nat.le_of_ble_eq_true rfl)
set_option maxHeartbeats 4000000 in
set_option maxRecDepth 100000 in
theorem ev_X11_ending (F : Nat) (a0 : Nat) (h0 : shK a0 = 10 + 9) (w : aI) : Ev yX11_ending cX11_ending 1 none 0 0 jvV [.ref a0] (cm w) (f_X11_ending F a0 w) := by
  refine Ev.of (own := RX11) (by decide +kernel) rfl (Nat.le_of_ble_eq_true rfl) (fun x hx => ?_)
  show En x jvV 0 0 0 [(0, .ref a0)] [] (cm w) _
  unfold f_X11_ending
  refine E_aload_n (pc := 0) hx 0 dX11_ending_0 rfl rfl ?_
  refine E_aload_n (pc := 1) hx 0 dX11_ending_1 rfl rfl ?_
  refine I_getI (pc := 2) hx 20 20 rfl fc9 h0 rfl ⟨rfl, rfl, rfl⟩ g1352 dX11_ending_2 ?_
  refine I_put (pc := 5) hx 14 14 rfl .int tyX11 fc9 tyX11_ok h0 rfl ⟨rfl, rfl, rfl, rfl, pfd_I⟩ rfl rfl g1346 dX11_ending_5 (fun w1 => ?_)
  refine E_aload_n (pc := 8) hx 0 dX11_ending_8 rfl rfl ?_
  refine E_aload_n (pc := 9) hx 0 dX11_ending_9 rfl rfl ?_
  refine I_getI (pc := 10) hx 20 20 rfl fc9 h0 rfl ⟨rfl, rfl, rfl⟩ g1352 dX11_ending_10 ?_
  refine E_gd (fun hr2 => ?_)
  refine I_if_ne (pc := 13) hx 20 dX11_ending_13 rfl hr2 ?_ ?_
  · refine E_aload_n (pc := 20) hx 0 dX11_ending_20 rfl rfl ?_
    refine I_getI (pc := 21) hx 21 21 rfl fc9 h0 rfl ⟨rfl, rfl, rfl⟩ g1353 dX11_ending_21 ?_
    refine I_put (pc := 24) hx 15 15 rfl .int tyX11 fc9 tyX11_ok h0 rfl ⟨rfl, rfl, rfl, rfl, pfd_I⟩ rfl rfl g1347 dX11_ending_24 (fun w3 => ?_)
    refine E_aload_n (pc := 27) hx 0 dX11_ending_27 rfl rfl ?_
    refine I_iconst (pc := 28) hx 0 dX11_ending_28 ?_
    refine I_put (pc := 29) hx 13 13 rfl .int tyX11 fc9 tyX11_ok h0 rfl ⟨rfl, rfl, rfl, rfl, pfd_I⟩ rfl rfl g1345 dX11_ending_29 (fun w4 => ?_)
    exact E_vret (pc := 32) hx dX11_ending_32 rfl rfl (Nat.le_of_ble_eq_true rfl)
  refine I_iconst (pc := 16) hx (-1) dX11_ending_16 ?_
  refine E_goto (pc := 17) hx 24 dX11_ending_17 rfl ?_
  refine I_put (pc := 24) hx 15 15 rfl .int tyX11 fc9 tyX11_ok h0 rfl ⟨rfl, rfl, rfl, rfl, pfd_I⟩ rfl rfl g1347 dX11_ending_24 (fun w5 => ?_)
  refine E_aload_n (pc := 27) hx 0 dX11_ending_27 rfl rfl ?_
  refine I_iconst (pc := 28) hx 0 dX11_ending_28 ?_
  refine I_put (pc := 29) hx 13 13 rfl .int tyX11 fc9 tyX11_ok h0 rfl ⟨rfl, rfl, rfl, rfl, pfd_I⟩ rfl rfl g1345 dX11_ending_29 (fun w6 => ?_)
  exact E_vret (pc := 32) hx dX11_ending_32 rfl rfl (Nat.le_of_ble_eq_true rfl)
set_option maxHeartbeats 4000000 in
set_option maxRecDepth 100000 in
theorem l_X11_isWord_b35_b {x : Cx} (F : Nat) (a0 : Nat) (h0 : shK a0 = 10 + 9) (s1 : Nat) (w : aI) (hx : CxOK x RX11 cX11_isWord 3 6 0 (some .boolean))  (k35 : Int → Option Bool) (hk35 : ∀ (v2 : Int), En x (jvB w) 0 0 35 [(0, .ref a0), (1, .ref (sx s1)), (2, .int (oI v2))] [] (cm w) (k35 v2)) (v2 : Int)  : En x (jvB w) 0 0 35 [(0, .ref a0), (1, .ref (sx s1)), (2, .int (oI v2))] [] (cm w) (f_X11_isWord_b35_b F a0 s1 w  k35 v2) := by
  unfold f_X11_isWord_b35_b
  refine E_iload_n (pc := 35) hx 2 dX11_isWord_35 rfl rfl ?_
  refine E_aload_n (pc := 36) hx 1 dX11_isWord_36 rfl rfl ?_
  refine I_strlen (pc := 37) hx [.int (oI v2)] g1316 dX11_isWord_37 (Nat.le_of_ble_eq_true rfl) (Nat.le_of_ble_eq_true rfl) (Nat.le_of_ble_eq_true rfl) (fun r5 => ?_)
  refine E_gd (fun hr6 => ?_)
  refine I_icmp_ge (pc := 40) hx 70 dX11_isWord_40 rfl ⟨hr6.1, hr6.2⟩ ?_ ?_
  · refine I_iconst (pc := 70) hx 1 dX11_isWord_70 ?_
    exact E_zret (pc := 71) hx dX11_isWord_71 rfl rfl rfl (Nat.le_of_ble_eq_true rfl)
  refine E_aload_n (pc := 43) hx 0 dX11_isWord_43 rfl rfl ?_
  refine E_getR (pc := 44) hx 12 fc9 h0 rfl ⟨rfl, rfl, rfl⟩ g1344 dX11_isWord_44 ?_
  refine E_aload_n (pc := 47) hx 0 dX11_isWord_47 rfl rfl ?_
  refine I_getI (pc := 48) hx 16 16 rfl fc9 h0 rfl ⟨rfl, rfl, rfl⟩ g1348 dX11_isWord_48 ?_
  refine E_iload_n (pc := 51) hx 2 dX11_isWord_51 rfl rfl ?_
  refine I_iadd (pc := 52) hx dX11_isWord_52 ?_
  refine I_bald (pc := 53) hx (kt_9_12 h0) dX11_isWord_53 ?_
  refine E_aload_n (pc := 54) hx 1 dX11_isWord_54 rfl rfl ?_
  refine E_iload_n (pc := 55) hx 2 dX11_isWord_55 rfl rfl ?_
  refine I_strchr (pc := 56) hx [.int (oI (w (shR a0 12) ((w a0 16) + v2)))] g1317 dX11_isWord_56 (Nat.le_of_ble_eq_true rfl) (Nat.le_of_ble_eq_true rfl) (Nat.le_of_ble_eq_true rfl) (fun r7 => ?_)
  refine E_gd (fun hr8 => ?_)
  refine I_icmp_eq (pc := 59) hx 64 dX11_isWord_59 rfl ⟨hr8.1, hr8.2⟩ ?_ ?_
  · refine I_iinc (pc := 64) hx 1 2 dX11_isWord_64 rfl (Nat.le_of_ble_eq_true rfl) rfl ?_
    refine E_goto (pc := 67) hx 35 dX11_isWord_67 rfl ?_
    refine En.sub [1, 2, 0] rfl ?_
    exact hk35 (v2 + 1)
  refine I_iconst (pc := 62) hx 0 dX11_isWord_62 ?_
  exact E_zret (pc := 63) hx dX11_isWord_63 rfl rfl rfl (Nat.le_of_ble_eq_true rfl)
theorem l_X11_isWord_b35 {x : Cx} (F : Nat) (a0 : Nat) (h0 : shK a0 = 10 + 9) (s1 : Nat) (w : aI) (hx : CxOK x RX11 cX11_isWord 3 6 0 (some .boolean))  : ∀ (n : Nat) (v2 : Int), En x (jvB w) 0 0 35 [(0, .ref a0), (1, .ref (sx s1)), (2, .int (oI v2))] [] (cm w) (f_X11_isWord_b35 F a0 s1 w  n v2) := by
  intro n
  induction n with
  | zero => intro v2; exact E_none
  | succ n ih => intro v2; exact l_X11_isWord_b35_b F a0 h0 s1 w hx  _ ih v2
set_option maxHeartbeats 4000000 in
set_option maxRecDepth 100000 in
theorem ev_X11_isWord (F : Nat) (a0 : Nat) (h0 : shK a0 = 10 + 9) (s1 : Nat) (w : aI) : Ev yX11_isWord cX11_isWord 3 (some .boolean) 6 0 (jvB w) [.ref a0, .ref (sx s1)] (cm w) (f_X11_isWord F a0 s1 w) := by
  refine Ev.of (own := RX11) (by decide +kernel) rfl (Nat.le_of_ble_eq_true rfl) (fun x hx => ?_)
  show En x (jvB w) 0 0 0 [(0, .ref a0), (1, .ref (sx s1))] [] (cm w) _
  unfold f_X11_isWord
  refine E_aload_n (pc := 0) hx 0 dX11_isWord_0 rfl rfl ?_
  refine I_getI (pc := 1) hx 20 20 rfl fc9 h0 rfl ⟨rfl, rfl, rfl⟩ g1352 dX11_isWord_1 ?_
  refine E_gd (fun hr1 => ?_)
  refine I_if_gt (pc := 4) hx 31 dX11_isWord_4 rfl hr1 ?_ ?_
  · refine I_iconst (pc := 31) hx 0 dX11_isWord_31 ?_
    exact E_zret (pc := 32) hx dX11_isWord_32 rfl rfl rfl (Nat.le_of_ble_eq_true rfl)
  refine E_aload_n (pc := 7) hx 0 dX11_isWord_7 rfl rfl ?_
  refine I_getI (pc := 8) hx 18 18 rfl fc9 h0 rfl ⟨rfl, rfl, rfl⟩ g1350 dX11_isWord_8 ?_
  refine I_iconst (pc := 11) hx 1 dX11_isWord_11 ?_
  refine E_gd (fun hr2 => ?_)
  refine I_icmp_ne (pc := 12) hx 31 dX11_isWord_12 rfl ⟨hr2, (by decide)⟩ ?_ ?_
  · refine I_iconst (pc := 31) hx 0 dX11_isWord_31 ?_
    exact E_zret (pc := 32) hx dX11_isWord_32 rfl rfl rfl (Nat.le_of_ble_eq_true rfl)
  refine E_aload_n (pc := 15) hx 0 dX11_isWord_15 rfl rfl ?_
  refine I_getI (pc := 16) hx 17 17 rfl fc9 h0 rfl ⟨rfl, rfl, rfl⟩ g1349 dX11_isWord_16 ?_
  refine E_aload_n (pc := 19) hx 0 dX11_isWord_19 rfl rfl ?_
  refine I_getI (pc := 20) hx 16 16 rfl fc9 h0 rfl ⟨rfl, rfl, rfl⟩ g1348 dX11_isWord_20 ?_
  refine I_isub (pc := 23) hx dX11_isWord_23 ?_
  refine E_aload_n (pc := 24) hx 1 dX11_isWord_24 rfl rfl ?_
  refine I_strlen (pc := 25) hx [.int (oI ((w a0 17) - (w a0 16)))] g1316 dX11_isWord_25 (Nat.le_of_ble_eq_true rfl) (Nat.le_of_ble_eq_true rfl) (Nat.le_of_ble_eq_true rfl) (fun r3 => ?_)
  refine E_gd (fun hr4 => ?_)
  refine I_icmp_eq (pc := 28) hx 33 dX11_isWord_28 rfl ⟨hr4.1, hr4.2⟩ ?_ ?_
  · refine I_iconst (pc := 33) hx 0 dX11_isWord_33 ?_
    refine E_istore_n (pc := 34) hx dX11_isWord_34 rfl (Nat.le_of_ble_eq_true rfl) rfl ?_
    refine En.sub [1, 2, 0] rfl ?_
    exact l_X11_isWord_b35 F a0 h0 s1 w hx F 0
  refine I_iconst (pc := 31) hx 0 dX11_isWord_31 ?_
  exact E_zret (pc := 32) hx dX11_isWord_32 rfl rfl rfl (Nat.le_of_ble_eq_true rfl)
set_option maxHeartbeats 4000000 in
set_option maxRecDepth 100000 in
theorem l_X11_numberHere_b14 {x : Cx} (F : Nat) (a0 : Nat) (h0 : shK a0 = 10 + 9) (p1 : Int) (p2 : Int)  (hx : CxOK x RX11 cX11_numberHere 3 1 0 (some .int))   (z0 : Int) (z1 : Nat) (hz1 : shK z1 = 10 + 9) (w : aI) : En x jvIW 0 0 14 [(0, .ref a0), (1, .int (oI p1)), (2, .int (oI p2))] [.int (oI z0), .ref z1] (cm w) (f_X11_numberHere_b14 F a0 p1 p2    z0 z1 w) := by
  unfold f_X11_numberHere_b14
  refine I_iconst (pc := 14) hx 1 dX11_numberHere_14 ?_
  refine I_cVV  (pc := 15) hx [.int (oI z0), .int (oI 1)] [] (ev_X11_need F z1 hz1 z0 1 w) vm_X11_need fc9 hz1 g1486 dX11_numberHere_15 rfl rfl (Nat.le_of_ble_eq_true rfl) (Nat.le_of_ble_eq_true rfl) (Nat.le_of_ble_eq_true rfl) (fun w2 => ?_)
  refine E_aload_n (pc := 18) hx 0 dX11_numberHere_18 rfl rfl ?_
  refine E_aload_n (pc := 19) hx 0 dX11_numberHere_19 rfl rfl ?_
  refine I_getI (pc := 20) hx 19 19 rfl fc9 h0 rfl ⟨rfl, rfl, rfl⟩ g1351 dX11_numberHere_20 ?_
  refine E_gd (fun hr3 => ?_)
  refine I_i2l (pc := 23) hx dX11_numberHere_23 hr3 ?_
  refine E_iload_n (pc := 24) hx 1 dX11_numberHere_24 rfl rfl ?_
  refine E_gd (fun hr4 => ?_)
  refine I_i2l (pc := 25) hx dX11_numberHere_25 hr4 ?_
  refine E_iload_n (pc := 26) hx 2 dX11_numberHere_26 rfl rfl ?_
  refine E_gd (fun hr5 => ?_)
  refine I_i2l (pc := 27) hx dX11_numberHere_27 hr5 ?_
  refine I_cSB  (pc := 28) hx [.long (oL (w2 a0 19)), .long (oL p1), .long (oL p2)] [.ref a0] (ev_X11_in F (w2 a0 19) p1 p2 w2) sm_X11_in g1434 dX11_numberHere_28 rfl rfl (Nat.le_of_ble_eq_true rfl) (Nat.le_of_ble_eq_true rfl) (Nat.le_of_ble_eq_true rfl) (fun r6 => ?_)
  refine I_iconst (pc := 31) hx 2 dX11_numberHere_31 ?_
  refine I_cVV  (pc := 32) hx [.int (oI (bI r6)), .int (oI 2)] [] (ev_X11_need F a0 h0 (bI r6) 2 w2) vm_X11_need fc9 h0 g1486 dX11_numberHere_32 rfl rfl (Nat.le_of_ble_eq_true rfl) (Nat.le_of_ble_eq_true rfl) (Nat.le_of_ble_eq_true rfl) (fun w7 => ?_)
  refine E_aload_n (pc := 35) hx 0 dX11_numberHere_35 rfl rfl ?_
  refine I_getI (pc := 36) hx 20 20 rfl fc9 h0 rfl ⟨rfl, rfl, rfl⟩ g1352 dX11_numberHere_36 ?_
  refine E_gd (fun hr8 => ?_)
  refine I_if_ne (pc := 39) hx 49 dX11_numberHere_39 rfl hr8 ?_ ?_
  · refine E_iload_n (pc := 49) hx 1 dX11_numberHere_49 rfl rfl ?_
    exact E_iret (pc := 50) hx dX11_numberHere_50 rfl rfl (Nat.le_of_ble_eq_true rfl)
  refine E_aload_n (pc := 42) hx 0 dX11_numberHere_42 rfl rfl ?_
  refine I_getI (pc := 43) hx 19 19 rfl fc9 h0 rfl ⟨rfl, rfl, rfl⟩ g1351 dX11_numberHere_43 ?_
  refine E_goto (pc := 46) hx 50 dX11_numberHere_46 rfl ?_
  exact E_iret (pc := 50) hx dX11_numberHere_50 rfl rfl (Nat.le_of_ble_eq_true rfl)
set_option maxHeartbeats 4000000 in
set_option maxRecDepth 100000 in
theorem ev_X11_numberHere (F : Nat) (a0 : Nat) (h0 : shK a0 = 10 + 9) (p1 : Int) (p2 : Int) (w : aI) : Ev yX11_numberHere cX11_numberHere 3 (some .int) 1 0 jvIW [.ref a0, .int (oI p1), .int (oI p2)] (cm w) (f_X11_numberHere F a0 p1 p2 w) := by
  refine Ev.of (own := RX11) (by decide +kernel) rfl (Nat.le_of_ble_eq_true rfl) (fun x hx => ?_)
  show En x jvIW 0 0 0 [(0, .ref a0), (1, .int (oI p1)), (2, .int (oI p2))] [] (cm w) _
  unfold f_X11_numberHere
  refine E_aload_n (pc := 0) hx 0 dX11_numberHere_0 rfl rfl ?_
  refine E_aload_n (pc := 1) hx 0 dX11_numberHere_1 rfl rfl ?_
  refine I_getI (pc := 2) hx 18 18 rfl fc9 h0 rfl ⟨rfl, rfl, rfl⟩ g1350 dX11_numberHere_2 ?_
  refine I_iconst (pc := 5) hx 2 dX11_numberHere_5 ?_
  refine E_gd (fun hr1 => ?_)
  refine I_icmp_ne (pc := 6) hx 13 dX11_numberHere_6 rfl ⟨hr1, (by decide)⟩ ?_ ?_
  · refine I_iconst (pc := 13) hx 0 dX11_numberHere_13 ?_
    exact l_X11_numberHere_b14 F a0 h0 p1 p2 hx 0 a0 h0 w
  refine I_iconst (pc := 9) hx 1 dX11_numberHere_9 ?_
  refine E_goto (pc := 10) hx 14 dX11_numberHere_10 rfl ?_
  exact l_X11_numberHere_b14 F a0 h0 p1 p2 hx 1 a0 h0 w
set_option maxHeartbeats 4000000 in
set_option maxRecDepth 100000 in
theorem ev_X11_number (F : Nat) (a0 : Nat) (h0 : shK a0 = 10 + 9) (p1 : Int) (p2 : Int) (w : aI) : Ev yX11_number cX11_number 4 (some .int) 3 0 jvIW [.ref a0, .int (oI p1), .int (oI p2)] (cm w) (f_X11_number F a0 p1 p2 w) := by
  refine Ev.of (own := RX11) (by decide +kernel) rfl (Nat.le_of_ble_eq_true rfl) (fun x hx => ?_)
  show En x jvIW 0 0 0 [(0, .ref a0), (1, .int (oI p1)), (2, .int (oI p2))] [] (cm w) _
  unfold f_X11_number
  refine E_aload_n (pc := 0) hx 0 dX11_number_0 rfl rfl ?_
  refine E_iload_n (pc := 1) hx 1 dX11_number_1 rfl rfl ?_
  refine E_iload_n (pc := 2) hx 2 dX11_number_2 rfl rfl ?_
  refine I_cVIW  (pc := 3) hx [.int (oI p1), .int (oI p2)] [] (ev_X11_numberHere F a0 h0 p1 p2 w) vm_X11_numberHere fc9 h0 g1502 dX11_number_3 rfl rfl (Nat.le_of_ble_eq_true rfl) (Nat.le_of_ble_eq_true rfl) (Nat.le_of_ble_eq_true rfl) (fun r1 w2 => ?_)
  refine E_istore_n (pc := 6) hx dX11_number_6 rfl (Nat.le_of_ble_eq_true rfl) rfl ?_
  refine E_aload_n (pc := 7) hx 1 dX11_number_7 rfl rfl ?_
  refine I_cVV  (pc := 8) hx [] [] (ev_X11_goesOn F a0 h0 w2) vm_X11_goesOn fc9 h0 g1457 dX11_number_8 rfl rfl (Nat.le_of_ble_eq_true rfl) (Nat.le_of_ble_eq_true rfl) (Nat.le_of_ble_eq_true rfl) (fun w3 => ?_)
  refine E_iload_n (pc := 11) hx 0 dX11_number_11 rfl rfl ?_
  exact E_iret (pc := 12) hx dX11_number_12 rfl rfl (Nat.le_of_ble_eq_true rfl)
set_option maxHeartbeats 4000000 in
set_option maxRecDepth 100000 in
theorem ev_X11_semicolon (F : Nat) (a0 : Nat) (h0 : shK a0 = 10 + 9) (w : aI) : Ev yX11_semicolon cX11_semicolon 1 none 3 0 jvV [.ref a0] (cm w) (f_X11_semicolon F a0 w) := by
  refine Ev.of (own := RX11) (by decide +kernel) rfl (Nat.le_of_ble_eq_true rfl) (fun x hx => ?_)
  show En x jvV 0 0 0 [(0, .ref a0)] [] (cm w) _
  unfold f_X11_semicolon
  refine E_aload_n (pc := 0) hx 0 dX11_semicolon_0 rfl rfl ?_
  refine E_aload_n (pc := 1) hx 0 dX11_semicolon_1 rfl rfl ?_
  refine I_getI (pc := 2) hx 18 18 rfl fc9 h0 rfl ⟨rfl, rfl, rfl⟩ g1350 dX11_semicolon_2 ?_
  refine I_iconst (pc := 5) hx 3 dX11_semicolon_5 ?_
  refine E_gd (fun hr1 => ?_)
  refine I_icmp_ne (pc := 6) hx 13 dX11_semicolon_6 rfl ⟨hr1, (by decide)⟩ ?_ ?_
  · refine I_iconst (pc := 13) hx 0 dX11_semicolon_13 ?_
    refine I_iconst (pc := 14) hx 1 dX11_semicolon_14 ?_
    refine I_cVV  (pc := 15) hx [.int (oI 0), .int (oI 1)] [] (ev_X11_need F a0 h0 0 1 w) vm_X11_need fc9 h0 g1486 dX11_semicolon_15 rfl rfl (Nat.le_of_ble_eq_true rfl) (Nat.le_of_ble_eq_true rfl) (Nat.le_of_ble_eq_true rfl) (fun w2 => ?_)
    refine E_aload_n (pc := 18) hx 0 dX11_semicolon_18 rfl rfl ?_
    refine I_cVV  (pc := 19) hx [] [] (ev_X11_goesOn F a0 h0 w2) vm_X11_goesOn fc9 h0 g1457 dX11_semicolon_19 rfl rfl (Nat.le_of_ble_eq_true rfl) (Nat.le_of_ble_eq_true rfl) (Nat.le_of_ble_eq_true rfl) (fun w3 => ?_)
    exact E_vret (pc := 22) hx dX11_semicolon_22 rfl rfl (Nat.le_of_ble_eq_true rfl)
  refine I_iconst (pc := 9) hx 1 dX11_semicolon_9 ?_
  refine E_goto (pc := 10) hx 14 dX11_semicolon_10 rfl ?_
  refine I_iconst (pc := 14) hx 1 dX11_semicolon_14 ?_
  refine I_cVV  (pc := 15) hx [.int (oI 1), .int (oI 1)] [] (ev_X11_need F a0 h0 1 1 w) vm_X11_need fc9 h0 g1486 dX11_semicolon_15 rfl rfl (Nat.le_of_ble_eq_true rfl) (Nat.le_of_ble_eq_true rfl) (Nat.le_of_ble_eq_true rfl) (fun w4 => ?_)
  refine E_aload_n (pc := 18) hx 0 dX11_semicolon_18 rfl rfl ?_
  refine I_cVV  (pc := 19) hx [] [] (ev_X11_goesOn F a0 h0 w4) vm_X11_goesOn fc9 h0 g1457 dX11_semicolon_19 rfl rfl (Nat.le_of_ble_eq_true rfl) (Nat.le_of_ble_eq_true rfl) (Nat.le_of_ble_eq_true rfl) (fun w5 => ?_)
  exact E_vret (pc := 22) hx dX11_semicolon_22 rfl rfl (Nat.le_of_ble_eq_true rfl)
