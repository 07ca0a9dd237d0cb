set_option maxHeartbeats 4000000 in
set_option maxRecDepth 100000 in
theorem ev_L_bits (F : Nat) (p0 : Int) (p1 : Int) (p2 : Int) (w : aI) : Ev yL_bits cL_bits 3 (some .int) 0 0 (jvI w) [.int (oI p0), .int (oI p1), .int (oI p2)] (cm w) (f_L_bits F p0 p1 p2 w) := by
  refine Ev.of (own := RL) (by decide +kernel) rfl (Nat.le_of_ble_eq_true rfl) (fun x hx => ?_)
  show En x (jvI w) 0 0 0 [(0, .int (oI p0)), (1, .int (oI p1)), (2, .int (oI p2))] [] (cm w) _
  unfold f_L_bits
  refine E_iload_n (pc := 0) hx 0 dL_bits_0 rfl rfl ?_
  refine E_iload_n (pc := 1) hx 1 dL_bits_1 rfl rfl ?_
  refine I_iushr (pc := 2) hx dL_bits_2 ?_
  refine I_iconst (pc := 3) hx 1 dL_bits_3 ?_
  refine E_iload_n (pc := 4) hx 2 dL_bits_4 rfl rfl ?_
  refine E_gd (fun hs1 => ?_)
  refine I_ishl (pc := 5) hx dL_bits_5 hs1 ?_
  refine I_iconst (pc := 6) hx 1 dL_bits_6 ?_
  refine I_isub (pc := 7) hx dL_bits_7 ?_
  refine I_iand (pc := 8) hx dL_bits_8 ?_
  exact E_iret (pc := 9) hx dL_bits_9 rfl rfl (by omega)
set_option maxHeartbeats 4000000 in
set_option maxRecDepth 100000 in
theorem l_L_reckon_b96_b {x : Cx} (F : Nat) (a0 : Nat) (h0 : shK a0 = 10 + 10)  (hx : CxOK x RL cL_reckon 4 1 0 none) (hN : 241 ≤ xN x) (k76 : Int → aI → Option aI) (hk76 : ∀ (v1 : Int) (w : aI), En x jvV 0 0 76 [(0, .ref a0), (1, .int (oI v1))] [] (cm w) (k76 v1 w)) (k86 : Int → Int → aI → Option aI) (hk86 : ∀ (v1 : Int) (v2 : Int) (w : aI), En x jvV 0 0 86 [(0, .ref a0), (1, .int (oI v1)), (2, .int (oI v2))] [] (cm w) (k86 v1 v2 w)) (k96 : Int → Int → Int → aI → Option aI) (hk96 : ∀ (v1 : Int) (v2 : Int) (v3 : Int) (w : aI), En x jvV 0 0 96 [(0, .ref a0), (1, .int (oI v1)), (2, .int (oI v2)), (3, .int (oI v3))] [] (cm w) (k96 v1 v2 v3 w)) (v1 : Int) (v2 : Int) (v3 : Int) (w : aI) : En x jvV 0 0 96 [(0, .ref a0), (1, .int (oI v1)), (2, .int (oI v2)), (3, .int (oI v3))] [] (cm w) (f_L_reckon_b96_b F a0  k76 k86 k96 v1 v2 v3 w) := by
  unfold f_L_reckon_b96_b
  refine E_iload_n (pc := 96) hx 3 dL_reckon_96 rfl rfl ?_
  refine E_aload_n (pc := 97) hx 0 dL_reckon_97 rfl rfl ?_
  refine I_getI (pc := 98) hx 20 20 rfl fc10 h0 (hx.la hN h0 rfl) rfl ⟨rfl, rfl, rfl⟩ g565 dL_reckon_98 ?_
  refine E_gd (fun hr4 => ?_)
  refine I_icmp_ge (pc := 101) hx 146 dL_reckon_101 rfl ⟨hr4.1, hr4.2⟩ ?_ ?_
  · refine I_iinc (pc := 146) hx 1 2 dL_reckon_146 rfl (Nat.le_of_ble_eq_true rfl) rfl ?_
    refine E_goto (pc := 149) hx 86 dL_reckon_149 rfl ?_
    refine En.sub [1, 2, 0] rfl ?_
    exact hk86 v1 (v2 + 1) w
  refine E_aload_n (pc := 104) hx 0 dL_reckon_104 rfl rfl ?_
  refine E_getR (pc := 105) hx 7 fc10 h0 (hx.la hN h0 rfl) rfl ⟨rfl, rfl, rfl⟩ g552 dL_reckon_105 ?_
  refine E_iload_n (pc := 108) hx 2 dL_reckon_108 rfl rfl ?_
  refine I_aald4 (pc := 109) hx hN (kt_10_7 h0) dL_reckon_109 (fun ht5 => ?_)
  refine E_iload_n (pc := 110) hx 3 dL_reckon_110 rfl rfl ?_
  refine E_aload_n (pc := 111) hx 0 dL_reckon_111 rfl rfl ?_
  refine E_getR (pc := 112) hx 7 fc10 h0 (hx.la hN h0 rfl) rfl ⟨rfl, rfl, rfl⟩ g552 dL_reckon_112 ?_
  refine E_iload_n (pc := 115) hx 2 dL_reckon_115 rfl rfl ?_
  refine I_aald4 (pc := 116) hx hN (kt_10_7 h0) dL_reckon_116 (fun ht6 => ?_)
  refine E_iload_n (pc := 117) hx 3 dL_reckon_117 rfl rfl ?_
  refine I_iald7 (pc := 118) hx hN ht6 dL_reckon_118 ?_
  refine E_aload_n (pc := 119) hx 0 dL_reckon_119 rfl rfl ?_
  refine E_getR (pc := 120) hx 7 fc10 h0 (hx.la hN h0 rfl) rfl ⟨rfl, rfl, rfl⟩ g552 dL_reckon_120 ?_
  refine E_iload_n (pc := 123) hx 2 dL_reckon_123 rfl rfl ?_
  refine I_aald4 (pc := 124) hx hN (kt_10_7 h0) dL_reckon_124 (fun ht7 => ?_)
  refine E_iload_n (pc := 125) hx 1 dL_reckon_125 rfl rfl ?_
  refine I_iald7 (pc := 126) hx hN ht7 dL_reckon_126 ?_
  refine E_aload_n (pc := 127) hx 0 dL_reckon_127 rfl rfl ?_
  refine E_getR (pc := 128) hx 7 fc10 h0 (hx.la hN h0 rfl) rfl ⟨rfl, rfl, rfl⟩ g552 dL_reckon_128 ?_
  refine E_iload_n (pc := 131) hx 1 dL_reckon_131 rfl rfl ?_
  refine I_aald4 (pc := 132) hx hN (kt_10_7 h0) dL_reckon_132 (fun ht8 => ?_)
  refine E_iload_n (pc := 133) hx 3 dL_reckon_133 rfl rfl ?_
  refine I_iald7 (pc := 134) hx hN ht8 dL_reckon_134 ?_
  refine I_iadd (pc := 135) hx dL_reckon_135 ?_
  refine E_gd (fun hr9 => ?_)
  refine I_mmin (pc := 136) hx ⟨hr9.1, hr9.2⟩ g681 g482 g40 g483 (Nat.le_of_ble_eq_true rfl) (Nat.le_of_ble_eq_true rfl) (by omega) dL_reckon_136 ?_
  refine I_iast7 (pc := 139) hx hN ht5 dL_reckon_139 (fun w10 => ?_)
  refine I_iinc (pc := 140) hx 1 3 dL_reckon_140 rfl (Nat.le_of_ble_eq_true rfl) rfl ?_
  refine E_goto (pc := 143) hx 96 dL_reckon_143 rfl ?_
  refine En.sub [1, 2, 3, 0] rfl ?_
  exact hk96 v1 v2 (v3 + 1) w10
theorem l_L_reckon_b96 {x : Cx} (F : Nat) (a0 : Nat) (h0 : shK a0 = 10 + 10)  (hx : CxOK x RL cL_reckon 4 1 0 none) (hN : 241 ≤ xN x) (k76 : Int → aI → Option aI) (hk76 : ∀ (v1 : Int) (w : aI), En x jvV 0 0 76 [(0, .ref a0), (1, .int (oI v1))] [] (cm w) (k76 v1 w)) (k86 : Int → Int → aI → Option aI) (hk86 : ∀ (v1 : Int) (v2 : Int) (w : aI), En x jvV 0 0 86 [(0, .ref a0), (1, .int (oI v1)), (2, .int (oI v2))] [] (cm w) (k86 v1 v2 w)) : ∀ (n : Nat) (v1 : Int) (v2 : Int) (v3 : Int) (w : aI), En x jvV 0 0 96 [(0, .ref a0), (1, .int (oI v1)), (2, .int (oI v2)), (3, .int (oI v3))] [] (cm w) (f_L_reckon_b96 F a0  k76 k86 n v1 v2 v3 w) := by
  intro n
  induction n with
  | zero => intro v1 v2 v3 w; exact E_none
  | succ n ih => intro v1 v2 v3 w; exact l_L_reckon_b96_b F a0 h0  hx hN k76 hk76 k86 hk86 _ ih v1 v2 v3 w
set_option maxHeartbeats 4000000 in
set_option maxRecDepth 100000 in
theorem l_L_reckon_b86_b {x : Cx} (F : Nat) (a0 : Nat) (h0 : shK a0 = 10 + 10)  (hx : CxOK x RL cL_reckon 4 1 0 none) (hN : 241 ≤ xN x) (k76 : Int → aI → Option aI) (hk76 : ∀ (v1 : Int) (w : aI), En x jvV 0 0 76 [(0, .ref a0), (1, .int (oI v1))] [] (cm w) (k76 v1 w)) (k86 : Int → Int → aI → Option aI) (hk86 : ∀ (v1 : Int) (v2 : Int) (w : aI), En x jvV 0 0 86 [(0, .ref a0), (1, .int (oI v1)), (2, .int (oI v2))] [] (cm w) (k86 v1 v2 w)) (v1 : Int) (v2 : Int) (w : aI) : En x jvV 0 0 86 [(0, .ref a0), (1, .int (oI v1)), (2, .int (oI v2))] [] (cm w) (f_L_reckon_b86_b F a0  k76 k86 v1 v2 w) := by
  unfold f_L_reckon_b86_b
  refine E_iload_n (pc := 86) hx 2 dL_reckon_86 rfl rfl ?_
  refine E_aload_n (pc := 87) hx 0 dL_reckon_87 rfl rfl ?_
  refine I_getI (pc := 88) hx 20 20 rfl fc10 h0 (hx.la hN h0 rfl) rfl ⟨rfl, rfl, rfl⟩ g565 dL_reckon_88 ?_
  refine E_gd (fun hr3 => ?_)
  refine I_icmp_ge (pc := 91) hx 152 dL_reckon_91 rfl ⟨hr3.1, hr3.2⟩ ?_ ?_
  · refine I_iinc (pc := 152) hx 1 1 dL_reckon_152 rfl (Nat.le_of_ble_eq_true rfl) rfl ?_
    refine E_goto (pc := 155) hx 76 dL_reckon_155 rfl ?_
    refine En.sub [1, 0] rfl ?_
    exact hk76 (v1 + 1) w
  refine I_iconst (pc := 94) hx 0 dL_reckon_94 ?_
  refine E_istore_n (pc := 95) hx dL_reckon_95 rfl (Nat.le_of_ble_eq_true rfl) rfl ?_
  refine En.sub [1, 2, 3, 0] rfl ?_
  exact l_L_reckon_b96 F a0 h0 hx hN k76 hk76 k86 hk86 F v1 v2 0 w
theorem l_L_reckon_b86 {x : Cx} (F : Nat) (a0 : Nat) (h0 : shK a0 = 10 + 10)  (hx : CxOK x RL cL_reckon 4 1 0 none) (hN : 241 ≤ xN x) (k76 : Int → aI → Option aI) (hk76 : ∀ (v1 : Int) (w : aI), En x jvV 0 0 76 [(0, .ref a0), (1, .int (oI v1))] [] (cm w) (k76 v1 w)) : ∀ (n : Nat) (v1 : Int) (v2 : Int) (w : aI), En x jvV 0 0 86 [(0, .ref a0), (1, .int (oI v1)), (2, .int (oI v2))] [] (cm w) (f_L_reckon_b86 F a0  k76 n v1 v2 w) := by
  intro n
  induction n with
  | zero => intro v1 v2 w; exact E_none
  | succ n ih => intro v1 v2 w; exact l_L_reckon_b86_b F a0 h0  hx hN k76 hk76 _ ih v1 v2 w
set_option maxHeartbeats 4000000 in
set_option maxRecDepth 100000 in
theorem l_L_reckon_b76_b {x : Cx} (F : Nat) (a0 : Nat) (h0 : shK a0 = 10 + 10)  (hx : CxOK x RL cL_reckon 4 1 0 none) (hN : 241 ≤ xN x)  (k76 : Int → aI → Option aI) (hk76 : ∀ (v1 : Int) (w : aI), En x jvV 0 0 76 [(0, .ref a0), (1, .int (oI v1))] [] (cm w) (k76 v1 w)) (v1 : Int) (w : aI) : En x jvV 0 0 76 [(0, .ref a0), (1, .int (oI v1))] [] (cm w) (f_L_reckon_b76_b F a0   k76 v1 w) := by
  unfold f_L_reckon_b76_b
  refine E_iload_n (pc := 76) hx 1 dL_reckon_76 rfl rfl ?_
  refine E_aload_n (pc := 77) hx 0 dL_reckon_77 rfl rfl ?_
  refine I_getI (pc := 78) hx 20 20 rfl fc10 h0 (hx.la hN h0 rfl) rfl ⟨rfl, rfl, rfl⟩ g565 dL_reckon_78 ?_
  refine E_gd (fun hr2 => ?_)
  refine I_icmp_ge (pc := 81) hx 158 dL_reckon_81 rfl ⟨hr2.1, hr2.2⟩ ?_ ?_
  · exact E_vret (pc := 158) hx dL_reckon_158 rfl rfl (Nat.le_of_ble_eq_true rfl)
  refine I_iconst (pc := 84) hx 0 dL_reckon_84 ?_
  refine E_istore_n (pc := 85) hx dL_reckon_85 rfl (Nat.le_of_ble_eq_true rfl) rfl ?_
  refine En.sub [1, 2, 0] rfl ?_
  exact l_L_reckon_b86 F a0 h0 hx hN k76 hk76 F v1 0 w
theorem l_L_reckon_b76 {x : Cx} (F : Nat) (a0 : Nat) (h0 : shK a0 = 10 + 10)  (hx : CxOK x RL cL_reckon 4 1 0 none) (hN : 241 ≤ xN x)  : ∀ (n : Nat) (v1 : Int) (w : aI), En x jvV 0 0 76 [(0, .ref a0), (1, .int (oI v1))] [] (cm w) (f_L_reckon_b76 F a0   n v1 w) := by
  intro n
  induction n with
  | zero => intro v1 w; exact E_none
  | succ n ih => intro v1 w; exact l_L_reckon_b76_b F a0 h0  hx hN  _ ih v1 w
set_option maxHeartbeats 4000000 in
set_option maxRecDepth 100000 in
theorem l_L_reckon_b12_b {x : Cx} (F : Nat) (a0 : Nat) (h0 : shK a0 = 10 + 10)  (hx : CxOK x RL cL_reckon 4 1 0 none) (hN : 241 ≤ xN x) (k2 : Int → aI → Option aI) (hk2 : ∀ (v1 : Int) (w : aI), En x jvV 0 0 2 [(0, .ref a0), (1, .int (oI v1))] [] (cm w) (k2 v1 w)) (k12 : Int → Int → aI → Option aI) (hk12 : ∀ (v1 : Int) (v2 : Int) (w : aI), En x jvV 0 0 12 [(0, .ref a0), (1, .int (oI v1)), (2, .int (oI v2))] [] (cm w) (k12 v1 v2 w)) (v1 : Int) (v2 : Int) (w : aI) : En x jvV 0 0 12 [(0, .ref a0), (1, .int (oI v1)), (2, .int (oI v2))] [] (cm w) (f_L_reckon_b12_b F a0  k2 k12 v1 v2 w) := by
  unfold f_L_reckon_b12_b
  refine E_iload_n (pc := 12) hx 2 dL_reckon_12 rfl rfl ?_
  refine E_aload_n (pc := 13) hx 0 dL_reckon_13 rfl rfl ?_
  refine I_getI (pc := 14) hx 20 20 rfl fc10 h0 (hx.la hN h0 rfl) rfl ⟨rfl, rfl, rfl⟩ g565 dL_reckon_14 ?_
  refine E_gd (fun hr11 => ?_)
  refine I_icmp_ge (pc := 17) hx 68 dL_reckon_17 rfl ⟨hr11.1, hr11.2⟩ ?_ ?_
  · refine I_iinc (pc := 68) hx 1 1 dL_reckon_68 rfl (Nat.le_of_ble_eq_true rfl) rfl ?_
    refine E_goto (pc := 71) hx 2 dL_reckon_71 rfl ?_
    refine En.sub [1, 0] rfl ?_
    exact hk2 (v1 + 1) w
  refine E_aload_n (pc := 20) hx 0 dL_reckon_20 rfl rfl ?_
  refine E_getR (pc := 21) hx 7 fc10 h0 (hx.la hN h0 rfl) rfl ⟨rfl, rfl, rfl⟩ g552 dL_reckon_21 ?_
  refine E_iload_n (pc := 24) hx 1 dL_reckon_24 rfl rfl ?_
  refine I_aald4 (pc := 25) hx hN (kt_10_7 h0) dL_reckon_25 (fun ht12 => ?_)
  refine E_iload_n (pc := 26) hx 2 dL_reckon_26 rfl rfl ?_
  refine E_iload_n (pc := 27) hx 1 dL_reckon_27 rfl rfl ?_
  refine E_iload_n (pc := 28) hx 2 dL_reckon_28 rfl rfl ?_
  refine E_gd (fun hr13 => ?_)
  refine I_icmp_ne (pc := 29) hx 36 dL_reckon_29 rfl ⟨hr13, hr11.1⟩ ?_ ?_
  · refine E_aload_n (pc := 36) hx 0 dL_reckon_36 rfl rfl ?_
    refine E_getR (pc := 37) hx 6 fc10 h0 (hx.la hN h0 rfl) rfl ⟨rfl, rfl, rfl⟩ g551 dL_reckon_37 ?_
    refine E_iload_n (pc := 40) hx 1 dL_reckon_40 rfl rfl ?_
    refine I_aald4 (pc := 41) hx hN (kt_10_6 h0) dL_reckon_41 (fun ht14 => ?_)
    refine E_iload_n (pc := 42) hx 2 dL_reckon_42 rfl rfl ?_
    refine I_iald7 (pc := 43) hx hN ht14 dL_reckon_43 ?_
    refine E_gd (fun hr15 => ?_)
    refine I_if_le (pc := 44) hx 58 dL_reckon_44 rfl hr15 ?_ ?_
    · refine I_sipush (pc := 58) hx 9999 dL_reckon_58 rfl ?_
      refine I_iast7 (pc := 61) hx hN ht12 dL_reckon_61 (fun w16 => ?_)
      refine I_iinc (pc := 62) hx 1 2 dL_reckon_62 rfl (Nat.le_of_ble_eq_true rfl) rfl ?_
      refine E_goto (pc := 65) hx 12 dL_reckon_65 rfl ?_
      refine En.sub [1, 2, 0] rfl ?_
      exact hk12 v1 (v2 + 1) w16
    refine E_aload_n (pc := 47) hx 0 dL_reckon_47 rfl rfl ?_
    refine E_getR (pc := 48) hx 6 fc10 h0 (hx.la hN h0 rfl) rfl ⟨rfl, rfl, rfl⟩ g551 dL_reckon_48 ?_
    refine E_iload_n (pc := 51) hx 1 dL_reckon_51 rfl rfl ?_
    refine I_aald4 (pc := 52) hx hN (kt_10_6 h0) dL_reckon_52 (fun ht17 => ?_)
    refine E_iload_n (pc := 53) hx 2 dL_reckon_53 rfl rfl ?_
    refine I_iald7 (pc := 54) hx hN ht17 dL_reckon_54 ?_
    refine E_goto (pc := 55) hx 61 dL_reckon_55 rfl ?_
    refine I_iast7 (pc := 61) hx hN ht12 dL_reckon_61 (fun w18 => ?_)
    refine I_iinc (pc := 62) hx 1 2 dL_reckon_62 rfl (Nat.le_of_ble_eq_true rfl) rfl ?_
    refine E_goto (pc := 65) hx 12 dL_reckon_65 rfl ?_
    refine En.sub [1, 2, 0] rfl ?_
    exact hk12 v1 (v2 + 1) w18
  refine I_iconst (pc := 32) hx 0 dL_reckon_32 ?_
  refine E_goto (pc := 33) hx 61 dL_reckon_33 rfl ?_
  refine I_iast7 (pc := 61) hx hN ht12 dL_reckon_61 (fun w19 => ?_)
  refine I_iinc (pc := 62) hx 1 2 dL_reckon_62 rfl (Nat.le_of_ble_eq_true rfl) rfl ?_
  refine E_goto (pc := 65) hx 12 dL_reckon_65 rfl ?_
  refine En.sub [1, 2, 0] rfl ?_
  exact hk12 v1 (v2 + 1) w19
theorem l_L_reckon_b12 {x : Cx} (F : Nat) (a0 : Nat) (h0 : shK a0 = 10 + 10)  (hx : CxOK x RL cL_reckon 4 1 0 none) (hN : 241 ≤ xN x) (k2 : Int → aI → Option aI) (hk2 : ∀ (v1 : Int) (w : aI), En x jvV 0 0 2 [(0, .ref a0), (1, .int (oI v1))] [] (cm w) (k2 v1 w)) : ∀ (n : Nat) (v1 : Int) (v2 : Int) (w : aI), En x jvV 0 0 12 [(0, .ref a0), (1, .int (oI v1)), (2, .int (oI v2))] [] (cm w) (f_L_reckon_b12 F a0  k2 n v1 v2 w) := by
  intro n
  induction n with
  | zero => intro v1 v2 w; exact E_none
  | succ n ih => intro v1 v2 w; exact l_L_reckon_b12_b F a0 h0  hx hN k2 hk2 _ ih v1 v2 w
set_option maxHeartbeats 4000000 in
set_option maxRecDepth 100000 in
theorem l_L_reckon_b2_b {x : Cx} (F : Nat) (a0 : Nat) (h0 : shK a0 = 10 + 10)  (hx : CxOK x RL cL_reckon 4 1 0 none) (hN : 241 ≤ xN x)  (k2 : Int → aI → Option aI) (hk2 : ∀ (v1 : Int) (w : aI), En x jvV 0 0 2 [(0, .ref a0), (1, .int (oI v1))] [] (cm w) (k2 v1 w)) (v1 : Int) (w : aI) : En x jvV 0 0 2 [(0, .ref a0), (1, .int (oI v1))] [] (cm w) (f_L_reckon_b2_b F a0   k2 v1 w) := by
  unfold f_L_reckon_b2_b
  refine E_iload_n (pc := 2) hx 1 dL_reckon_2 rfl rfl ?_
  refine E_aload_n (pc := 3) hx 0 dL_reckon_3 rfl rfl ?_
  refine I_getI (pc := 4) hx 20 20 rfl fc10 h0 (hx.la hN h0 rfl) rfl ⟨rfl, rfl, rfl⟩ g565 dL_reckon_4 ?_
  refine E_gd (fun hr1 => ?_)
  refine I_icmp_ge (pc := 7) hx 74 dL_reckon_7 rfl ⟨hr1.1, hr1.2⟩ ?_ ?_
  · refine I_iconst (pc := 74) hx 0 dL_reckon_74 ?_
    refine E_istore_n (pc := 75) hx dL_reckon_75 rfl (Nat.le_of_ble_eq_true rfl) rfl ?_
    refine En.sub [1, 0] rfl ?_
    exact l_L_reckon_b76 F a0 h0 hx hN F 0 w
  refine I_iconst (pc := 10) hx 0 dL_reckon_10 ?_
  refine E_istore_n (pc := 11) hx dL_reckon_11 rfl (Nat.le_of_ble_eq_true rfl) rfl ?_
  refine En.sub [1, 2, 0] rfl ?_
  exact l_L_reckon_b12 F a0 h0 hx hN k2 hk2 F v1 0 w
theorem l_L_reckon_b2 {x : Cx} (F : Nat) (a0 : Nat) (h0 : shK a0 = 10 + 10)  (hx : CxOK x RL cL_reckon 4 1 0 none) (hN : 241 ≤ xN x)  : ∀ (n : Nat) (v1 : Int) (w : aI), En x jvV 0 0 2 [(0, .ref a0), (1, .int (oI v1))] [] (cm w) (f_L_reckon_b2 F a0   n v1 w) := by
  intro n
  induction n with
  | zero => intro v1 w; exact E_none
  | succ n ih => intro v1 w; exact l_L_reckon_b2_b F a0 h0  hx hN  _ ih v1 w
set_option maxHeartbeats 4000000 in
set_option maxRecDepth 100000 in
theorem ev_L_reckon (F : Nat) (a0 : Nat) (h0 : shK a0 = 10 + 10) (w : aI) : Ev yL_reckon cL_reckon 4 none 1 0 jvV [.ref a0] (cm w) (f_L_reckon F a0 w) := by
  refine Ev.of (own := RL) (by decide +kernel) rfl (Nat.le_of_ble_eq_true rfl) (fun x hx => ?_)
  show En x jvV 0 0 0 [(0, .ref a0)] [] (cm w) _
  unfold f_L_reckon
  refine E_gN (fun hN => ?_)
  refine I_iconst (pc := 0) hx 0 dL_reckon_0 ?_
  refine E_istore_n (pc := 1) hx dL_reckon_1 rfl (Nat.le_of_ble_eq_true rfl) rfl ?_
  refine En.sub [1, 0] rfl ?_
  exact l_L_reckon_b2 F a0 h0 hx hN F 0 w
set_option maxHeartbeats 4000000 in
set_option maxRecDepth 100000 in
theorem l_L_next_b2_b {x : Cx} (F : Nat) (a0 : Nat) (h0 : shK a0 = 10 + 10) (p1 : Int) (p2 : Int) (w : aI) (hx : CxOK x RL cL_next 4 0 0 (some .int)) (hN : 241 ≤ xN x)  (k2 : Int → Option Int) (hk2 : ∀ (v3 : Int), En x (jvI w) 0 0 2 [(0, .ref a0), (1, .int (oI p1)), (2, .int (oI p2)), (3, .int (oI v3))] [] (cm w) (k2 v3)) (v3 : Int)  : En x (jvI w) 0 0 2 [(0, .ref a0), (1, .int (oI p1)), (2, .int (oI p2)), (3, .int (oI v3))] [] (cm w) (f_L_next_b2_b F a0 p1 p2 w  k2 v3) := by
  unfold f_L_next_b2_b
  refine E_iload_n (pc := 2) hx 3 dL_next_2 rfl rfl ?_
  refine E_aload_n (pc := 3) hx 0 dL_next_3 rfl rfl ?_
  refine I_getI (pc := 4) hx 20 20 rfl fc10 h0 (hx.la hN h0 rfl) rfl ⟨rfl, rfl, rfl⟩ g565 dL_next_4 ?_
  refine E_gd (fun hr1 => ?_)
  refine I_icmp_ge (pc := 7) hx 76 dL_next_7 rfl ⟨hr1.1, hr1.2⟩ ?_ ?_
  · refine I_iconst (pc := 76) hx (-1) dL_next_76 ?_
    exact E_iret (pc := 77) hx dL_next_77 rfl rfl (by omega)
  refine E_iload_n (pc := 10) hx 1 dL_next_10 rfl rfl ?_
  refine E_iload_n (pc := 11) hx 2 dL_next_11 rfl rfl ?_
  refine E_gd (fun hr2 => ?_)
  refine I_icmp_eq (pc := 12) hx 76 dL_next_12 rfl ⟨hr2.1, hr2.2⟩ ?_ ?_
  · refine I_iconst (pc := 76) hx (-1) dL_next_76 ?_
    exact E_iret (pc := 77) hx dL_next_77 rfl rfl (by omega)
  refine E_aload_n (pc := 15) hx 0 dL_next_15 rfl rfl ?_
  refine E_getR (pc := 16) hx 7 fc10 h0 (hx.la hN h0 rfl) rfl ⟨rfl, rfl, rfl⟩ g552 dL_next_16 ?_
  refine E_iload_n (pc := 19) hx 1 dL_next_19 rfl rfl ?_
  refine I_aald4 (pc := 20) hx hN (kt_10_7 h0) dL_next_20 (fun ht3 => ?_)
  refine E_iload_n (pc := 21) hx 2 dL_next_21 rfl rfl ?_
  refine I_iald7 (pc := 22) hx hN ht3 dL_next_22 ?_
  refine I_sipush (pc := 23) hx 9999 dL_next_23 rfl ?_
  refine E_gd (fun hr4 => ?_)
  refine I_icmp_ge (pc := 26) hx 76 dL_next_26 rfl ⟨hr4, (by decide)⟩ ?_ ?_
  · refine I_iconst (pc := 76) hx (-1) dL_next_76 ?_
    exact E_iret (pc := 77) hx dL_next_77 rfl rfl (by omega)
  refine E_aload_n (pc := 29) hx 0 dL_next_29 rfl rfl ?_
  refine E_getR (pc := 30) hx 6 fc10 h0 (hx.la hN h0 rfl) rfl ⟨rfl, rfl, rfl⟩ g551 dL_next_30 ?_
  refine E_iload_n (pc := 33) hx 1 dL_next_33 rfl rfl ?_
  refine I_aald4 (pc := 34) hx hN (kt_10_6 h0) dL_next_34 (fun ht5 => ?_)
  refine E_iload_n (pc := 35) hx 3 dL_next_35 rfl rfl ?_
  refine I_iald7 (pc := 36) hx hN ht5 dL_next_36 ?_
  refine E_gd (fun hr6 => ?_)
  refine I_if_le (pc := 37) hx 70 dL_next_37 rfl hr6 ?_ ?_
  · refine I_iinc (pc := 70) hx 1 3 dL_next_70 rfl (Nat.le_of_ble_eq_true rfl) rfl ?_
    refine E_goto (pc := 73) hx 2 dL_next_73 rfl ?_
    refine En.sub [1, 2, 3, 0] rfl ?_
    exact hk2 (v3 + 1)
  refine E_aload_n (pc := 40) hx 0 dL_next_40 rfl rfl ?_
  refine E_getR (pc := 41) hx 6 fc10 h0 (hx.la hN h0 rfl) rfl ⟨rfl, rfl, rfl⟩ g551 dL_next_41 ?_
  refine E_iload_n (pc := 44) hx 1 dL_next_44 rfl rfl ?_
  refine I_aald4 (pc := 45) hx hN (kt_10_6 h0) dL_next_45 (fun ht7 => ?_)
  refine E_iload_n (pc := 46) hx 3 dL_next_46 rfl rfl ?_
  refine I_iald7 (pc := 47) hx hN ht7 dL_next_47 ?_
  refine E_aload_n (pc := 48) hx 0 dL_next_48 rfl rfl ?_
  refine E_getR (pc := 49) hx 7 fc10 h0 (hx.la hN h0 rfl) rfl ⟨rfl, rfl, rfl⟩ g552 dL_next_49 ?_
  refine E_iload_n (pc := 52) hx 3 dL_next_52 rfl rfl ?_
  refine I_aald4 (pc := 53) hx hN (kt_10_7 h0) dL_next_53 (fun ht8 => ?_)
  refine E_iload_n (pc := 54) hx 2 dL_next_54 rfl rfl ?_
  refine I_iald7 (pc := 55) hx hN ht8 dL_next_55 ?_
  refine I_iadd (pc := 56) hx dL_next_56 ?_
  refine E_aload_n (pc := 57) hx 0 dL_next_57 rfl rfl ?_
  refine E_getR (pc := 58) hx 7 fc10 h0 (hx.la hN h0 rfl) rfl ⟨rfl, rfl, rfl⟩ g552 dL_next_58 ?_
  refine E_iload_n (pc := 61) hx 1 dL_next_61 rfl rfl ?_
  refine I_aald4 (pc := 62) hx hN (kt_10_7 h0) dL_next_62 (fun ht9 => ?_)
  refine E_iload_n (pc := 63) hx 2 dL_next_63 rfl rfl ?_
  refine I_iald7 (pc := 64) hx hN ht9 dL_next_64 ?_
  refine E_gd (fun hr10 => ?_)
  refine I_icmp_ne (pc := 65) hx 70 dL_next_65 rfl ⟨hr10, hr4⟩ ?_ ?_
  · refine I_iinc (pc := 70) hx 1 3 dL_next_70 rfl (Nat.le_of_ble_eq_true rfl) rfl ?_
    refine E_goto (pc := 73) hx 2 dL_next_73 rfl ?_
    refine En.sub [1, 2, 3, 0] rfl ?_
    exact hk2 (v3 + 1)
  refine E_iload_n (pc := 68) hx 3 dL_next_68 rfl rfl ?_
  exact E_iret (pc := 69) hx dL_next_69 rfl rfl (by omega)
theorem l_L_next_b2 {x : Cx} (F : Nat) (a0 : Nat) (h0 : shK a0 = 10 + 10) (p1 : Int) (p2 : Int) (w : aI) (hx : CxOK x RL cL_next 4 0 0 (some .int)) (hN : 241 ≤ xN x)  : ∀ (n : Nat) (v3 : Int), En x (jvI w) 0 0 2 [(0, .ref a0), (1, .int (oI p1)), (2, .int (oI p2)), (3, .int (oI v3))] [] (cm w) (f_L_next_b2 F a0 p1 p2 w  n v3) := by
  intro n
  induction n with
  | zero => intro v3; exact E_none
  | succ n ih => intro v3; exact l_L_next_b2_b F a0 h0 p1 p2 w hx hN  _ ih v3
set_option maxHeartbeats 4000000 in
set_option maxRecDepth 100000 in
theorem ev_L_next (F : Nat) (a0 : Nat) (h0 : shK a0 = 10 + 10) (p1 : Int) (p2 : Int) (w : aI) : Ev yL_next cL_next 4 (some .int) 0 0 (jvI w) [.ref a0, .int (oI p1), .int (oI p2)] (cm w) (f_L_next F a0 p1 p2 w) := by
  refine Ev.of (own := RL) (by decide +kernel) rfl (Nat.le_of_ble_eq_true rfl) (fun x hx => ?_)
  show En x (jvI w) 0 0 0 [(0, .ref a0), (1, .int (oI p1)), (2, .int (oI p2))] [] (cm w) _
  unfold f_L_next
  refine E_gN (fun hN => ?_)
  refine I_iconst (pc := 0) hx 0 dL_next_0 ?_
  refine E_istore_n (pc := 1) hx dL_next_1 rfl (Nat.le_of_ble_eq_true rfl) rfl ?_
  refine En.sub [1, 2, 3, 0] rfl ?_
  exact l_L_next_b2 F a0 h0 p1 p2 w hx hN F 0
set_option maxHeartbeats 4000000 in
set_option maxRecDepth 100000 in
theorem ev_L_bars (F : Nat) (a0 : Nat) (h0 : shK a0 = 10 + 10) (p1 : Int) (w : aI) : Ev yL_bars cL_bars 2 (some .int) 0 0 (jvI w) [.ref a0, .int (oI p1)] (cm w) (f_L_bars F a0 p1 w) := by
  refine Ev.of (own := RL) (by decide +kernel) rfl (Nat.le_of_ble_eq_true rfl) (fun x hx => ?_)
  show En x (jvI w) 0 0 0 [(0, .ref a0), (1, .int (oI p1))] [] (cm w) _
  unfold f_L_bars
  refine E_gN (fun hN => ?_)
  refine E_aload_n (pc := 0) hx 0 dL_bars_0 rfl rfl ?_
  refine E_getR (pc := 1) hx 18 fc10 h0 (hx.la hN h0 rfl) rfl ⟨rfl, rfl, rfl⟩ g563 dL_bars_1 ?_
  refine E_iload_n (pc := 4) hx 1 dL_bars_4 rfl rfl ?_
  refine I_aald5 (pc := 5) hx hN (kt_10_18 h0) dL_bars_5 (fun hd1 => ?_)
  refine I_alen6 (pc := 6) hx hd1 dL_bars_6 (fun hr2 => ?_)
  refine I_iconst (pc := 7) hx 3 dL_bars_7 ?_
  refine I_iadd (pc := 8) hx dL_bars_8 ?_
  refine I_iconst (pc := 9) hx 4 dL_bars_9 ?_
  refine E_gd (fun hr3 => ?_)
  refine I_idiv (pc := 10) hx dL_bars_10 ⟨hr3, (by decide), (by decide)⟩ ?_
  exact E_iret (pc := 11) hx dL_bars_11 rfl rfl (by omega)
set_option maxHeartbeats 4000000 in
set_option maxRecDepth 100000 in
theorem l_L_isRight_b2_b {x : Cx} (F : Nat) (a0 : Nat) (h0 : shK a0 = 10 + 10) (p1 : Int) (w : aI) (hx : CxOK x RL cL_isRight 3 0 0 (some .boolean)) (hN : 241 ≤ xN x)  (k2 : Int → Option Bool) (hk2 : ∀ (v2 : Int), En x (jvB w) 0 0 2 [(0, .ref a0), (1, .int (oI p1)), (2, .int (oI v2))] [] (cm w) (k2 v2)) (v2 : Int)  : En x (jvB w) 0 0 2 [(0, .ref a0), (1, .int (oI p1)), (2, .int (oI v2))] [] (cm w) (f_L_isRight_b2_b F a0 p1 w  k2 v2) := by
  unfold f_L_isRight_b2_b
  refine E_iload_n (pc := 2) hx 2 dL_isRight_2 rfl rfl ?_
  refine E_aload_n (pc := 3) hx 0 dL_isRight_3 rfl rfl ?_
  refine E_getR (pc := 4) hx 18 fc10 h0 (hx.la hN h0 rfl) rfl ⟨rfl, rfl, rfl⟩ g563 dL_isRight_4 ?_
  refine E_iload_n (pc := 7) hx 1 dL_isRight_7 rfl rfl ?_
  refine I_aald5 (pc := 8) hx hN (kt_10_18 h0) dL_isRight_8 (fun hd1 => ?_)
  refine I_alen6 (pc := 9) hx hd1 dL_isRight_9 (fun hr2 => ?_)
  refine E_gd (fun hr3 => ?_)
  refine I_icmp_ge (pc := 10) hx 40 dL_isRight_10 rfl ⟨hr3, hr2⟩ ?_ ?_
  · refine I_iconst (pc := 40) hx 1 dL_isRight_40 ?_
    exact E_zret (pc := 41) hx dL_isRight_41 rfl rfl rfl (by omega)
  refine E_aload_n (pc := 13) hx 0 dL_isRight_13 rfl rfl ?_
  refine E_getR (pc := 14) hx 18 fc10 h0 (hx.la hN h0 rfl) rfl ⟨rfl, rfl, rfl⟩ g563 dL_isRight_14 ?_
  refine E_iload_n (pc := 17) hx 1 dL_isRight_17 rfl rfl ?_
  refine I_aald5 (pc := 18) hx hN (kt_10_18 h0) dL_isRight_18 (fun hd4 => ?_)
  refine E_iload_n (pc := 19) hx 2 dL_isRight_19 rfl rfl ?_
  refine I_iald6 (pc := 20) hx hd4 dL_isRight_20 ?_
  refine E_aload_n (pc := 21) hx 0 dL_isRight_21 rfl rfl ?_
  refine E_getR (pc := 22) hx 19 fc10 h0 (hx.la hN h0 rfl) rfl ⟨rfl, rfl, rfl⟩ g564 dL_isRight_22 ?_
  refine E_iload_n (pc := 25) hx 1 dL_isRight_25 rfl rfl ?_
  refine I_aald5 (pc := 26) hx hN (kt_10_19 h0) dL_isRight_26 (fun hd5 => ?_)
  refine E_iload_n (pc := 27) hx 2 dL_isRight_27 rfl rfl ?_
  refine I_iald6 (pc := 28) hx hd5 dL_isRight_28 ?_
  refine E_gd (fun hr6 => ?_)
  refine I_icmp_eq (pc := 29) hx 34 dL_isRight_29 rfl ⟨hr6.1, hr6.2⟩ ?_ ?_
  · refine I_iinc (pc := 34) hx 1 2 dL_isRight_34 rfl (Nat.le_of_ble_eq_true rfl) rfl ?_
    refine E_goto (pc := 37) hx 2 dL_isRight_37 rfl ?_
    refine En.sub [1, 2, 0] rfl ?_
    exact hk2 (v2 + 1)
  refine I_iconst (pc := 32) hx 0 dL_isRight_32 ?_
  exact E_zret (pc := 33) hx dL_isRight_33 rfl rfl rfl (by omega)
theorem l_L_isRight_b2 {x : Cx} (F : Nat) (a0 : Nat) (h0 : shK a0 = 10 + 10) (p1 : Int) (w : aI) (hx : CxOK x RL cL_isRight 3 0 0 (some .boolean)) (hN : 241 ≤ xN x)  : ∀ (n : Nat) (v2 : Int), En x (jvB w) 0 0 2 [(0, .ref a0), (1, .int (oI p1)), (2, .int (oI v2))] [] (cm w) (f_L_isRight_b2 F a0 p1 w  n v2) := by
  intro n
  induction n with
  | zero => intro v2; exact E_none
  | succ n ih => intro v2; exact l_L_isRight_b2_b F a0 h0 p1 w hx hN  _ ih v2
set_option maxHeartbeats 4000000 in
set_option maxRecDepth 100000 in
theorem ev_L_isRight (F : Nat) (a0 : Nat) (h0 : shK a0 = 10 + 10) (p1 : Int) (w : aI) : Ev yL_isRight cL_isRight 3 (some .boolean) 0 0 (jvB w) [.ref a0, .int (oI p1)] (cm w) (f_L_isRight F a0 p1 w) := by
  refine Ev.of (own := RL) (by decide +kernel) rfl (Nat.le_of_ble_eq_true rfl) (fun x hx => ?_)
  show En x (jvB w) 0 0 0 [(0, .ref a0), (1, .int (oI p1))] [] (cm w) _
  unfold f_L_isRight
  refine E_gN (fun hN => ?_)
  refine I_iconst (pc := 0) hx 0 dL_isRight_0 ?_
  refine E_istore_n (pc := 1) hx dL_isRight_1 rfl (Nat.le_of_ble_eq_true rfl) rfl ?_
  refine En.sub [1, 2, 0] rfl ?_
  exact l_L_isRight_b2 F a0 h0 p1 w hx hN F 0
set_option maxHeartbeats 4000000 in
set_option maxRecDepth 100000 in
theorem ev_L_resets (F : Nat) (a0 : Nat) (h0 : shK a0 = 10 + 10) (p1 : Int) (w : aI) : Ev yL_resets cL_resets 2 none 3 0 jvV [.ref a0, .int (oI p1)] (cm w) (f_L_resets F a0 p1 w) := by
  refine Ev.of (own := RL) (by decide +kernel) rfl (Nat.le_of_ble_eq_true rfl) (fun x hx => ?_)
  show En x jvV 0 0 0 [(0, .ref a0), (1, .int (oI p1))] [] (cm w) _
  unfold f_L_resets
  refine E_gN (fun hN => ?_)
  refine E_aload_n (pc := 0) hx 0 dL_resets_0 rfl rfl ?_
  refine E_getR (pc := 1) hx 18 fc10 h0 (hx.la hN h0 rfl) rfl ⟨rfl, rfl, rfl⟩ g563 dL_resets_1 ?_
  refine E_iload_n (pc := 4) hx 1 dL_resets_4 rfl rfl ?_
  refine I_aald5 (pc := 5) hx hN (kt_10_18 h0) dL_resets_5 (fun hd1 => ?_)
  refine I_iconst (pc := 6) hx 0 dL_resets_6 ?_
  refine E_aload_n (pc := 7) hx 0 dL_resets_7 rfl rfl ?_
  refine E_getR (pc := 8) hx 19 fc10 h0 (hx.la hN h0 rfl) rfl ⟨rfl, rfl, rfl⟩ g564 dL_resets_8 ?_
  refine E_iload_n (pc := 11) hx 1 dL_resets_11 rfl rfl ?_
  refine I_aald5 (pc := 12) hx hN (kt_10_19 h0) dL_resets_12 (fun hd2 => ?_)
  refine I_iconst (pc := 13) hx 0 dL_resets_13 ?_
  refine E_aload_n (pc := 14) hx 0 dL_resets_14 rfl rfl ?_
  refine E_getR (pc := 15) hx 18 fc10 h0 (hx.la hN h0 rfl) rfl ⟨rfl, rfl, rfl⟩ g563 dL_resets_15 ?_
  refine E_iload_n (pc := 18) hx 1 dL_resets_18 rfl rfl ?_
  refine I_aald5 (pc := 19) hx hN (kt_10_18 h0) dL_resets_19 (fun hd3 => ?_)
  refine I_alen6 (pc := 20) hx hd3 dL_resets_20 (fun hr4 => ?_)
  refine I_copy6 (pc := 21) hx hd1 hd2 g860 g486 g485 g41 (Nat.le_of_ble_eq_true rfl) (Nat.le_of_ble_eq_true rfl) dL_resets_21 (fun w5 => ?_)
  exact E_vret (pc := 24) hx dL_resets_24 rfl rfl (Nat.le_of_ble_eq_true rfl)
set_option maxHeartbeats 4000000 in
set_option maxRecDepth 100000 in
theorem l_L_first_b4_b {x : Cx} (F : Nat) (a0 : Nat) (h0 : shK a0 = 10 + 10) (p1 : Int) (w : aI) (hx : CxOK x RL cL_first 4 1 0 (some .int)) (hN : 241 ≤ xN x)  (k4 : Int → Int → Option Int) (hk4 : ∀ (v2 : Int) (v3 : Int), En x (jvI w) 0 0 4 [(0, .ref a0), (1, .int (oI p1)), (2, .int (oI v2)), (3, .int (oI v3))] [] (cm w) (k4 v2 v3)) (v2 : Int) (v3 : Int)  : En x (jvI w) 0 0 4 [(0, .ref a0), (1, .int (oI p1)), (2, .int (oI v2)), (3, .int (oI v3))] [] (cm w) (f_L_first_b4_b F a0 p1 w  k4 v2 v3) := by
  unfold f_L_first_b4_b
  refine E_iload_n (pc := 4) hx 3 dL_first_4 rfl rfl ?_
  refine E_aload_n (pc := 5) hx 0 dL_first_5 rfl rfl ?_
  refine I_getI (pc := 6) hx 21 21 rfl fc10 h0 (hx.la hN h0 rfl) rfl ⟨rfl, rfl, rfl⟩ g566 dL_first_6 ?_
  refine E_gd (fun hr1 => ?_)
  refine I_icmp_ge (pc := 9) hx 99 dL_first_9 rfl ⟨hr1.1, hr1.2⟩ ?_ ?_
  · refine E_iload_n (pc := 99) hx 2 dL_first_99 rfl rfl ?_
    exact E_iret (pc := 100) hx dL_first_100 rfl rfl (by omega)
  refine E_aload_n (pc := 12) hx 0 dL_first_12 rfl rfl ?_
  refine E_getR (pc := 13) hx 10 fc10 h0 (hx.la hN h0 rfl) rfl ⟨rfl, rfl, rfl⟩ g555 dL_first_13 ?_
  refine E_iload_n (pc := 16) hx 3 dL_first_16 rfl rfl ?_
  refine I_iald7 (pc := 17) hx hN (kt_10_10 h0) dL_first_17 ?_
  refine E_gd (fun hr2 => ?_)
  refine I_if_ne (pc := 18) hx 93 dL_first_18 rfl hr2 ?_ ?_
  · refine I_iinc (pc := 93) hx 1 3 dL_first_93 rfl (Nat.le_of_ble_eq_true rfl) rfl ?_
    refine E_goto (pc := 96) hx 4 dL_first_96 rfl ?_
    refine En.sub [1, 2, 3, 0] rfl ?_
    exact hk4 v2 (v3 + 1)
  refine E_aload_n (pc := 21) hx 0 dL_first_21 rfl rfl ?_
  refine E_getR (pc := 22) hx 11 fc10 h0 (hx.la hN h0 rfl) rfl ⟨rfl, rfl, rfl⟩ g556 dL_first_22 ?_
  refine E_iload_n (pc := 25) hx 3 dL_first_25 rfl rfl ?_
  refine I_iald7 (pc := 26) hx hN (kt_10_11 h0) dL_first_26 ?_
  refine E_iload_n (pc := 27) hx 1 dL_first_27 rfl rfl ?_
  refine E_gd (fun hr3 => ?_)
  refine I_icmp_ne (pc := 28) hx 93 dL_first_28 rfl ⟨hr3.1, hr3.2⟩ ?_ ?_
  · refine I_iinc (pc := 93) hx 1 3 dL_first_93 rfl (Nat.le_of_ble_eq_true rfl) rfl ?_
    refine E_goto (pc := 96) hx 4 dL_first_96 rfl ?_
    refine En.sub [1, 2, 3, 0] rfl ?_
    exact hk4 v2 (v3 + 1)
  refine E_aload_n (pc := 31) hx 0 dL_first_31 rfl rfl ?_
  refine E_iload_n (pc := 32) hx 1 dL_first_32 rfl rfl ?_
  refine E_aload_n (pc := 33) hx 0 dL_first_33 rfl rfl ?_
  refine E_getR (pc := 34) hx 9 fc10 h0 (hx.la hN h0 rfl) rfl ⟨rfl, rfl, rfl⟩ g554 dL_first_34 ?_
  refine E_iload_n (pc := 37) hx 3 dL_first_37 rfl rfl ?_
  refine I_iald7 (pc := 38) hx hN (kt_10_9 h0) dL_first_38 ?_
  refine I_cVI  (pc := 39) hx [.int (oI p1), .int (oI (w (shR a0 9) v3))] [] (ev_L_next F a0 h0 p1 (w (shR a0 9) v3) w) vm_L_next fc10 h0 (hx.la hN h0 rfl) g905 dL_first_39 rfl rfl (Nat.le_of_ble_eq_true rfl) (Nat.le_of_ble_eq_true rfl) (by omega) (fun r4 => ?_)
  refine E_gd (fun hr5 => ?_)
  refine I_if_lt (pc := 42) hx 93 dL_first_42 rfl hr5 ?_ ?_
  · refine I_iinc (pc := 93) hx 1 3 dL_first_93 rfl (Nat.le_of_ble_eq_true rfl) rfl ?_
    refine E_goto (pc := 96) hx 4 dL_first_96 rfl ?_
    refine En.sub [1, 2, 3, 0] rfl ?_
    exact hk4 v2 (v3 + 1)
  refine E_aload_n (pc := 45) hx 0 dL_first_45 rfl rfl ?_
  refine E_getR (pc := 46) hx 3 fc10 h0 (hx.la hN h0 rfl) rfl ⟨rfl, rfl, rfl⟩ g548 dL_first_46 ?_
  refine E_aload_n (pc := 49) hx 0 dL_first_49 rfl rfl ?_
  refine E_getR (pc := 50) hx 8 fc10 h0 (hx.la hN h0 rfl) rfl ⟨rfl, rfl, rfl⟩ g553 dL_first_50 ?_
  refine E_iload_n (pc := 53) hx 3 dL_first_53 rfl rfl ?_
  refine I_iald7 (pc := 54) hx hN (kt_10_8 h0) dL_first_54 ?_
  refine I_iald7 (pc := 55) hx hN (kt_10_3 h0) dL_first_55 ?_
  refine E_aload_n (pc := 56) hx 0 dL_first_56 rfl rfl ?_
  refine E_getR (pc := 57) hx 2 fc10 h0 (hx.la hN h0 rfl) rfl ⟨rfl, rfl, rfl⟩ g547 dL_first_57 ?_
  refine E_iload_n (pc := 60) hx 1 dL_first_60 rfl rfl ?_
  refine I_iald7 (pc := 61) hx hN (kt_10_2 h0) dL_first_61 ?_
  refine E_aload_n (pc := 62) hx 0 dL_first_62 rfl rfl ?_
  refine E_iload_n (pc := 63) hx 3 dL_first_63 rfl rfl ?_
  refine I_cVI  (pc := 64) hx [.int (oI v3)] [.int (oI (w (shR a0 2) p1)), .int (oI (w (shR a0 3) (w (shR a0 8) v3)))] (ev_L_bars F a0 h0 v3 w) vm_L_bars fc10 h0 (hx.la hN h0 rfl) g909 dL_first_64 rfl rfl (Nat.le_of_ble_eq_true rfl) (Nat.le_of_ble_eq_true rfl) (by omega) (fun r6 => ?_)
  refine I_imul (pc := 67) hx dL_first_67 ?_
  refine E_gd (fun hr7 => ?_)
  refine I_icmp_ge (pc := 68) hx 74 dL_first_68 rfl ⟨hr7.1, hr7.2⟩ ?_ ?_
  · refine E_iload_n (pc := 74) hx 2 dL_first_74 rfl rfl ?_
    refine E_gd (fun hr8 => ?_)
    refine I_if_lt (pc := 75) hx 91 dL_first_75 rfl hr8 ?_ ?_
    · refine E_iload_n (pc := 91) hx 3 dL_first_91 rfl rfl ?_
      refine E_istore_n (pc := 92) hx dL_first_92 rfl (Nat.le_of_ble_eq_true rfl) rfl ?_
      refine I_iinc (pc := 93) hx 1 3 dL_first_93 rfl (Nat.le_of_ble_eq_true rfl) rfl ?_
      refine E_goto (pc := 96) hx 4 dL_first_96 rfl ?_
      refine En.sub [2, 3, 1, 0] rfl ?_
      exact hk4 v3 (v3 + 1)
    refine E_aload_n (pc := 78) hx 0 dL_first_78 rfl rfl ?_
    refine E_iload_n (pc := 79) hx 3 dL_first_79 rfl rfl ?_
    refine I_cVI  (pc := 80) hx [.int (oI v3)] [] (ev_L_bars F a0 h0 v3 w) vm_L_bars fc10 h0 (hx.la hN h0 rfl) g909 dL_first_80 rfl rfl (Nat.le_of_ble_eq_true rfl) (Nat.le_of_ble_eq_true rfl) (by omega) (fun r9 => ?_)
    refine E_aload_n (pc := 83) hx 0 dL_first_83 rfl rfl ?_
    refine E_iload_n (pc := 84) hx 2 dL_first_84 rfl rfl ?_
    refine I_cVI  (pc := 85) hx [.int (oI v2)] [.int (oI r9)] (ev_L_bars F a0 h0 v2 w) vm_L_bars fc10 h0 (hx.la hN h0 rfl) g909 dL_first_85 rfl rfl (Nat.le_of_ble_eq_true rfl) (Nat.le_of_ble_eq_true rfl) (by omega) (fun r10 => ?_)
    refine E_gd (fun hr11 => ?_)
    refine I_icmp_le (pc := 88) hx 93 dL_first_88 rfl ⟨hr11.1, hr11.2⟩ ?_ ?_
    · refine I_iinc (pc := 93) hx 1 3 dL_first_93 rfl (Nat.le_of_ble_eq_true rfl) rfl ?_
      refine E_goto (pc := 96) hx 4 dL_first_96 rfl ?_
      refine En.sub [1, 2, 3, 0] rfl ?_
      exact hk4 v2 (v3 + 1)
    refine E_iload_n (pc := 91) hx 3 dL_first_91 rfl rfl ?_
    refine E_istore_n (pc := 92) hx dL_first_92 rfl (Nat.le_of_ble_eq_true rfl) rfl ?_
    refine I_iinc (pc := 93) hx 1 3 dL_first_93 rfl (Nat.le_of_ble_eq_true rfl) rfl ?_
    refine E_goto (pc := 96) hx 4 dL_first_96 rfl ?_
    refine En.sub [2, 3, 1, 0] rfl ?_
    exact hk4 v3 (v3 + 1)
  refine E_goto (pc := 71) hx 93 dL_first_71 rfl ?_
  refine I_iinc (pc := 93) hx 1 3 dL_first_93 rfl (Nat.le_of_ble_eq_true rfl) rfl ?_
  refine E_goto (pc := 96) hx 4 dL_first_96 rfl ?_
  refine En.sub [1, 2, 3, 0] rfl ?_
  exact hk4 v2 (v3 + 1)
theorem l_L_first_b4 {x : Cx} (F : Nat) (a0 : Nat) (h0 : shK a0 = 10 + 10) (p1 : Int) (w : aI) (hx : CxOK x RL cL_first 4 1 0 (some .int)) (hN : 241 ≤ xN x)  : ∀ (n : Nat) (v2 : Int) (v3 : Int), En x (jvI w) 0 0 4 [(0, .ref a0), (1, .int (oI p1)), (2, .int (oI v2)), (3, .int (oI v3))] [] (cm w) (f_L_first_b4 F a0 p1 w  n v2 v3) := by
  intro n
  induction n with
  | zero => intro v2 v3; exact E_none
  | succ n ih => intro v2 v3; exact l_L_first_b4_b F a0 h0 p1 w hx hN  _ ih v2 v3
set_option maxHeartbeats 4000000 in
set_option maxRecDepth 100000 in
theorem ev_L_first (F : Nat) (a0 : Nat) (h0 : shK a0 = 10 + 10) (p1 : Int) (w : aI) : Ev yL_first cL_first 4 (some .int) 1 0 (jvI w) [.ref a0, .int (oI p1)] (cm w) (f_L_first F a0 p1 w) := by
  refine Ev.of (own := RL) (by decide +kernel) rfl (Nat.le_of_ble_eq_true rfl) (fun x hx => ?_)
  show En x (jvI w) 0 0 0 [(0, .ref a0), (1, .int (oI p1))] [] (cm w) _
  unfold f_L_first
  refine E_gN (fun hN => ?_)
  refine I_iconst (pc := 0) hx (-1) dL_first_0 ?_
  refine E_istore_n (pc := 1) hx dL_first_1 rfl (Nat.le_of_ble_eq_true rfl) rfl ?_
  refine I_iconst (pc := 2) hx 0 dL_first_2 ?_
  refine E_istore_n (pc := 3) hx dL_first_3 rfl (Nat.le_of_ble_eq_true rfl) rfl ?_
  refine En.sub [2, 3, 1, 0] rfl ?_
  exact l_L_first_b4 F a0 h0 p1 w hx hN F (-1) 0
set_option maxHeartbeats 4000000 in
set_option maxRecDepth 100000 in
theorem ev_L_sends (F : Nat) (a0 : Nat) (h0 : shK a0 = 10 + 10) (p1 : Int) (p2 : Int) (a3 : Nat) (p4 : Int) (p5 : Int) (w : aI) : EvG yL_sends cL_sends 6 none 4 2 jvV [.ref a0, .int (oI p1), .int (oI p2), .ref a3, .int (oI p4), .int (oI p5)] (cm w) (f_L_sends F a0 p1 p2 a3 p4 p5 w) := by
  refine EvG.of (own := RL) (by decide +kernel) rfl (Nat.le_of_ble_eq_true rfl) (fun x hx hG => ?_)
  show EnG x x jvV 2 0 0 [(0, .ref a0), (1, .int (oI p1)), (2, .int (oI p2)), (3, .ref a3), (4, .int (oI p4)), (5, .int (oI p5))] [] (cm w) _
  unfold f_L_sends
  refine E_gN (fun hN => ?_)
  refine E_gdy (fun h3 => ?_)
  refine E_aload_n (pc := 0) hx 0 dL_sends_0 rfl rfl ?_
  refine E_getR (pc := 1) hx 8 fc10 h0 (hx.la hN h0 rfl) rfl ⟨rfl, rfl, rfl⟩ g553 dL_sends_1 ?_
  refine E_aload_n (pc := 4) hx 0 dL_sends_4 rfl rfl ?_
  refine I_getI (pc := 5) hx 21 21 rfl fc10 h0 (hx.la hN h0 rfl) rfl ⟨rfl, rfl, rfl⟩ g566 dL_sends_5 ?_
  refine E_iload_n (pc := 8) hx 1 dL_sends_8 rfl rfl ?_
  refine I_iast7 (pc := 9) hx hN (kt_10_8 h0) dL_sends_9 (fun w1 => ?_)
  refine E_aload_n (pc := 10) hx 0 dL_sends_10 rfl rfl ?_
  refine E_getR (pc := 11) hx 9 fc10 h0 (hx.la hN h0 rfl) rfl ⟨rfl, rfl, rfl⟩ g554 dL_sends_11 ?_
  refine E_aload_n (pc := 14) hx 0 dL_sends_14 rfl rfl ?_
  refine I_getI (pc := 15) hx 21 21 rfl fc10 h0 (hx.la hN h0 rfl) rfl ⟨rfl, rfl, rfl⟩ g566 dL_sends_15 ?_
  refine E_iload_n (pc := 18) hx 2 dL_sends_18 rfl rfl ?_
  refine I_iast7 (pc := 19) hx hN (kt_10_9 h0) dL_sends_19 (fun w2 => ?_)
  refine E_aload_n (pc := 20) hx 0 dL_sends_20 rfl rfl ?_
  refine E_getR (pc := 21) hx 11 fc10 h0 (hx.la hN h0 rfl) rfl ⟨rfl, rfl, rfl⟩ g556 dL_sends_21 ?_
  refine E_aload_n (pc := 24) hx 0 dL_sends_24 rfl rfl ?_
  refine I_getI (pc := 25) hx 21 21 rfl fc10 h0 (hx.la hN h0 rfl) rfl ⟨rfl, rfl, rfl⟩ g566 dL_sends_25 ?_
  refine E_iload_n (pc := 28) hx 1 dL_sends_28 rfl rfl ?_
  refine I_iast7 (pc := 29) hx hN (kt_10_11 h0) dL_sends_29 (fun w3 => ?_)
  refine E_aload_n (pc := 30) hx 0 dL_sends_30 rfl rfl ?_
  refine E_getR (pc := 31) hx 10 fc10 h0 (hx.la hN h0 rfl) rfl ⟨rfl, rfl, rfl⟩ g555 dL_sends_31 ?_
  refine E_aload_n (pc := 34) hx 0 dL_sends_34 rfl rfl ?_
  refine I_getI (pc := 35) hx 21 21 rfl fc10 h0 (hx.la hN h0 rfl) rfl ⟨rfl, rfl, rfl⟩ g566 dL_sends_35 ?_
  refine I_iconst (pc := 38) hx 0 dL_sends_38 ?_
  refine I_iast7 (pc := 39) hx hN (kt_10_10 h0) dL_sends_39 (fun w4 => ?_)
  refine E_aload_n (pc := 40) hx 0 dL_sends_40 rfl rfl ?_
  refine E_getR (pc := 41) hx 16 fc10 h0 (hx.la hN h0 rfl) rfl ⟨rfl, rfl, rfl⟩ g561 dL_sends_41 ?_
  refine E_aload_n (pc := 44) hx 0 dL_sends_44 rfl rfl ?_
  refine I_getI (pc := 45) hx 21 21 rfl fc10 h0 (hx.la hN h0 rfl) rfl ⟨rfl, rfl, rfl⟩ g566 dL_sends_45 ?_
  refine E_iload (pc := 48) hx 4 dL_sends_48 rfl ?_
  refine I_iast7 (pc := 50) hx hN (kt_10_16 h0) dL_sends_50 (fun w5 => ?_)
  refine E_aload_n (pc := 51) hx 0 dL_sends_51 rfl rfl ?_
  refine E_getR (pc := 52) hx 17 fc10 h0 (hx.la hN h0 rfl) rfl ⟨rfl, rfl, rfl⟩ g562 dL_sends_52 ?_
  refine E_aload_n (pc := 55) hx 0 dL_sends_55 rfl rfl ?_
  refine I_getI (pc := 56) hx 21 21 rfl fc10 h0 (hx.la hN h0 rfl) rfl ⟨rfl, rfl, rfl⟩ g566 dL_sends_56 ?_
  refine E_iload (pc := 59) hx 5 dL_sends_59 rfl ?_
  refine I_iast7 (pc := 61) hx hN (kt_10_17 h0) dL_sends_61 (fun w6 => ?_)
  refine E_aload_n (pc := 62) hx 0 dL_sends_62 rfl rfl ?_
  refine E_getR (pc := 63) hx 18 fc10 h0 (hx.la hN h0 rfl) rfl ⟨rfl, rfl, rfl⟩ g563 dL_sends_63 ?_
  refine E_aload_n (pc := 66) hx 0 dL_sends_66 rfl rfl ?_
  refine I_getI (pc := 67) hx 21 21 rfl fc10 h0 (hx.la hN h0 rfl) rfl ⟨rfl, rfl, rfl⟩ g566 dL_sends_67 ?_
  refine E_aload_n (pc := 70) hx 3 dL_sends_70 rfl rfl ?_
  refine I_aast5 (pc := 71) hx hN (kt_10_18 h0) h3 dL_sends_71 (fun w7 => ?_)
  refine E_aload_n (pc := 72) hx 0 dL_sends_72 rfl rfl ?_
  refine E_getR (pc := 73) hx 19 fc10 h0 (hx.la hN h0 rfl) rfl ⟨rfl, rfl, rfl⟩ g564 dL_sends_73 ?_
  refine E_aload_n (pc := 76) hx 0 dL_sends_76 rfl rfl ?_
  refine I_getI (pc := 77) hx 21 21 rfl fc10 h0 (hx.la hN h0 rfl) rfl ⟨rfl, rfl, rfl⟩ g566 dL_sends_77 ?_
  refine E_aload_n (pc := 80) hx 3 dL_sends_80 rfl rfl ?_
  refine I_alen6 (pc := 81) hx h3 dL_sends_81 (fun hr8 => ?_)
  refine I_new6 (pc := 82) hx (gw_in 77 (by decide +kernel) (by decide +kernel)) dL_sends_82 (by omega) ⟨Or.inl (hx.la hN h0 rfl), True.intro, True.intro, Or.inl h3.xq, True.intro, True.intro, True.intro⟩ ⟨True.intro, Or.inl (hx.la hN (kt_10_19 h0) rfl), True.intro⟩ (fun ad10 N11 hA12 hx13 hd14 w9 => ?_)
  have hN := Nat.le_trans hN hA12.1.1
  have hG := hG.step hA12
  have h3 := dy.up hA12 h3
  have hx := hx13
  refine I_aast5 (pc := 84) hx hN (kt_10_19 h0) hd14 dL_sends_84 (fun w15 => ?_)
  refine E_aload_n (pc := 85) hx 0 dL_sends_85 rfl rfl ?_
  refine E_aload_n (pc := 86) hx 0 dL_sends_86 rfl rfl ?_
  refine I_getI (pc := 87) hx 21 21 rfl fc10 h0 (hx.la hN h0 rfl) rfl ⟨rfl, rfl, rfl⟩ g566 dL_sends_87 ?_
  refine I_cVV  (pc := 90) hx [.int (oI (w15 a0 21))] [] (ev_L_resets F a0 h0 (w15 a0 21) w15) vm_L_resets fc10 h0 (hx.la hN h0 rfl) g856 dL_sends_90 rfl rfl (Nat.le_of_ble_eq_true rfl) (Nat.le_of_ble_eq_true rfl) (by omega) (fun w16 => ?_)
  refine E_aload_n (pc := 93) hx 0 dL_sends_93 rfl rfl ?_
  refine E_dup (pc := 94) hx dL_sends_94 rfl ?_
  refine I_getI (pc := 95) hx 26 26 rfl fc10 h0 (hx.la hN h0 rfl) rfl ⟨rfl, rfl, rfl⟩ g571 dL_sends_95 ?_
  refine E_iload (pc := 98) hx 5 dL_sends_98 rfl ?_
  refine I_iadd (pc := 100) hx dL_sends_100 ?_
  refine I_put (pc := 101) hx 26 26 rfl .int tyL fc10 tyL_ok h0 (hx.la hN h0 rfl) rfl ⟨rfl, rfl, rfl, rfl, pfd_I⟩ rfl rfl g571 dL_sends_101 (fun w17 => ?_)
  refine E_aload_n (pc := 104) hx 0 dL_sends_104 rfl rfl ?_
  refine E_dup (pc := 105) hx dL_sends_105 rfl ?_
  refine I_getI (pc := 106) hx 21 21 rfl fc10 h0 (hx.la hN h0 rfl) rfl ⟨rfl, rfl, rfl⟩ g566 dL_sends_106 ?_
  refine I_iconst (pc := 109) hx 1 dL_sends_109 ?_
  refine I_iadd (pc := 110) hx dL_sends_110 ?_
  refine I_put (pc := 111) hx 21 21 rfl .int tyL fc10 tyL_ok h0 (hx.la hN h0 rfl) rfl ⟨rfl, rfl, rfl, rfl, pfd_I⟩ rfl rfl g566 dL_sends_111 (fun w18 => ?_)
  exact G_vret (pc := 114) hx hG dL_sends_114 rfl rfl (by omega)
set_option maxHeartbeats 4000000 in
set_option maxRecDepth 100000 in
theorem l_L_lands_b261_b {x0 x : Cx} (F : Nat) (a0 : Nat) (h0 : shK a0 = 10 + 10) (p1 : Int)  (hx : CxOK x RL cL_lands 6 5 4 none) (hN : 241 ≤ xN x) (hG : Gr x0 x)  (k261 : Int → Nat → Int → aI → Option aI) (hk261 : ∀ {x : Cx} (hx : CxOK x RL cL_lands 6 5 4 none) (hN : 241 ≤ xN x) (hG : Gr x0 x) (v2 : Int) (v4 : Nat) (hv4 : dy x v4) (v5 : Int) (w : aI), EnG x0 x jvV 4 2 261 [(0, .ref a0), (1, .int (oI p1)), (2, .int (oI v2)), (4, .ref v4), (5, .int (oI v5))] [] (cm w) (k261 v2 v4 v5 w)) (v2 : Int) (v4 : Nat) (hv4 : dy x v4) (v5 : Int) (w : aI) : EnG x0 x jvV 4 2 261 [(0, .ref a0), (1, .int (oI p1)), (2, .int (oI v2)), (4, .ref v4), (5, .int (oI v5))] [] (cm w) (f_L_lands_b261_b F a0 p1   k261 v2 v4 v5 w) := by
  unfold f_L_lands_b261_b
  refine E_iload (pc := 261) hx 4 dL_lands_261 rfl ?_
  refine E_iload_n (pc := 263) hx 2 dL_lands_263 rfl rfl ?_
  refine E_gd (fun hr24 => ?_)
  refine I_icmp_ge (pc := 264) hx 291 dL_lands_264 rfl ⟨hr24.1, hr24.2⟩ ?_ ?_
  · refine E_aload_n (pc := 291) hx 0 dL_lands_291 rfl rfl ?_
    refine E_aload_n (pc := 292) hx 0 dL_lands_292 rfl rfl ?_
    refine E_getR (pc := 293) hx 9 fc10 h0 (hx.la hN h0 rfl) rfl ⟨rfl, rfl, rfl⟩ g554 dL_lands_293 ?_
    refine E_iload_n (pc := 296) hx 1 dL_lands_296 rfl rfl ?_
    refine I_iald7 (pc := 297) hx hN (kt_10_9 h0) dL_lands_297 ?_
    refine E_aload_n (pc := 298) hx 0 dL_lands_298 rfl rfl ?_
    refine E_getR (pc := 299) hx 8 fc10 h0 (hx.la hN h0 rfl) rfl ⟨rfl, rfl, rfl⟩ g553 dL_lands_299 ?_
    refine E_iload_n (pc := 302) hx 1 dL_lands_302 rfl rfl ?_
    refine I_iald7 (pc := 303) hx hN (kt_10_8 h0) dL_lands_303 ?_
    refine E_aload (pc := 304) hx 3 dL_lands_304 rfl ?_
    refine I_iconst (pc := 306) hx 0 dL_lands_306 ?_
    refine I_iconst (pc := 307) hx 1 dL_lands_307 ?_
    refine G_cVV (pc := 308) hx [.int (oI (w (shR a0 9) p1)), .int (oI (w (shR a0 8) p1)), .ref v4, .int (oI 0), .int (oI 1)] [] (ev_L_sends F a0 h0 (w (shR a0 9) p1) (w (shR a0 8) p1) v4 0 1 w) vm_L_sends fc10 h0 (hx.la hN h0 rfl) g852 dL_lands_308 rfl rfl (Nat.le_of_ble_eq_true rfl) (Nat.le_of_ble_eq_true rfl) (by omega) ⟨Or.inl (hx.la hN h0 rfl), True.intro, True.intro, Or.inl hv4.xq, True.intro, True.intro⟩ True.intro (fun ad26 N27 hA28 hx29 w25 => ?_)
    have hN := Nat.le_trans hN hA28.1.1
    have hG := hG.step hA28
    have hv4 := dy.up hA28 hv4
    have hx := hx29
    exact G_vret (pc := 311) hx hG dL_lands_311 rfl rfl (by omega)
  refine E_aload (pc := 267) hx 3 dL_lands_267 rfl ?_
  refine E_iload_n (pc := 269) hx 2 dL_lands_269 rfl rfl ?_
  refine I_iconst (pc := 270) hx 1 dL_lands_270 ?_
  refine I_isub (pc := 271) hx dL_lands_271 ?_
  refine E_iload (pc := 272) hx 4 dL_lands_272 rfl ?_
  refine I_isub (pc := 274) hx dL_lands_274 ?_
  refine E_aload_n (pc := 275) hx 0 dL_lands_275 rfl rfl ?_
  refine E_getR (pc := 276) hx 18 fc10 h0 (hx.la hN h0 rfl) rfl ⟨rfl, rfl, rfl⟩ g563 dL_lands_276 ?_
  refine E_iload_n (pc := 279) hx 1 dL_lands_279 rfl rfl ?_
  refine I_aald5 (pc := 280) hx hN (kt_10_18 h0) dL_lands_280 (fun hd30 => ?_)
  refine E_iload (pc := 281) hx 4 dL_lands_281 rfl ?_
  refine I_iald6 (pc := 283) hx hd30 dL_lands_283 ?_
  refine I_iast6 (pc := 284) hx hv4 dL_lands_284 (fun w31 => ?_)
  refine I_iinc (pc := 285) hx 1 4 dL_lands_285 rfl (Nat.le_of_ble_eq_true rfl) rfl ?_
  refine E_goto (pc := 288) hx 261 dL_lands_288 rfl ?_
  refine En.sub [1, 2, 3, 4, 0] rfl ?_
  exact hk261 hx hN hG v2 v4 hv4 (v5 + 1) w31
theorem l_L_lands_b261 {x0 x : Cx} (F : Nat) (a0 : Nat) (h0 : shK a0 = 10 + 10) (p1 : Int)  (hx : CxOK x RL cL_lands 6 5 4 none) (hN : 241 ≤ xN x) (hG : Gr x0 x)  : ∀ (n : Nat) (v2 : Int) (v4 : Nat) (hv4 : dy x v4) (v5 : Int) (w : aI), EnG x0 x jvV 4 2 261 [(0, .ref a0), (1, .int (oI p1)), (2, .int (oI v2)), (4, .ref v4), (5, .int (oI v5))] [] (cm w) (f_L_lands_b261 F a0 p1   n v2 v4 v5 w) := by
  intro n
  induction n generalizing x with
  | zero => intro v2 v4 hv4 v5 w; exact E_none
  | succ n ih => intro v2 v4 hv4 v5 w; exact l_L_lands_b261_b F a0 h0 p1  hx hN hG  _ (fun {x} hx hN hG => ih hx hN hG) v2 v4 hv4 v5 w
set_option maxHeartbeats 4000000 in
set_option maxRecDepth 100000 in
theorem l_L_lands_b198 {x0 x : Cx} (F : Nat) (a0 : Nat) (h0 : shK a0 = 10 + 10) (p1 : Int)  (hx : CxOK x RL cL_lands 6 5 4 none) (hN : 241 ≤ xN x) (hG : Gr x0 x)   (v2 : Int) (w : aI) : EnG x0 x jvV 4 0 198 [(0, .ref a0), (1, .int (oI p1)), (2, .int (oI v2))] [] (cm w) (f_L_lands_b198 F a0 p1    v2 w) := by
  unfold f_L_lands_b198
  refine E_aload_n (pc := 198) hx 0 dL_lands_198 rfl rfl ?_
  refine E_getR (pc := 199) hx 10 fc10 h0 (hx.la hN h0 rfl) rfl ⟨rfl, rfl, rfl⟩ g555 dL_lands_199 ?_
  refine E_iload_n (pc := 202) hx 1 dL_lands_202 rfl rfl ?_
  refine I_iconst (pc := 203) hx 2 dL_lands_203 ?_
  refine I_iast7 (pc := 204) hx hN (kt_10_10 h0) dL_lands_204 (fun w12 => ?_)
  refine E_aload_n (pc := 205) hx 0 dL_lands_205 rfl rfl ?_
  refine E_dup (pc := 206) hx dL_lands_206 rfl ?_
  refine I_getI (pc := 207) hx 28 28 rfl fc10 h0 (hx.la hN h0 rfl) rfl ⟨rfl, rfl, rfl⟩ g573 dL_lands_207 ?_
  refine I_iconst (pc := 210) hx 1 dL_lands_210 ?_
  refine I_iadd (pc := 211) hx dL_lands_211 ?_
  refine I_put (pc := 212) hx 28 28 rfl .int tyL fc10 tyL_ok h0 (hx.la hN h0 rfl) rfl ⟨rfl, rfl, rfl, rfl, pfd_I⟩ rfl rfl g573 dL_lands_212 (fun w13 => ?_)
  refine E_aload_n (pc := 215) hx 0 dL_lands_215 rfl rfl ?_
  refine E_iload_n (pc := 216) hx 1 dL_lands_216 rfl rfl ?_
  refine I_cVB  (pc := 217) hx [.int (oI p1)] [] (ev_L_isRight F a0 h0 p1 w13) vm_L_isRight fc10 h0 (hx.la hN h0 rfl) g897 dL_lands_217 rfl rfl (Nat.le_of_ble_eq_true rfl) (Nat.le_of_ble_eq_true rfl) (by omega) (fun r14 => ?_)
  refine I_ifB_ne (pc := 220) hx 224 dL_lands_220 rfl ?_ ?_
  · refine E_aload_n (pc := 224) hx 0 dL_lands_224 rfl rfl ?_
    refine E_dup (pc := 225) hx dL_lands_225 rfl ?_
    refine I_getI (pc := 226) hx 29 29 rfl fc10 h0 (hx.la hN h0 rfl) rfl ⟨rfl, rfl, rfl⟩ g574 dL_lands_226 ?_
    refine I_iconst (pc := 229) hx 1 dL_lands_229 ?_
    refine I_iadd (pc := 230) hx dL_lands_230 ?_
    refine I_put (pc := 231) hx 29 29 rfl .int tyL fc10 tyL_ok h0 (hx.la hN h0 rfl) rfl ⟨rfl, rfl, rfl, rfl, pfd_I⟩ rfl rfl g574 dL_lands_231 (fun w15 => ?_)
    refine E_aload_n (pc := 234) hx 0 dL_lands_234 rfl rfl ?_
    refine E_getR (pc := 235) hx 16 fc10 h0 (hx.la hN h0 rfl) rfl ⟨rfl, rfl, rfl⟩ g561 dL_lands_235 ?_
    refine E_iload_n (pc := 238) hx 1 dL_lands_238 rfl rfl ?_
    refine I_iald7 (pc := 239) hx hN (kt_10_16 h0) dL_lands_239 ?_
    refine E_gd (fun hr16 => ?_)
    refine I_if_eq (pc := 240) hx 252 dL_lands_240 rfl hr16 ?_ ?_
    · exact G_vret (pc := 252) hx hG dL_lands_252 rfl rfl (by omega)
    refine E_aload_n (pc := 243) hx 0 dL_lands_243 rfl rfl ?_
    refine I_getI (pc := 244) hx 21 21 rfl fc10 h0 (hx.la hN h0 rfl) rfl ⟨rfl, rfl, rfl⟩ g566 dL_lands_244 ?_
    refine I_bipush (pc := 247) hx 30 dL_lands_247 rfl ?_
    refine E_gd (fun hr17 => ?_)
    refine I_icmp_ne (pc := 249) hx 253 dL_lands_249 rfl ⟨hr17, (by decide)⟩ ?_ ?_
    · refine E_iload_n (pc := 253) hx 2 dL_lands_253 rfl rfl ?_
      refine I_new6 (pc := 254) hx (gw_in 77 (by decide +kernel) (by decide +kernel)) dL_lands_254 (by omega) ⟨Or.inl (hx.la hN h0 rfl), True.intro, True.intro, True.intro⟩ True.intro (fun ad19 N20 hA21 hx22 hd23 w18 => ?_)
      have hN := Nat.le_trans hN hA21.1.1
      have hG := hG.step hA21
      have hx := hx22
      refine E_astore (pc := 256) hx dL_lands_256 (Nat.le_of_ble_eq_true rfl) rfl ?_
      refine I_iconst (pc := 258) hx 0 dL_lands_258 ?_
      refine E_istore (pc := 259) hx dL_lands_259 (Nat.le_of_ble_eq_true rfl) rfl ?_
      refine En.sub [2, 3, 4, 1, 0] rfl ?_
      exact l_L_lands_b261 F a0 h0 p1 hx hN hG F v2 ((w15 999 0 + 90).toNat) hd23 0 w18
    exact G_vret (pc := 252) hx hG dL_lands_252 rfl rfl (by omega)
  exact G_vret (pc := 223) hx hG dL_lands_223 rfl rfl (by omega)
set_option maxHeartbeats 4000000 in
set_option maxRecDepth 100000 in
theorem l_L_lands_b99 {x0 x : Cx} (F : Nat) (a0 : Nat) (h0 : shK a0 = 10 + 10) (p1 : Int)  (hx : CxOK x RL cL_lands 6 5 4 none) (hN : 241 ≤ xN x) (hG : Gr x0 x) (k44 : Int → Int → Int → aI → Option aI) (hk44 : ∀ {x : Cx} (hx : CxOK x RL cL_lands 6 5 4 none) (hN : 241 ≤ xN x) (hG : Gr x0 x) (v2 : Int) (v3 : Int) (v4 : Int) (w : aI), EnG x0 x jvV 4 0 44 [(0, .ref a0), (1, .int (oI p1)), (2, .int (oI v2)), (3, .int (oI v3)), (4, .int (oI v4))] [] (cm w) (k44 v2 v3 v4 w))  (v2 : Int) (v3 : Int) (v4 : Int) (z0 : Int) (z1 : Int) (z2 : Nat) (hz2 : dy x z2) (w : aI) : EnG x0 x jvV 4 0 99 [(0, .ref a0), (1, .int (oI p1)), (2, .int (oI v2)), (3, .int (oI v3)), (4, .int (oI v4))] [.int (oI z0), .int (oI z1), .ref z2] (cm w) (f_L_lands_b99 F a0 p1  k44  v2 v3 v4 z0 z1 z2 w) := by
  unfold f_L_lands_b99
  refine I_iast6 (pc := 99) hx hz2 dL_lands_99 (fun w44 => ?_)
  refine E_aload_n (pc := 100) hx 0 dL_lands_100 rfl rfl ?_
  refine E_dup (pc := 101) hx dL_lands_101 rfl ?_
  refine I_getI (pc := 102) hx 27 27 rfl fc10 h0 (hx.la hN h0 rfl) rfl ⟨rfl, rfl, rfl⟩ g572 dL_lands_102 ?_
  refine I_iconst (pc := 105) hx 1 dL_lands_105 ?_
  refine I_iadd (pc := 106) hx dL_lands_106 ?_
  refine I_put (pc := 107) hx 27 27 rfl .int tyL fc10 tyL_ok h0 (hx.la hN h0 rfl) rfl ⟨rfl, rfl, rfl, rfl, pfd_I⟩ rfl rfl g572 dL_lands_107 (fun w45 => ?_)
  refine I_iinc (pc := 110) hx 1 4 dL_lands_110 rfl (Nat.le_of_ble_eq_true rfl) rfl ?_
  refine E_goto (pc := 113) hx 44 dL_lands_113 rfl ?_
  refine En.sub [1, 2, 3, 4, 0] rfl ?_
  exact hk44 hx hN hG v2 v3 (v4 + 1) w45
set_option maxHeartbeats 4000000 in
set_option maxRecDepth 100000 in
theorem l_L_lands_b44_b {x0 x : Cx} (F : Nat) (a0 : Nat) (h0 : shK a0 = 10 + 10) (p1 : Int)  (hx : CxOK x RL cL_lands 6 5 4 none) (hN : 241 ≤ xN x) (hG : Gr x0 x)  (k44 : Int → Int → Int → aI → Option aI) (hk44 : ∀ {x : Cx} (hx : CxOK x RL cL_lands 6 5 4 none) (hN : 241 ≤ xN x) (hG : Gr x0 x) (v2 : Int) (v3 : Int) (v4 : Int) (w : aI), EnG x0 x jvV 4 0 44 [(0, .ref a0), (1, .int (oI p1)), (2, .int (oI v2)), (3, .int (oI v3)), (4, .int (oI v4))] [] (cm w) (k44 v2 v3 v4 w)) (v2 : Int) (v3 : Int) (v4 : Int) (w : aI) : EnG x0 x jvV 4 0 44 [(0, .ref a0), (1, .int (oI p1)), (2, .int (oI v2)), (3, .int (oI v3)), (4, .int (oI v4))] [] (cm w) (f_L_lands_b44_b F a0 p1   k44 v2 v3 v4 w) := by
  unfold f_L_lands_b44_b
  refine E_iload (pc := 44) hx 4 dL_lands_44 rfl ?_
  refine E_iload_n (pc := 46) hx 3 dL_lands_46 rfl rfl ?_
  refine E_iload_n (pc := 47) hx 2 dL_lands_47 rfl rfl ?_
  refine E_gd (fun hr7 => ?_)
  refine I_mmin (pc := 48) hx ⟨hr7.1, hr7.2⟩ g681 g482 g40 g483 (Nat.le_of_ble_eq_true rfl) (Nat.le_of_ble_eq_true rfl) (by omega) dL_lands_48 ?_
  refine E_gd (fun hr8 => ?_)
  refine I_icmp_ge (pc := 51) hx 116 dL_lands_51 rfl ⟨hr8.1, hr8.2⟩ ?_ ?_
  · refine E_aload_n (pc := 116) hx 0 dL_lands_116 rfl rfl ?_
    refine E_getR (pc := 117) hx 10 fc10 h0 (hx.la hN h0 rfl) rfl ⟨rfl, rfl, rfl⟩ g555 dL_lands_117 ?_
    refine E_iload_n (pc := 120) hx 1 dL_lands_120 rfl rfl ?_
    refine I_iconst (pc := 121) hx 0 dL_lands_121 ?_
    refine I_iast7 (pc := 122) hx hN (kt_10_10 h0) dL_lands_122 (fun w9 => ?_)
    refine E_aload_n (pc := 123) hx 0 dL_lands_123 rfl rfl ?_
    refine E_getR (pc := 124) hx 11 fc10 h0 (hx.la hN h0 rfl) rfl ⟨rfl, rfl, rfl⟩ g556 dL_lands_124 ?_
    refine E_iload_n (pc := 127) hx 1 dL_lands_127 rfl rfl ?_
    refine I_iald7 (pc := 128) hx hN (kt_10_11 h0) dL_lands_128 ?_
    refine E_aload_n (pc := 129) hx 0 dL_lands_129 rfl rfl ?_
    refine E_getR (pc := 130) hx 9 fc10 h0 (hx.la hN h0 rfl) rfl ⟨rfl, rfl, rfl⟩ g554 dL_lands_130 ?_
    refine E_iload_n (pc := 133) hx 1 dL_lands_133 rfl rfl ?_
    refine I_iald7 (pc := 134) hx hN (kt_10_9 h0) dL_lands_134 ?_
    refine E_gd (fun hr10 => ?_)
    refine I_icmp_eq (pc := 135) hx 139 dL_lands_135 rfl ⟨hr10.1, hr10.2⟩ ?_ ?_
    · refine E_aload_n (pc := 139) hx 0 dL_lands_139 rfl rfl ?_
      refine E_iload_n (pc := 140) hx 1 dL_lands_140 rfl rfl ?_
      refine I_cVB  (pc := 141) hx [.int (oI p1)] [] (ev_L_isRight F a0 h0 p1 w9) vm_L_isRight fc10 h0 (hx.la hN h0 rfl) g897 dL_lands_141 rfl rfl (Nat.le_of_ble_eq_true rfl) (Nat.le_of_ble_eq_true rfl) (by omega) (fun r11 => ?_)
      refine I_ifB_ne (pc := 144) hx 198 dL_lands_144 rfl ?_ ?_
      · refine En.sub [0, 1, 2] rfl ?_
        exact l_L_lands_b198 F a0 h0 p1 hx hN hG v2 w9
      refine E_aload_n (pc := 147) hx 0 dL_lands_147 rfl rfl ?_
      refine E_getR (pc := 148) hx 14 fc10 h0 (hx.la hN h0 rfl) rfl ⟨rfl, rfl, rfl⟩ g559 dL_lands_148 ?_
      refine E_iload_n (pc := 151) hx 1 dL_lands_151 rfl rfl ?_
      refine I_iald7 (pc := 152) hx hN (kt_10_14 h0) dL_lands_152 ?_
      refine E_aload_n (pc := 153) hx 0 dL_lands_153 rfl rfl ?_
      refine I_getI (pc := 154) hx 25 25 rfl fc10 h0 (hx.la hN h0 rfl) rfl ⟨rfl, rfl, rfl⟩ g570 dL_lands_154 ?_
      refine E_gd (fun hr32 => ?_)
      refine I_icmp_ge (pc := 157) hx 198 dL_lands_157 rfl ⟨hr32.1, hr32.2⟩ ?_ ?_
      · refine En.sub [0, 1, 2] rfl ?_
        exact l_L_lands_b198 F a0 h0 p1 hx hN hG v2 w9
      refine E_aload_n (pc := 160) hx 0 dL_lands_160 rfl rfl ?_
      refine E_getR (pc := 161) hx 14 fc10 h0 (hx.la hN h0 rfl) rfl ⟨rfl, rfl, rfl⟩ g559 dL_lands_161 ?_
      refine E_iload_n (pc := 164) hx 1 dL_lands_164 rfl rfl ?_
      refine E_dup2 (pc := 165) hx dL_lands_165 rfl rfl ?_
      refine I_iald7 (pc := 166) hx hN (kt_10_14 h0) dL_lands_166 ?_
      refine I_iconst (pc := 167) hx 1 dL_lands_167 ?_
      refine I_iadd (pc := 168) hx dL_lands_168 ?_
      refine I_iast7 (pc := 169) hx hN (kt_10_14 h0) dL_lands_169 (fun w33 => ?_)
      refine E_aload_n (pc := 170) hx 0 dL_lands_170 rfl rfl ?_
      refine E_dup (pc := 171) hx dL_lands_171 rfl ?_
      refine I_getI (pc := 172) hx 30 30 rfl fc10 h0 (hx.la hN h0 rfl) rfl ⟨rfl, rfl, rfl⟩ g575 dL_lands_172 ?_
      refine I_iconst (pc := 175) hx 1 dL_lands_175 ?_
      refine I_iadd (pc := 176) hx dL_lands_176 ?_
      refine I_put (pc := 177) hx 30 30 rfl .int tyL fc10 tyL_ok h0 (hx.la hN h0 rfl) rfl ⟨rfl, rfl, rfl, rfl, pfd_I⟩ rfl rfl g575 dL_lands_177 (fun w34 => ?_)
      refine E_aload_n (pc := 180) hx 0 dL_lands_180 rfl rfl ?_
      refine E_iload_n (pc := 181) hx 1 dL_lands_181 rfl rfl ?_
      refine I_cVV  (pc := 182) hx [.int (oI p1)] [] (ev_L_resets F a0 h0 p1 w34) vm_L_resets fc10 h0 (hx.la hN h0 rfl) g856 dL_lands_182 rfl rfl (Nat.le_of_ble_eq_true rfl) (Nat.le_of_ble_eq_true rfl) (by omega) (fun w35 => ?_)
      refine E_aload_n (pc := 185) hx 0 dL_lands_185 rfl rfl ?_
      refine E_getR (pc := 186) hx 11 fc10 h0 (hx.la hN h0 rfl) rfl ⟨rfl, rfl, rfl⟩ g556 dL_lands_186 ?_
      refine E_iload_n (pc := 189) hx 1 dL_lands_189 rfl rfl ?_
      refine E_aload_n (pc := 190) hx 0 dL_lands_190 rfl rfl ?_
      refine E_getR (pc := 191) hx 8 fc10 h0 (hx.la hN h0 rfl) rfl ⟨rfl, rfl, rfl⟩ g553 dL_lands_191 ?_
      refine E_iload_n (pc := 194) hx 1 dL_lands_194 rfl rfl ?_
      refine I_iald7 (pc := 195) hx hN (kt_10_8 h0) dL_lands_195 ?_
      refine I_iast7 (pc := 196) hx hN (kt_10_11 h0) dL_lands_196 (fun w36 => ?_)
      exact G_vret (pc := 197) hx hG dL_lands_197 rfl rfl (by omega)
    exact G_vret (pc := 138) hx hG dL_lands_138 rfl rfl (by omega)
  refine E_iload_n (pc := 54) hx 1 dL_lands_54 rfl rfl ?_
  refine E_iload (pc := 55) hx 4 dL_lands_55 rfl ?_
  refine I_iadd (pc := 57) hx dL_lands_57 ?_
  refine E_iload_n (pc := 58) hx 2 dL_lands_58 rfl rfl ?_
  refine E_gd (fun hr37 => ?_)
  refine E_gd (fun hd38 => ?_)
  refine I_irem (pc := 59) hx dL_lands_59 ⟨hr37, hr7.2, hd38⟩ ?_
  refine I_ltv (fun v5_39 => ?_)
  refine E_istore (pc := 60) hx dL_lands_60 (Nat.le_of_ble_eq_true rfl) rfl ?_
  refine E_aload_n (pc := 62) hx 1 dL_lands_62 rfl rfl ?_
  refine E_getR (pc := 63) hx 19 fc10 h0 (hx.la hN h0 rfl) rfl ⟨rfl, rfl, rfl⟩ g564 dL_lands_63 ?_
  refine E_iload_n (pc := 66) hx 2 dL_lands_66 rfl rfl ?_
  refine I_aald5 (pc := 67) hx hN (kt_10_19 h0) dL_lands_67 (fun hd40 => ?_)
  refine E_iload (pc := 68) hx 0 dL_lands_68 rfl ?_
  refine E_aload_n (pc := 70) hx 1 dL_lands_70 rfl rfl ?_
  refine E_getR (pc := 71) hx 19 fc10 h0 (hx.la hN h0 rfl) rfl ⟨rfl, rfl, rfl⟩ g564 dL_lands_71 ?_
  refine E_iload_n (pc := 74) hx 2 dL_lands_74 rfl rfl ?_
  refine I_aald5 (pc := 75) hx hN (kt_10_19 h0) dL_lands_75 (fun hd41 => ?_)
  refine E_iload (pc := 76) hx 0 dL_lands_76 rfl ?_
  refine I_iald6 (pc := 78) hx hd41 dL_lands_78 ?_
  refine I_bipush (pc := 79) hx 7 dL_lands_79 rfl ?_
  refine E_gd (fun hr42 => ?_)
  refine I_icmp_ne (pc := 81) hx 88 dL_lands_81 rfl ⟨hr42, (by decide)⟩ ?_ ?_
  · refine E_aload_n (pc := 88) hx 1 dL_lands_88 rfl rfl ?_
    refine E_getR (pc := 89) hx 19 fc10 h0 (hx.la hN h0 rfl) rfl ⟨rfl, rfl, rfl⟩ g564 dL_lands_89 ?_
    refine E_iload_n (pc := 92) hx 2 dL_lands_92 rfl rfl ?_
    refine I_aald5 (pc := 93) hx hN (kt_10_19 h0) dL_lands_93 (fun hd43 => ?_)
    refine E_iload (pc := 94) hx 0 dL_lands_94 rfl ?_
    refine I_iald6 (pc := 96) hx hd43 dL_lands_96 ?_
    refine I_iconst (pc := 97) hx 1 dL_lands_97 ?_
    refine I_iadd (pc := 98) hx dL_lands_98 ?_
    refine En.sub [1, 2, 3, 4, 5] rfl ?_
    exact l_L_lands_b99 F a0 h0 p1 hx hN hG k44 hk44 v2 v3 v4 ((w ((w (shR a0 19) p1).toNat) v5_39) + 1) v5_39 ((w (shR a0 19) p1).toNat) hd40 w
  refine I_iconst (pc := 84) hx 0 dL_lands_84 ?_
  refine E_goto (pc := 85) hx 99 dL_lands_85 rfl ?_
  refine En.sub [1, 2, 3, 4, 5] rfl ?_
  exact l_L_lands_b99 F a0 h0 p1 hx hN hG k44 hk44 v2 v3 v4 0 v5_39 ((w (shR a0 19) p1).toNat) hd40 w
theorem l_L_lands_b44 {x0 x : Cx} (F : Nat) (a0 : Nat) (h0 : shK a0 = 10 + 10) (p1 : Int)  (hx : CxOK x RL cL_lands 6 5 4 none) (hN : 241 ≤ xN x) (hG : Gr x0 x)  : ∀ (n : Nat) (v2 : Int) (v3 : Int) (v4 : Int) (w : aI), EnG x0 x jvV 4 0 44 [(0, .ref a0), (1, .int (oI p1)), (2, .int (oI v2)), (3, .int (oI v3)), (4, .int (oI v4))] [] (cm w) (f_L_lands_b44 F a0 p1   n v2 v3 v4 w) := by
  intro n
  induction n generalizing x with
  | zero => intro v2 v3 v4 w; exact E_none
  | succ n ih => intro v2 v3 v4 w; exact l_L_lands_b44_b F a0 h0 p1  hx hN hG  _ (fun {x} hx hN hG => ih hx hN hG) v2 v3 v4 w
set_option maxHeartbeats 4000000 in
set_option maxRecDepth 100000 in
theorem ev_L_lands (F : Nat) (a0 : Nat) (h0 : shK a0 = 10 + 10) (p1 : Int) (w : aI) : EvG yL_lands cL_lands 6 none 5 4 jvV [.ref a0, .int (oI p1)] (cm w) (f_L_lands F a0 p1 w) := by
  refine EvG.of (own := RL) (by decide +kernel) rfl (Nat.le_of_ble_eq_true rfl) (fun x hx hG => ?_)
  show EnG x x jvV 4 0 0 [(0, .ref a0), (1, .int (oI p1))] [] (cm w) _
  unfold f_L_lands
  refine E_gN (fun hN => ?_)
  refine E_aload_n (pc := 0) hx 0 dL_lands_0 rfl rfl ?_
  refine E_getR (pc := 1) hx 18 fc10 h0 (hx.la hN h0 rfl) rfl ⟨rfl, rfl, rfl⟩ g563 dL_lands_1 ?_
  refine E_iload_n (pc := 4) hx 1 dL_lands_4 rfl rfl ?_
  refine I_aald5 (pc := 5) hx hN (kt_10_18 h0) dL_lands_5 (fun hd1 => ?_)
  refine I_alen6 (pc := 6) hx hd1 dL_lands_6 (fun hr2 => ?_)
  refine I_ltv (fun v2_3 => ?_)
  refine E_istore_n (pc := 7) hx dL_lands_7 rfl (Nat.le_of_ble_eq_true rfl) rfl ?_
  refine I_iconst (pc := 8) hx 0 dL_lands_8 ?_
  refine E_aload_n (pc := 9) hx 1 dL_lands_9 rfl rfl ?_
  refine I_getI (pc := 10) hx 23 23 rfl fc10 h0 (hx.la hN h0 rfl) rfl ⟨rfl, rfl, rfl⟩ g568 dL_lands_10 ?_
  refine E_aload_n (pc := 13) hx 1 dL_lands_13 rfl rfl ?_
  refine E_getR (pc := 14) hx 13 fc10 h0 (hx.la hN h0 rfl) rfl ⟨rfl, rfl, rfl⟩ g558 dL_lands_14 ?_
  refine E_iload_n (pc := 17) hx 2 dL_lands_17 rfl rfl ?_
  refine I_iald7 (pc := 18) hx hN (kt_10_13 h0) dL_lands_18 ?_
  refine I_imul (pc := 19) hx dL_lands_19 ?_
  refine I_iconst (pc := 20) hx 3 dL_lands_20 ?_
  refine E_aload_n (pc := 21) hx 1 dL_lands_21 rfl rfl ?_
  refine E_getR (pc := 22) hx 1 fc10 h0 (hx.la hN h0 rfl) rfl ⟨rfl, rfl, rfl⟩ g546 dL_lands_22 ?_
  refine E_aload_n (pc := 25) hx 1 dL_lands_25 rfl rfl ?_
  refine E_getR (pc := 26) hx 11 fc10 h0 (hx.la hN h0 rfl) rfl ⟨rfl, rfl, rfl⟩ g556 dL_lands_26 ?_
  refine E_iload_n (pc := 29) hx 2 dL_lands_29 rfl rfl ?_
  refine I_iald7 (pc := 30) hx hN (kt_10_11 h0) dL_lands_30 ?_
  refine I_iald7 (pc := 31) hx hN (kt_10_1 h0) dL_lands_31 ?_
  refine I_imul (pc := 32) hx dL_lands_32 ?_
  refine I_isub (pc := 33) hx dL_lands_33 ?_
  refine E_gd (fun hr4 => ?_)
  refine I_mmax (pc := 34) hx ⟨(by decide), hr4⟩ g894 g895 g40 g896 (Nat.le_of_ble_eq_true rfl) (Nat.le_of_ble_eq_true rfl) (by omega) dL_lands_34 ?_
  refine I_bipush (pc := 37) hx 10 dL_lands_37 rfl ?_
  refine E_gd (fun hr5 => ?_)
  refine I_idiv (pc := 39) hx dL_lands_39 ⟨hr5, (by decide), (by decide)⟩ ?_
  refine I_ltv (fun v3_6 => ?_)
  refine E_istore_n (pc := 40) hx dL_lands_40 rfl (Nat.le_of_ble_eq_true rfl) rfl ?_
  refine I_iconst (pc := 41) hx 0 dL_lands_41 ?_
  refine E_istore (pc := 42) hx dL_lands_42 (Nat.le_of_ble_eq_true rfl) rfl ?_
  refine En.sub [3, 4, 2, 1, 0] rfl ?_
  exact l_L_lands_b44 F a0 h0 p1 hx hN hG F v2_3 v3_6 0 w
set_option maxHeartbeats 4000000 in
set_option maxRecDepth 100000 in
theorem l_L_ticks_b309_b {x0 x : Cx} (F : Nat) (a0 : Nat) (h0 : shK a0 = 10 + 10)  (hx : CxOK x RL cL_ticks 7 6 130 none) (hN : 241 ≤ xN x) (hG : Gr x0 x)  (k309 : Int → aI → Option aI) (hk309 : ∀ {x : Cx} (hx : CxOK x RL cL_ticks 7 6 130 none) (hN : 241 ≤ xN x) (hG : Gr x0 x) (v2 : Int) (w : aI), EnG x0 x jvV 130 120 309 [(0, .ref a0), (2, .int (oI v2))] [] (cm w) (k309 v2 w)) (v2 : Int) (w : aI) : EnG x0 x jvV 130 120 309 [(0, .ref a0), (2, .int (oI v2))] [] (cm w) (f_L_ticks_b309_b F a0   k309 v2 w) := by
  unfold f_L_ticks_b309_b
  refine E_iload_n (pc := 309) hx 1 dL_ticks_309 rfl rfl ?_
  refine E_aload_n (pc := 310) hx 0 dL_ticks_310 rfl rfl ?_
  refine I_getI (pc := 311) hx 21 21 rfl fc10 h0 (hx.la hN h0 rfl) rfl ⟨rfl, rfl, rfl⟩ g566 dL_ticks_311 ?_
  refine E_gd (fun hr5 => ?_)
  refine I_icmp_ge (pc := 314) hx 376 dL_ticks_314 rfl ⟨hr5.1, hr5.2⟩ ?_ ?_
  · exact G_vret (pc := 376) hx hG dL_ticks_376 rfl rfl (by omega)
  refine E_aload_n (pc := 317) hx 0 dL_ticks_317 rfl rfl ?_
  refine E_getR (pc := 318) hx 10 fc10 h0 (hx.la hN h0 rfl) rfl ⟨rfl, rfl, rfl⟩ g555 dL_ticks_318 ?_
  refine E_iload_n (pc := 321) hx 1 dL_ticks_321 rfl rfl ?_
  refine I_iald7 (pc := 322) hx hN (kt_10_10 h0) dL_ticks_322 ?_
  refine E_gd (fun hr6 => ?_)
  refine I_if_ne (pc := 323) hx 370 dL_ticks_323 rfl hr6 ?_ ?_
  · refine I_iinc (pc := 370) hx 1 1 dL_ticks_370 rfl (Nat.le_of_ble_eq_true rfl) rfl ?_
    refine E_goto (pc := 373) hx 309 dL_ticks_373 rfl ?_
    refine En.sub [1, 0] rfl ?_
    exact hk309 hx hN hG (v2 + 1) w
  refine E_aload_n (pc := 326) hx 0 dL_ticks_326 rfl rfl ?_
  refine E_getR (pc := 327) hx 7 fc10 h0 (hx.la hN h0 rfl) rfl ⟨rfl, rfl, rfl⟩ g552 dL_ticks_327 ?_
  refine E_aload_n (pc := 330) hx 0 dL_ticks_330 rfl rfl ?_
  refine E_getR (pc := 331) hx 11 fc10 h0 (hx.la hN h0 rfl) rfl ⟨rfl, rfl, rfl⟩ g556 dL_ticks_331 ?_
  refine E_iload_n (pc := 334) hx 1 dL_ticks_334 rfl rfl ?_
  refine I_iald7 (pc := 335) hx hN (kt_10_11 h0) dL_ticks_335 ?_
  refine I_aald4 (pc := 336) hx hN (kt_10_7 h0) dL_ticks_336 (fun ht7 => ?_)
  refine E_aload_n (pc := 337) hx 0 dL_ticks_337 rfl rfl ?_
  refine E_getR (pc := 338) hx 9 fc10 h0 (hx.la hN h0 rfl) rfl ⟨rfl, rfl, rfl⟩ g554 dL_ticks_338 ?_
  refine E_iload_n (pc := 341) hx 1 dL_ticks_341 rfl rfl ?_
  refine I_iald7 (pc := 342) hx hN (kt_10_9 h0) dL_ticks_342 ?_
  refine I_iald7 (pc := 343) hx hN ht7 dL_ticks_343 ?_
  refine I_sipush (pc := 344) hx 9999 dL_ticks_344 rfl ?_
  refine E_gd (fun hr8 => ?_)
  refine I_icmp_ge (pc := 347) hx 353 dL_ticks_347 rfl ⟨hr8, (by decide)⟩ ?_ ?_
  · refine E_aload_n (pc := 353) hx 0 dL_ticks_353 rfl rfl ?_
    refine E_getR (pc := 354) hx 10 fc10 h0 (hx.la hN h0 rfl) rfl ⟨rfl, rfl, rfl⟩ g555 dL_ticks_354 ?_
    refine E_iload_n (pc := 357) hx 1 dL_ticks_357 rfl rfl ?_
    refine I_iconst (pc := 358) hx 3 dL_ticks_358 ?_
    refine I_iast7 (pc := 359) hx hN (kt_10_10 h0) dL_ticks_359 (fun w9 => ?_)
    refine E_aload_n (pc := 360) hx 0 dL_ticks_360 rfl rfl ?_
    refine E_dup (pc := 361) hx dL_ticks_361 rfl ?_
    refine I_getI (pc := 362) hx 31 31 rfl fc10 h0 (hx.la hN h0 rfl) rfl ⟨rfl, rfl, rfl⟩ g576 dL_ticks_362 ?_
    refine I_iconst (pc := 365) hx 1 dL_ticks_365 ?_
    refine I_iadd (pc := 366) hx dL_ticks_366 ?_
    refine I_put (pc := 367) hx 31 31 rfl .int tyL fc10 tyL_ok h0 (hx.la hN h0 rfl) rfl ⟨rfl, rfl, rfl, rfl, pfd_I⟩ rfl rfl g576 dL_ticks_367 (fun w10 => ?_)
    refine I_iinc (pc := 370) hx 1 1 dL_ticks_370 rfl (Nat.le_of_ble_eq_true rfl) rfl ?_
    refine E_goto (pc := 373) hx 309 dL_ticks_373 rfl ?_
    refine En.sub [1, 0] rfl ?_
    exact hk309 hx hN hG (v2 + 1) w10
  refine E_goto (pc := 350) hx 370 dL_ticks_350 rfl ?_
  refine I_iinc (pc := 370) hx 1 1 dL_ticks_370 rfl (Nat.le_of_ble_eq_true rfl) rfl ?_
  refine E_goto (pc := 373) hx 309 dL_ticks_373 rfl ?_
  refine En.sub [1, 0] rfl ?_
  exact hk309 hx hN hG (v2 + 1) w
theorem l_L_ticks_b309 {x0 x : Cx} (F : Nat) (a0 : Nat) (h0 : shK a0 = 10 + 10)  (hx : CxOK x RL cL_ticks 7 6 130 none) (hN : 241 ≤ xN x) (hG : Gr x0 x)  : ∀ (n : Nat) (v2 : Int) (w : aI), EnG x0 x jvV 130 120 309 [(0, .ref a0), (2, .int (oI v2))] [] (cm w) (f_L_ticks_b309 F a0   n v2 w) := by
  intro n
  induction n generalizing x with
  | zero => intro v2 w; exact E_none
  | succ n ih => intro v2 w; exact l_L_ticks_b309_b F a0 h0  hx hN hG  _ (fun {x} hx hN hG => ih hx hN hG) v2 w
set_option maxHeartbeats 4000000 in
set_option maxRecDepth 100000 in
theorem l_L_ticks_b207 {x0 x : Cx} (F : Nat) (a0 : Nat) (h0 : shK a0 = 10 + 10)  (hx : CxOK x RL cL_ticks 7 6 130 none) (hN : 241 ≤ xN x) (hG : Gr x0 x) (k58 : Int → aI → Option aI) (hk58 : ∀ {x : Cx} (hx : CxOK x RL cL_ticks 7 6 130 none) (hN : 241 ≤ xN x) (hG : Gr x0 x) (v2 : Int) (w : aI), EnG x0 x jvV 130 120 58 [(0, .ref a0), (2, .int (oI v2))] [] (cm w) (k58 v2 w))  (v2 : Int) (v3 : Int) (z0 : Int) (z1 : Int) (z2 : Int) (z3 : Nat) (hz3 : shK z3 = 7) (w : aI) : EnG x0 x jvV 130 120 207 [(0, .ref a0), (2, .int (oI v2)), (3, .int (oI v3))] [.int (oI z0), .int (oI z1), .int (oI z2), .ref z3] (cm w) (f_L_ticks_b207 F a0  k58  v2 v3 z0 z1 z2 z3 w) := by
  unfold f_L_ticks_b207
  refine I_iadd (pc := 207) hx dL_ticks_207 ?_
  refine I_iast7 (pc := 208) hx hN hz3 dL_ticks_208 (fun w29 => ?_)
  refine E_aload_n (pc := 209) hx 0 dL_ticks_209 rfl rfl ?_
  refine E_getR (pc := 210) hx 5 fc10 h0 (hx.la hN h0 rfl) rfl ⟨rfl, rfl, rfl⟩ g550 dL_ticks_210 ?_
  refine E_iload_n (pc := 213) hx 1 dL_ticks_213 rfl rfl ?_
  refine E_dup2 (pc := 214) hx dL_ticks_214 rfl rfl ?_
  refine I_iald7 (pc := 215) hx hN (kt_10_5 h0) dL_ticks_215 ?_
  refine I_iconst (pc := 216) hx 1 dL_ticks_216 ?_
  refine I_iadd (pc := 217) hx dL_ticks_217 ?_
  refine I_iast7 (pc := 218) hx hN (kt_10_5 h0) dL_ticks_218 (fun w30 => ?_)
  refine E_aload_n (pc := 219) hx 0 dL_ticks_219 rfl rfl ?_
  refine E_iload_n (pc := 220) hx 1 dL_ticks_220 rfl rfl ?_
  refine E_aload_n (pc := 221) hx 0 dL_ticks_221 rfl rfl ?_
  refine E_getR (pc := 222) hx 9 fc10 h0 (hx.la hN h0 rfl) rfl ⟨rfl, rfl, rfl⟩ g554 dL_ticks_222 ?_
  refine E_iload_n (pc := 225) hx 2 dL_ticks_225 rfl rfl ?_
  refine I_iald7 (pc := 226) hx hN (kt_10_9 h0) dL_ticks_226 ?_
  refine I_cVI  (pc := 227) hx [.int (oI v2), .int (oI (w30 (shR a0 9) v3))] [] (ev_L_next F a0 h0 v2 (w30 (shR a0 9) v3) w30) vm_L_next fc10 h0 (hx.la hN h0 rfl) g905 dL_ticks_227 rfl rfl (Nat.le_of_ble_eq_true rfl) (Nat.le_of_ble_eq_true rfl) (by omega) (fun r31 => ?_)
  refine E_istore (pc := 230) hx dL_ticks_230 (Nat.le_of_ble_eq_true rfl) rfl ?_
  refine E_aload_n (pc := 232) hx 1 dL_ticks_232 rfl rfl ?_
  refine E_getR (pc := 233) hx 13 fc10 h0 (hx.la hN h0 rfl) rfl ⟨rfl, rfl, rfl⟩ g558 dL_ticks_233 ?_
  refine E_iload_n (pc := 236) hx 3 dL_ticks_236 rfl rfl ?_
  refine E_aload_n (pc := 237) hx 1 dL_ticks_237 rfl rfl ?_
  refine E_getR (pc := 238) hx 6 fc10 h0 (hx.la hN h0 rfl) rfl ⟨rfl, rfl, rfl⟩ g551 dL_ticks_238 ?_
  refine E_iload_n (pc := 241) hx 2 dL_ticks_241 rfl rfl ?_
  refine I_aald4 (pc := 242) hx hN (kt_10_6 h0) dL_ticks_242 (fun ht32 => ?_)
  refine E_iload (pc := 243) hx 0 dL_ticks_243 rfl ?_
  refine I_iald7 (pc := 245) hx hN ht32 dL_ticks_245 ?_
  refine I_iast7 (pc := 246) hx hN (kt_10_13 h0) dL_ticks_246 (fun w33 => ?_)
  refine E_aload_n (pc := 247) hx 1 dL_ticks_247 rfl rfl ?_
  refine E_getR (pc := 248) hx 12 fc10 h0 (hx.la hN h0 rfl) rfl ⟨rfl, rfl, rfl⟩ g557 dL_ticks_248 ?_
  refine E_iload_n (pc := 251) hx 3 dL_ticks_251 rfl rfl ?_
  refine E_aload_n (pc := 252) hx 1 dL_ticks_252 rfl rfl ?_
  refine E_getR (pc := 253) hx 4 fc10 h0 (hx.la hN h0 rfl) rfl ⟨rfl, rfl, rfl⟩ g549 dL_ticks_253 ?_
  refine E_iload_n (pc := 256) hx 2 dL_ticks_256 rfl rfl ?_
  refine I_iald7 (pc := 257) hx hN (kt_10_4 h0) dL_ticks_257 ?_
  refine E_aload_n (pc := 258) hx 1 dL_ticks_258 rfl rfl ?_
  refine E_getR (pc := 259) hx 13 fc10 h0 (hx.la hN h0 rfl) rfl ⟨rfl, rfl, rfl⟩ g558 dL_ticks_259 ?_
  refine E_iload_n (pc := 262) hx 3 dL_ticks_262 rfl rfl ?_
  refine I_iald7 (pc := 263) hx hN (kt_10_13 h0) dL_ticks_263 ?_
  refine I_iadd (pc := 264) hx dL_ticks_264 ?_
  refine I_iast7 (pc := 265) hx hN (kt_10_12 h0) dL_ticks_265 (fun w34 => ?_)
  refine E_aload_n (pc := 266) hx 1 dL_ticks_266 rfl rfl ?_
  refine E_getR (pc := 267) hx 11 fc10 h0 (hx.la hN h0 rfl) rfl ⟨rfl, rfl, rfl⟩ g556 dL_ticks_267 ?_
  refine E_iload_n (pc := 270) hx 3 dL_ticks_270 rfl rfl ?_
  refine E_iload (pc := 271) hx 0 dL_ticks_271 rfl ?_
  refine I_iast7 (pc := 273) hx hN (kt_10_11 h0) dL_ticks_273 (fun w35 => ?_)
  refine E_aload_n (pc := 274) hx 1 dL_ticks_274 rfl rfl ?_
  refine E_getR (pc := 275) hx 10 fc10 h0 (hx.la hN h0 rfl) rfl ⟨rfl, rfl, rfl⟩ g555 dL_ticks_275 ?_
  refine E_iload_n (pc := 278) hx 3 dL_ticks_278 rfl rfl ?_
  refine I_iconst (pc := 279) hx 1 dL_ticks_279 ?_
  refine I_iast7 (pc := 280) hx hN (kt_10_10 h0) dL_ticks_280 (fun w36 => ?_)
  refine E_aload_n (pc := 281) hx 1 dL_ticks_281 rfl rfl ?_
  refine E_getR (pc := 282) hx 15 fc10 h0 (hx.la hN h0 rfl) rfl ⟨rfl, rfl, rfl⟩ g560 dL_ticks_282 ?_
  refine E_iload_n (pc := 285) hx 3 dL_ticks_285 rfl rfl ?_
  refine E_dup2 (pc := 286) hx dL_ticks_286 rfl rfl ?_
  refine I_iald7 (pc := 287) hx hN (kt_10_15 h0) dL_ticks_287 ?_
  refine I_iconst (pc := 288) hx 1 dL_ticks_288 ?_
  refine I_iadd (pc := 289) hx dL_ticks_289 ?_
  refine I_iast7 (pc := 290) hx hN (kt_10_15 h0) dL_ticks_290 (fun w37 => ?_)
  refine E_aload_n (pc := 291) hx 1 dL_ticks_291 rfl rfl ?_
  refine E_dup (pc := 292) hx dL_ticks_292 rfl ?_
  refine I_getI (pc := 293) hx 33 33 rfl fc10 h0 (hx.la hN h0 rfl) rfl ⟨rfl, rfl, rfl⟩ g578 dL_ticks_293 ?_
  refine I_iconst (pc := 296) hx 1 dL_ticks_296 ?_
  refine I_iadd (pc := 297) hx dL_ticks_297 ?_
  refine I_put (pc := 298) hx 33 33 rfl .int tyL fc10 tyL_ok h0 (hx.la hN h0 rfl) rfl ⟨rfl, rfl, rfl, rfl, pfd_I⟩ rfl rfl g578 dL_ticks_298 (fun w38 => ?_)
  refine I_iinc (pc := 301) hx 1 2 dL_ticks_301 rfl (Nat.le_of_ble_eq_true rfl) rfl ?_
  refine E_goto (pc := 304) hx 58 dL_ticks_304 rfl ?_
  refine En.sub [2, 0] rfl ?_
  exact hk58 hx hN hG (v2 + 1) w38
set_option maxHeartbeats 4000000 in
set_option maxRecDepth 100000 in
theorem l_L_ticks_b102 {x0 x : Cx} (F : Nat) (a0 : Nat) (h0 : shK a0 = 10 + 10)  (hx : CxOK x RL cL_ticks 7 6 130 none) (hN : 241 ≤ xN x) (hG : Gr x0 x) (k58 : Int → aI → Option aI) (hk58 : ∀ {x : Cx} (hx : CxOK x RL cL_ticks 7 6 130 none) (hN : 241 ≤ xN x) (hG : Gr x0 x) (v2 : Int) (w : aI), EnG x0 x jvV 130 120 58 [(0, .ref a0), (2, .int (oI v2))] [] (cm w) (k58 v2 w))  (v2 : Int) (z0 : Int) (w : aI) : EnG x0 x jvV 130 120 102 [(0, .ref a0), (2, .int (oI v2))] [.int (oI z0)] (cm w) (f_L_ticks_b102 F a0  k58  v2 z0 w) := by
  unfold f_L_ticks_b102
  refine E_istore_n (pc := 102) hx dL_ticks_102 rfl (Nat.le_of_ble_eq_true rfl) rfl ?_
  refine E_iload_n (pc := 103) hx 0 dL_ticks_103 rfl rfl ?_
  refine E_gd (fun hr15 => ?_)
  refine I_if_ge (pc := 104) hx 110 dL_ticks_104 rfl hr15 ?_ ?_
  · refine E_aload_n (pc := 110) hx 1 dL_ticks_110 rfl rfl ?_
    refine E_getR (pc := 111) hx 2 fc10 h0 (hx.la hN h0 rfl) rfl ⟨rfl, rfl, rfl⟩ g547 dL_ticks_111 ?_
    refine E_iload_n (pc := 114) hx 2 dL_ticks_114 rfl rfl ?_
    refine I_iald7 (pc := 115) hx hN (kt_10_2 h0) dL_ticks_115 ?_
    refine E_aload_n (pc := 116) hx 1 dL_ticks_116 rfl rfl ?_
    refine E_iload_n (pc := 117) hx 0 dL_ticks_117 rfl rfl ?_
    refine I_cVI  (pc := 118) hx [.int (oI z0)] [.int (oI (w (shR a0 2) v2))] (ev_L_bars F a0 h0 z0 w) vm_L_bars fc10 h0 (hx.la hN h0 rfl) g909 dL_ticks_118 rfl rfl (Nat.le_of_ble_eq_true rfl) (Nat.le_of_ble_eq_true rfl) (by omega) (fun r16 => ?_)
    refine I_imul (pc := 121) hx dL_ticks_121 ?_
    refine I_ltv (fun v4_17 => ?_)
    refine E_istore (pc := 122) hx dL_ticks_122 (Nat.le_of_ble_eq_true rfl) rfl ?_
    refine E_aload_n (pc := 124) hx 2 dL_ticks_124 rfl rfl ?_
    refine E_getR (pc := 125) hx 3 fc10 h0 (hx.la hN h0 rfl) rfl ⟨rfl, rfl, rfl⟩ g548 dL_ticks_125 ?_
    refine E_aload_n (pc := 128) hx 2 dL_ticks_128 rfl rfl ?_
    refine E_getR (pc := 129) hx 8 fc10 h0 (hx.la hN h0 rfl) rfl ⟨rfl, rfl, rfl⟩ g553 dL_ticks_129 ?_
    refine E_iload_n (pc := 132) hx 1 dL_ticks_132 rfl rfl ?_
    refine I_iald7 (pc := 133) hx hN (kt_10_8 h0) dL_ticks_133 ?_
    refine I_ltv (fun u18 => ?_)
    refine E_dup2 (pc := 134) hx dL_ticks_134 rfl rfl ?_
    refine I_iald7 (pc := 135) hx hN (kt_10_3 h0) dL_ticks_135 ?_
    refine E_iload (pc := 136) hx 0 dL_ticks_136 rfl ?_
    refine I_isub (pc := 138) hx dL_ticks_138 ?_
    refine I_iast7 (pc := 139) hx hN (kt_10_3 h0) dL_ticks_139 (fun w19 => ?_)
    refine E_aload_n (pc := 140) hx 2 dL_ticks_140 rfl rfl ?_
    refine E_getR (pc := 141) hx 3 fc10 h0 (hx.la hN h0 rfl) rfl ⟨rfl, rfl, rfl⟩ g548 dL_ticks_141 ?_
    refine E_iload_n (pc := 144) hx 3 dL_ticks_144 rfl rfl ?_
    refine E_dup2 (pc := 145) hx dL_ticks_145 rfl rfl ?_
    refine I_iald7 (pc := 146) hx hN (kt_10_3 h0) dL_ticks_146 ?_
    refine E_iload (pc := 147) hx 0 dL_ticks_147 rfl ?_
    refine I_iadd (pc := 149) hx dL_ticks_149 ?_
    refine I_iast7 (pc := 150) hx hN (kt_10_3 h0) dL_ticks_150 (fun w20 => ?_)
    refine E_aload_n (pc := 151) hx 2 dL_ticks_151 rfl rfl ?_
    refine E_dup (pc := 152) hx dL_ticks_152 rfl ?_
    refine I_getI (pc := 153) hx 32 32 rfl fc10 h0 (hx.la hN h0 rfl) rfl ⟨rfl, rfl, rfl⟩ g577 dL_ticks_153 ?_
    refine E_iload (pc := 156) hx 0 dL_ticks_156 rfl ?_
    refine I_iadd (pc := 158) hx dL_ticks_158 ?_
    refine I_put (pc := 159) hx 32 32 rfl .int tyL fc10 tyL_ok h0 (hx.la hN h0 rfl) rfl ⟨rfl, rfl, rfl, rfl, pfd_I⟩ rfl rfl g577 dL_ticks_159 (fun w21 => ?_)
    refine E_aload_n (pc := 162) hx 2 dL_ticks_162 rfl rfl ?_
    refine E_getR (pc := 163) hx 18 fc10 h0 (hx.la hN h0 rfl) rfl ⟨rfl, rfl, rfl⟩ g563 dL_ticks_163 ?_
    refine E_iload_n (pc := 166) hx 1 dL_ticks_166 rfl rfl ?_
    refine I_aald5 (pc := 167) hx hN (kt_10_18 h0) dL_ticks_167 (fun hd22 => ?_)
    refine I_alen6 (pc := 168) hx hd22 dL_ticks_168 (fun hr23 => ?_)
    refine I_ltv (fun v5_24 => ?_)
    refine E_istore (pc := 169) hx dL_ticks_169 (Nat.le_of_ble_eq_true rfl) rfl ?_
    refine E_aload_n (pc := 171) hx 3 dL_ticks_171 rfl rfl ?_
    refine E_getR (pc := 172) hx 4 fc10 h0 (hx.la hN h0 rfl) rfl ⟨rfl, rfl, rfl⟩ g549 dL_ticks_172 ?_
    refine E_iload_n (pc := 175) hx 4 dL_ticks_175 rfl rfl ?_
    refine E_aload_n (pc := 176) hx 3 dL_ticks_176 rfl rfl ?_
    refine I_getI (pc := 177) hx 22 22 rfl fc10 h0 (hx.la hN h0 rfl) rfl ⟨rfl, rfl, rfl⟩ g567 dL_ticks_177 ?_
    refine E_iload (pc := 180) hx 0 dL_ticks_180 rfl ?_
    refine E_aload_n (pc := 182) hx 3 dL_ticks_182 rfl rfl ?_
    refine E_getR (pc := 183) hx 0 fc10 h0 (hx.la hN h0 rfl) rfl ⟨rfl, rfl, rfl⟩ g545 dL_ticks_183 ?_
    refine E_iload_n (pc := 186) hx 4 dL_ticks_186 rfl rfl ?_
    refine I_iald7 (pc := 187) hx hN (kt_10_0 h0) dL_ticks_187 ?_
    refine E_gd (fun hr25 => ?_)
    refine E_gd (fun hd26 => ?_)
    refine I_idiv (pc := 188) hx dL_ticks_188 ⟨hr25.1, hr25.2, hd26⟩ ?_
    refine I_iadd (pc := 189) hx dL_ticks_189 ?_
    refine E_iload (pc := 190) hx 0 dL_ticks_190 rfl ?_
    refine E_aload_n (pc := 192) hx 3 dL_ticks_192 rfl rfl ?_
    refine E_getR (pc := 193) hx 0 fc10 h0 (hx.la hN h0 rfl) rfl ⟨rfl, rfl, rfl⟩ g545 dL_ticks_193 ?_
    refine E_iload_n (pc := 196) hx 4 dL_ticks_196 rfl rfl ?_
    refine I_iald7 (pc := 197) hx hN (kt_10_0 h0) dL_ticks_197 ?_
    refine E_gd (fun hd27 => ?_)
    refine I_irem (pc := 198) hx dL_ticks_198 ⟨hr25.1, hr25.2, hd27⟩ ?_
    refine E_gd (fun hr28 => ?_)
    refine I_if_le (pc := 199) hx 206 dL_ticks_199 rfl hr28 ?_ ?_
    · refine I_iconst (pc := 206) hx 0 dL_ticks_206 ?_
      refine En.sub [3, 4, 2] rfl ?_
      exact l_L_ticks_b207 F a0 h0 hx hN hG k58 hk58 v2 z0 0 ((w21 a0 22) + (Int.tdiv v5_24 (w21 (shR a0 0) v2))) v2 (shR a0 4) (kt_10_4 h0) w21
    refine I_iconst (pc := 202) hx 1 dL_ticks_202 ?_
    refine E_goto (pc := 203) hx 207 dL_ticks_203 rfl ?_
    refine En.sub [3, 4, 2] rfl ?_
    exact l_L_ticks_b207 F a0 h0 hx hN hG k58 hk58 v2 z0 1 ((w21 a0 22) + (Int.tdiv v5_24 (w21 (shR a0 0) v2))) v2 (shR a0 4) (kt_10_4 h0) w21
  refine E_goto (pc := 107) hx 301 dL_ticks_107 rfl ?_
  refine I_iinc (pc := 301) hx 1 2 dL_ticks_301 rfl (Nat.le_of_ble_eq_true rfl) rfl ?_
  refine E_goto (pc := 304) hx 58 dL_ticks_304 rfl ?_
  refine En.sub [2, 0] rfl ?_
  exact hk58 hx hN hG (v2 + 1) w
set_option maxHeartbeats 4000000 in
set_option maxRecDepth 100000 in
theorem l_L_ticks_b58_b {x0 x : Cx} (F : Nat) (a0 : Nat) (h0 : shK a0 = 10 + 10)  (hx : CxOK x RL cL_ticks 7 6 130 none) (hN : 241 ≤ xN x) (hG : Gr x0 x)  (k58 : Int → aI → Option aI) (hk58 : ∀ {x : Cx} (hx : CxOK x RL cL_ticks 7 6 130 none) (hN : 241 ≤ xN x) (hG : Gr x0 x) (v2 : Int) (w : aI), EnG x0 x jvV 130 120 58 [(0, .ref a0), (2, .int (oI v2))] [] (cm w) (k58 v2 w)) (v2 : Int) (w : aI) : EnG x0 x jvV 130 120 58 [(0, .ref a0), (2, .int (oI v2))] [] (cm w) (f_L_ticks_b58_b F a0   k58 v2 w) := by
  unfold f_L_ticks_b58_b
  refine E_iload_n (pc := 58) hx 1 dL_ticks_58 rfl rfl ?_
  refine E_aload_n (pc := 59) hx 0 dL_ticks_59 rfl rfl ?_
  refine I_getI (pc := 60) hx 20 20 rfl fc10 h0 (hx.la hN h0 rfl) rfl ⟨rfl, rfl, rfl⟩ g565 dL_ticks_60 ?_
  refine E_gd (fun hr4 => ?_)
  refine I_icmp_ge (pc := 63) hx 307 dL_ticks_63 rfl ⟨hr4.1, hr4.2⟩ ?_ ?_
  · refine I_iconst (pc := 307) hx 0 dL_ticks_307 ?_
    refine E_istore_n (pc := 308) hx dL_ticks_308 rfl (Nat.le_of_ble_eq_true rfl) rfl ?_
    refine En.sub [1, 0] rfl ?_
    exact l_L_ticks_b309 F a0 h0 hx hN hG F 0 w
  refine E_aload_n (pc := 66) hx 0 dL_ticks_66 rfl rfl ?_
  refine I_getI (pc := 67) hx 22 22 rfl fc10 h0 (hx.la hN h0 rfl) rfl ⟨rfl, rfl, rfl⟩ g567 dL_ticks_67 ?_
  refine I_bipush (pc := 70) hx 60 dL_ticks_70 rfl ?_
  refine E_gd (fun hr11 => ?_)
  refine I_irem (pc := 72) hx dL_ticks_72 ⟨hr11, (by decide), (by decide)⟩ ?_
  refine E_aload_n (pc := 73) hx 0 dL_ticks_73 rfl rfl ?_
  refine I_getI (pc := 74) hx 24 24 rfl fc10 h0 (hx.la hN h0 rfl) rfl ⟨rfl, rfl, rfl⟩ g569 dL_ticks_74 ?_
  refine E_gd (fun hr12 => ?_)
  refine I_icmp_ge (pc := 77) hx 307 dL_ticks_77 rfl ⟨hr12.1, hr12.2⟩ ?_ ?_
  · refine I_iconst (pc := 307) hx 0 dL_ticks_307 ?_
    refine E_istore_n (pc := 308) hx dL_ticks_308 rfl (Nat.le_of_ble_eq_true rfl) rfl ?_
    refine En.sub [1, 0] rfl ?_
    exact l_L_ticks_b309 F a0 h0 hx hN hG F 0 w
  refine E_aload_n (pc := 80) hx 0 dL_ticks_80 rfl rfl ?_
  refine E_getR (pc := 81) hx 4 fc10 h0 (hx.la hN h0 rfl) rfl ⟨rfl, rfl, rfl⟩ g549 dL_ticks_81 ?_
  refine E_iload_n (pc := 84) hx 1 dL_ticks_84 rfl rfl ?_
  refine I_iald7 (pc := 85) hx hN (kt_10_4 h0) dL_ticks_85 ?_
  refine E_aload_n (pc := 86) hx 0 dL_ticks_86 rfl rfl ?_
  refine I_getI (pc := 87) hx 22 22 rfl fc10 h0 (hx.la hN h0 rfl) rfl ⟨rfl, rfl, rfl⟩ g567 dL_ticks_87 ?_
  refine E_gd (fun hr13 => ?_)
  refine I_icmp_le (pc := 90) hx 97 dL_ticks_90 rfl ⟨hr13, hr11⟩ ?_ ?_
  · refine E_aload_n (pc := 97) hx 0 dL_ticks_97 rfl rfl ?_
    refine E_iload_n (pc := 98) hx 1 dL_ticks_98 rfl rfl ?_
    refine I_cVI  (pc := 99) hx [.int (oI v2)] [] (ev_L_first F a0 h0 v2 w) vm_L_first fc10 h0 (hx.la hN h0 rfl) g901 dL_ticks_99 rfl rfl (Nat.le_of_ble_eq_true rfl) (Nat.le_of_ble_eq_true rfl) (by omega) (fun r14 => ?_)
    exact l_L_ticks_b102 F a0 h0 hx hN hG k58 hk58 v2 r14 w
  refine I_iconst (pc := 93) hx (-1) dL_ticks_93 ?_
  refine E_goto (pc := 94) hx 102 dL_ticks_94 rfl ?_
  exact l_L_ticks_b102 F a0 h0 hx hN hG k58 hk58 v2 (-1) w
theorem l_L_ticks_b58 {x0 x : Cx} (F : Nat) (a0 : Nat) (h0 : shK a0 = 10 + 10)  (hx : CxOK x RL cL_ticks 7 6 130 none) (hN : 241 ≤ xN x) (hG : Gr x0 x)  : ∀ (n : Nat) (v2 : Int) (w : aI), EnG x0 x jvV 130 120 58 [(0, .ref a0), (2, .int (oI v2))] [] (cm w) (f_L_ticks_b58 F a0   n v2 w) := by
  intro n
  induction n generalizing x with
  | zero => intro v2 w; exact E_none
  | succ n ih => intro v2 w; exact l_L_ticks_b58_b F a0 h0  hx hN hG  _ (fun {x} hx hN hG => ih hx hN hG) v2 w
set_option maxHeartbeats 4000000 in
set_option maxRecDepth 100000 in
theorem l_L_ticks_b17_b {x0 x : Cx} (F : Nat) (a0 : Nat) (h0 : shK a0 = 10 + 10)  (hx : CxOK x RL cL_ticks 7 6 130 none) (hN : 241 ≤ xN x) (hG : Gr x0 x)  (k17 : Int → Int → aI → Option aI) (hk17 : ∀ {x : Cx} (hx : CxOK x RL cL_ticks 7 6 130 none) (hN : 241 ≤ xN x) (hG : Gr x0 x) (v1 : Int) (v2 : Int) (w : aI), EnG x0 x jvV 130 (4 * v2.toNat) 17 [(0, .ref a0), (1, .int (oI v1)), (2, .int (oI v2))] [] (cm w) (k17 v1 v2 w)) (v1 : Int) (v2 : Int) (w : aI) : EnG x0 x jvV 130 (4 * v2.toNat) 17 [(0, .ref a0), (1, .int (oI v1)), (2, .int (oI v2))] [] (cm w) (f_L_ticks_b17_b F a0   k17 v1 v2 w) := by
  unfold f_L_ticks_b17_b
  refine E_gd (fun hj => ?_)
  refine E_iload_n (pc := 17) hx 2 dL_ticks_17 rfl rfl ?_
  refine E_iload_n (pc := 18) hx 1 dL_ticks_18 rfl rfl ?_
  refine E_gd (fun hr3 => ?_)
  refine I_icmp_ge (pc := 19) hx 56 dL_ticks_19 rfl ⟨hr3.1, hr3.2⟩ ?_ ?_
  · refine I_iconst (pc := 56) hx 0 dL_ticks_56 ?_
    refine E_istore_n (pc := 57) hx dL_ticks_57 rfl (Nat.le_of_ble_eq_true rfl) rfl ?_
    refine E_wid (j2 := 120) (by omega) ?_
    refine En.sub [1, 0] rfl ?_
    exact l_L_ticks_b58 F a0 h0 hx hN hG F 0 w
  refine E_aload_n (pc := 22) hx 0 dL_ticks_22 rfl rfl ?_
  refine E_getR (pc := 23) hx 10 fc10 h0 (hx.la hN h0 rfl) rfl ⟨rfl, rfl, rfl⟩ g555 dL_ticks_23 ?_
  refine E_iload_n (pc := 26) hx 2 dL_ticks_26 rfl rfl ?_
  refine I_iald7 (pc := 27) hx hN (kt_10_10 h0) dL_ticks_27 ?_
  refine I_iconst (pc := 28) hx 1 dL_ticks_28 ?_
  refine E_gd (fun hr39 => ?_)
  refine I_icmp_ne (pc := 29) hx 50 dL_ticks_29 rfl ⟨hr39, (by decide)⟩ ?_ ?_
  · refine I_iinc (pc := 50) hx 1 2 dL_ticks_50 rfl (Nat.le_of_ble_eq_true rfl) rfl ?_
    refine E_goto (pc := 53) hx 17 dL_ticks_53 rfl ?_
    refine E_wid (j2 := 4 * ((v2 + 1) : Int).toNat) (by omega) ?_
    refine En.sub [1, 2, 0] rfl ?_
    exact hk17 hx hN hG v1 (v2 + 1) w
  refine E_aload_n (pc := 32) hx 0 dL_ticks_32 rfl rfl ?_
  refine E_getR (pc := 33) hx 12 fc10 h0 (hx.la hN h0 rfl) rfl ⟨rfl, rfl, rfl⟩ g557 dL_ticks_33 ?_
  refine E_iload_n (pc := 36) hx 2 dL_ticks_36 rfl rfl ?_
  refine I_iald7 (pc := 37) hx hN (kt_10_12 h0) dL_ticks_37 ?_
  refine E_aload_n (pc := 38) hx 0 dL_ticks_38 rfl rfl ?_
  refine I_getI (pc := 39) hx 22 22 rfl fc10 h0 (hx.la hN h0 rfl) rfl ⟨rfl, rfl, rfl⟩ g567 dL_ticks_39 ?_
  refine E_gd (fun hr40 => ?_)
  refine I_icmp_ne (pc := 42) hx 50 dL_ticks_42 rfl ⟨hr40.1, hr40.2⟩ ?_ ?_
  · refine I_iinc (pc := 50) hx 1 2 dL_ticks_50 rfl (Nat.le_of_ble_eq_true rfl) rfl ?_
    refine E_goto (pc := 53) hx 17 dL_ticks_53 rfl ?_
    refine E_wid (j2 := 4 * ((v2 + 1) : Int).toNat) (by omega) ?_
    refine En.sub [1, 2, 0] rfl ?_
    exact hk17 hx hN hG v1 (v2 + 1) w
  refine E_aload_n (pc := 45) hx 0 dL_ticks_45 rfl rfl ?_
  refine E_iload_n (pc := 46) hx 2 dL_ticks_46 rfl rfl ?_
  refine G_cVV (pc := 47) hx [.int (oI v2)] [] (ev_L_lands F a0 h0 v2 w) vm_L_lands fc10 h0 (hx.la hN h0 rfl) g890 dL_ticks_47 rfl rfl (Nat.le_of_ble_eq_true rfl) (Nat.le_of_ble_eq_true rfl) (by omega) ⟨Or.inl (hx.la hN h0 rfl), True.intro, True.intro, True.intro⟩ True.intro (fun ad42 N43 hA44 hx45 w41 => ?_)
  have hN := Nat.le_trans hN hA44.1.1
  have hG := hG.step hA44
  have hx := hx45
  refine I_iinc (pc := 50) hx 1 2 dL_ticks_50 rfl (Nat.le_of_ble_eq_true rfl) rfl ?_
  refine E_goto (pc := 53) hx 17 dL_ticks_53 rfl ?_
  refine E_wid (j2 := 4 * ((v2 + 1) : Int).toNat) (by omega) ?_
  refine En.sub [1, 2, 0] rfl ?_
  exact hk17 hx hN hG v1 (v2 + 1) w41
theorem l_L_ticks_b17 {x0 x : Cx} (F : Nat) (a0 : Nat) (h0 : shK a0 = 10 + 10)  (hx : CxOK x RL cL_ticks 7 6 130 none) (hN : 241 ≤ xN x) (hG : Gr x0 x)  : ∀ (n : Nat) (v1 : Int) (v2 : Int) (w : aI), EnG x0 x jvV 130 (4 * v2.toNat) 17 [(0, .ref a0), (1, .int (oI v1)), (2, .int (oI v2))] [] (cm w) (f_L_ticks_b17 F a0   n v1 v2 w) := by
  intro n
  induction n generalizing x with
  | zero => intro v1 v2 w; exact E_none
  | succ n ih => intro v1 v2 w; exact l_L_ticks_b17_b F a0 h0  hx hN hG  _ (fun {x} hx hN hG => ih hx hN hG) v1 v2 w
set_option maxHeartbeats 4000000 in
set_option maxRecDepth 100000 in
theorem ev_L_ticks (F : Nat) (a0 : Nat) (h0 : shK a0 = 10 + 10) (w : aI) : EvG yL_ticks cL_ticks 7 none 6 130 jvV [.ref a0] (cm w) (f_L_ticks F a0 w) := by
  refine EvG.of (own := RL) (by decide +kernel) rfl (Nat.le_of_ble_eq_true rfl) (fun x hx hG => ?_)
  show EnG x x jvV 130 0 0 [(0, .ref a0)] [] (cm w) _
  unfold f_L_ticks
  refine E_gN (fun hN => ?_)
  refine E_aload_n (pc := 0) hx 0 dL_ticks_0 rfl rfl ?_
  refine E_dup (pc := 1) hx dL_ticks_1 rfl ?_
  refine I_getI (pc := 2) hx 22 22 rfl fc10 h0 (hx.la hN h0 rfl) rfl ⟨rfl, rfl, rfl⟩ g567 dL_ticks_2 ?_
  refine I_iconst (pc := 5) hx 1 dL_ticks_5 ?_
  refine I_iadd (pc := 6) hx dL_ticks_6 ?_
  refine I_put (pc := 7) hx 22 22 rfl .int tyL fc10 tyL_ok h0 (hx.la hN h0 rfl) rfl ⟨rfl, rfl, rfl, rfl, pfd_I⟩ rfl rfl g567 dL_ticks_7 (fun w1 => ?_)
  refine E_aload_n (pc := 10) hx 0 dL_ticks_10 rfl rfl ?_
  refine I_getI (pc := 11) hx 21 21 rfl fc10 h0 (hx.la hN h0 rfl) rfl ⟨rfl, rfl, rfl⟩ g566 dL_ticks_11 ?_
  refine I_ltv (fun v1_2 => ?_)
  refine E_istore_n (pc := 14) hx dL_ticks_14 rfl (Nat.le_of_ble_eq_true rfl) rfl ?_
  refine I_iconst (pc := 15) hx 0 dL_ticks_15 ?_
  refine E_istore_n (pc := 16) hx dL_ticks_16 rfl (Nat.le_of_ble_eq_true rfl) rfl ?_
  refine E_wid (j2 := 4 * (0 : Int).toNat) (by omega) ?_
  refine En.sub [2, 1, 0] rfl ?_
  exact l_L_ticks_b17 F a0 h0 hx hN hG F v1_2 0 w1
