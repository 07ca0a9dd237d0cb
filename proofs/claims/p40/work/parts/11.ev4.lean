set_option maxHeartbeats 4000000 in
set_option maxRecDepth 100000 in
theorem l_X10_notesOfDigits_b4_b {x : Cx} (F : Nat) (p0 : Int) (w : aI) (hx : CxOK x RX10 cX10_notesOfDigits 3 0 0 (some .int))  (k4 : Int → Int → Option Int) (hk4 : ∀ (v1 : Int) (v2 : Int), En x (jvI w) 0 0 4 [(1, .int (oI v1)), (2, .int (oI v2))] [] (cm w) (k4 v1 v2)) (v1 : Int) (v2 : Int)  : En x (jvI w) 0 0 4 [(1, .int (oI v1)), (2, .int (oI v2))] [] (cm w) (f_X10_notesOfDigits_b4_b F p0 w  k4 v1 v2) := by
  unfold f_X10_notesOfDigits_b4_b
  refine E_iload_n (pc := 4) hx 1 dX10_notesOfDigits_4 rfl rfl ?_
  refine E_gd (fun hr1 => ?_)
  refine I_if_le (pc := 5) hx 25 dX10_notesOfDigits_5 rfl hr1 ?_ ?_
  · refine E_iload_n (pc := 25) hx 0 dX10_notesOfDigits_25 rfl rfl ?_
    exact E_iret (pc := 26) hx dX10_notesOfDigits_26 rfl rfl (Nat.le_of_ble_eq_true rfl)
  refine E_iload_n (pc := 8) hx 0 dX10_notesOfDigits_8 rfl rfl ?_
  refine I_iconst (pc := 9) hx 3 dX10_notesOfDigits_9 ?_
  refine I_ishl (pc := 10) hx dX10_notesOfDigits_10 (by decide) ?_
  refine E_iload_n (pc := 11) hx 1 dX10_notesOfDigits_11 rfl rfl ?_
  refine I_bipush (pc := 12) hx 10 dX10_notesOfDigits_12 rfl ?_
  refine I_irem (pc := 14) hx dX10_notesOfDigits_14 ⟨hr1, (by decide), (by decide)⟩ ?_
  refine I_ior (pc := 15) hx dX10_notesOfDigits_15 ?_
  refine I_ltv (fun v1_2 => ?_)
  refine E_istore_n (pc := 16) hx dX10_notesOfDigits_16 rfl (Nat.le_of_ble_eq_true rfl) rfl ?_
  refine E_iload_n (pc := 17) hx 1 dX10_notesOfDigits_17 rfl rfl ?_
  refine I_bipush (pc := 18) hx 10 dX10_notesOfDigits_18 rfl ?_
  refine I_idiv (pc := 20) hx dX10_notesOfDigits_20 ⟨hr1, (by decide), (by decide)⟩ ?_
  refine I_ltv (fun v2_3 => ?_)
  refine E_istore_n (pc := 21) hx dX10_notesOfDigits_21 rfl (Nat.le_of_ble_eq_true rfl) rfl ?_
  refine E_goto (pc := 22) hx 4 dX10_notesOfDigits_22 rfl ?_
  refine En.sub [1, 0] rfl ?_
  exact hk4 v1_2 v2_3
theorem l_X10_notesOfDigits_b4 {x : Cx} (F : Nat) (p0 : Int) (w : aI) (hx : CxOK x RX10 cX10_notesOfDigits 3 0 0 (some .int))  : ∀ (n : Nat) (v1 : Int) (v2 : Int), En x (jvI w) 0 0 4 [(1, .int (oI v1)), (2, .int (oI v2))] [] (cm w) (f_X10_notesOfDigits_b4 F p0 w  n v1 v2) := by
  intro n
  induction n with
  | zero => intro v1 v2; exact E_none
  | succ n ih => intro v1 v2; exact l_X10_notesOfDigits_b4_b F p0 w hx  _ ih v1 v2
set_option maxHeartbeats 4000000 in
set_option maxRecDepth 100000 in
theorem ev_X10_notesOfDigits (F : Nat) (p0 : Int) (w : aI) : Ev yX10_notesOfDigits cX10_notesOfDigits 3 (some .int) 0 0 (jvI w) [.int (oI p0)] (cm w) (f_X10_notesOfDigits F p0 w) := by
  refine Ev.of (own := RX10) (by decide +kernel) rfl (Nat.le_of_ble_eq_true rfl) (fun x hx => ?_)
  show En x (jvI w) 0 0 0 [(0, .int (oI p0))] [] (cm w) _
  unfold f_X10_notesOfDigits
  refine I_iconst (pc := 0) hx 0 dX10_notesOfDigits_0 ?_
  refine E_istore_n (pc := 1) hx dX10_notesOfDigits_1 rfl (Nat.le_of_ble_eq_true rfl) rfl ?_
  refine E_iload_n (pc := 2) hx 1 dX10_notesOfDigits_2 rfl rfl ?_
  refine E_istore_n (pc := 3) hx dX10_notesOfDigits_3 rfl (Nat.le_of_ble_eq_true rfl) rfl ?_
  refine En.sub [1, 0] rfl ?_
  exact l_X10_notesOfDigits_b4 F p0 w hx F 0 p0
set_option maxHeartbeats 4000000 in
set_option maxRecDepth 100000 in
theorem ev_X10_send (F : Nat) (a0 : Nat) (h0 : shK a0 = 10 + 8) (p1 : Int) (p2 : Int) (p3 : Int) (p4 : Int) (w : aI) : Ev yX10_send cX10_send 5 (some .int) 7 4 jvT [.ref a0, .int (oI p1), .int (oI p2), .int (oI p3), .int (oI p4)] (cm w) (f_X10_send F a0 p1 p2 p3 p4 w) := by
  refine Ev.of (own := RX10) (by decide +kernel) rfl (Nat.le_of_ble_eq_true rfl) (fun x hx => ?_)
  show En x jvT 4 0 0 [(0, .ref a0), (1, .int (oI p1)), (2, .int (oI p2)), (3, .int (oI p3)), (4, .int (oI p4))] [] (cm w) _
  unfold f_X10_send
  refine E_aload_n (pc := 0) hx 0 dX10_send_0 rfl rfl ?_
  refine E_iload_n (pc := 1) hx 1 dX10_send_1 rfl rfl ?_
  refine I_cVN (hcv := rfl) (pc := 2) hx [.int (oI p1)] [] (ev_X10_needRoof F a0 h0 p1 w) vm_X10_needRoof fc8 h0 (hx.ci h0 (Nat.le_of_ble_eq_true rfl)) g694 dX10_send_2 rfl rfl (Nat.le_of_ble_eq_true rfl) (Nat.le_of_ble_eq_true rfl) (Nat.le_of_ble_eq_true rfl) ?_
  refine E_aload_n (pc := 5) hx 0 dX10_send_5 rfl rfl ?_
  refine E_iload_n (pc := 6) hx 2 dX10_send_6 rfl rfl ?_
  refine I_cVN (hcv := rfl) (pc := 7) hx [.int (oI p2)] [] (ev_X10_needRoof F a0 h0 p2 w) vm_X10_needRoof fc8 h0 (hx.ci h0 (Nat.le_of_ble_eq_true rfl)) g694 dX10_send_7 rfl rfl (Nat.le_of_ble_eq_true rfl) (Nat.le_of_ble_eq_true rfl) (Nat.le_of_ble_eq_true rfl) ?_
  refine E_iload_n (pc := 10) hx 1 dX10_send_10 rfl rfl ?_
  refine E_iload_n (pc := 11) hx 2 dX10_send_11 rfl rfl ?_
  refine E_gd (fun hr1 => ?_)
  refine I_icmp_ne (pc := 12) hx 26 dX10_send_12 rfl ⟨hr1.1, hr1.2⟩ ?_ ?_
  · refine E_aload_n (pc := 26) hx 0 dX10_send_26 rfl rfl ?_
    refine E_iload_n (pc := 27) hx 3 dX10_send_27 rfl rfl ?_
    refine I_iconst (pc := 28) hx 0 dX10_send_28 ?_
    refine I_ldcw (pc := 29) hx 77777777 g823 rfl dX10_send_29 ?_
    refine I_cVN (hcv := rfl) (pc := 32) hx [.int (oI p3), .int (oI 0), .int (oI 77777777)] [] (ev_X10_needNumber F a0 h0 p3 0 77777777 w) vm_X10_needNumber fc8 h0 (hx.ci h0 (Nat.le_of_ble_eq_true rfl)) g824 dX10_send_32 rfl rfl (Nat.le_of_ble_eq_true rfl) (Nat.le_of_ble_eq_true rfl) (Nat.le_of_ble_eq_true rfl) ?_
    refine E_iload_n (pc := 35) hx 3 dX10_send_35 rfl rfl ?_
    refine I_cSB  (pc := 36) hx [.int (oI p3)] [] (ev_X10_areDigitsNotes F p3 w) sm_X10_areDigitsNotes g829 dX10_send_36 rfl rfl (Nat.le_of_ble_eq_true rfl) (Nat.le_of_ble_eq_true rfl) (Nat.le_of_ble_eq_true rfl) (fun r2 => ?_)
    refine I_ifB_ne (pc := 39) hx 53 dX10_send_39 rfl ?_ ?_
    · refine E_aload_n (pc := 53) hx 0 dX10_send_53 rfl rfl ?_
      refine E_getR (pc := 54) hx 5 fc8 h0 (hx.ci h0 (Nat.le_of_ble_eq_true rfl)) rfl ⟨rfl, rfl, rfl⟩ g501 dX10_send_54 ?_
      refine I_getI (pc := 57) hx 3 3 rfl fc2 (kt_8_5 h0) (hx.ci (kt_8_5 h0) (Nat.le_of_ble_eq_true rfl)) rfl ⟨rfl, rfl, rfl⟩ g137 dX10_send_57 ?_
      refine I_bipush (pc := 60) hx 30 dX10_send_60 rfl ?_
      refine E_gd (fun hr3 => ?_)
      refine I_icmp_lt (pc := 62) hx 76 dX10_send_62 rfl ⟨hr3, (by decide)⟩ ?_ ?_
      · refine E_aload_n (pc := 76) hx 0 dX10_send_76 rfl rfl ?_
        refine E_getR (pc := 77) hx 8 fc8 h0 (hx.ci h0 (Nat.le_of_ble_eq_true rfl)) rfl ⟨rfl, rfl, rfl⟩ g504 dX10_send_77 ?_
        refine E_aload_n (pc := 80) hx 0 dX10_send_80 rfl rfl ?_
        refine E_getR (pc := 81) hx 5 fc8 h0 (hx.ci h0 (Nat.le_of_ble_eq_true rfl)) rfl ⟨rfl, rfl, rfl⟩ g501 dX10_send_81 ?_
        refine I_cVV  (pc := 84) hx [.ref (shR a0 5)] [] (ev_X1_keep F (shR a0 8) (kt_8_8 h0) (shR a0 5) (kt_8_5 h0) w) vm_X1_keep fc1 (kt_8_8 h0) (hx.ci (kt_8_8 h0) (Nat.le_of_ble_eq_true rfl)) g782 dX10_send_84 rfl rfl (Nat.le_of_ble_eq_true rfl) (Nat.le_of_ble_eq_true rfl) (Nat.le_of_ble_eq_true rfl) (fun w4 => ?_)
        refine E_aload_n (pc := 87) hx 0 dX10_send_87 rfl rfl ?_
        refine E_getR (pc := 88) hx 5 fc8 h0 (hx.ci h0 (Nat.le_of_ble_eq_true rfl)) rfl ⟨rfl, rfl, rfl⟩ g501 dX10_send_88 ?_
        refine E_iload_n (pc := 91) hx 1 dX10_send_91 rfl rfl ?_
        refine E_iload_n (pc := 92) hx 2 dX10_send_92 rfl rfl ?_
        refine E_iload_n (pc := 93) hx 3 dX10_send_93 rfl rfl ?_
        refine I_cSI  (pc := 94) hx [.int (oI p3)] [.int (oI p2), .int (oI p1), .ref (shR a0 5)] (ev_X10_digitsOf F p3 w4) sm_X10_digitsOf g834 dX10_send_94 rfl rfl (Nat.le_of_ble_eq_true rfl) (Nat.le_of_ble_eq_true rfl) (Nat.le_of_ble_eq_true rfl) (fun r5 => ?_)
        refine E_iload_n (pc := 97) hx 3 dX10_send_97 rfl rfl ?_
        refine I_cSI  (pc := 98) hx [.int (oI p3)] [.int (oI r5), .int (oI p2), .int (oI p1), .ref (shR a0 5)] (ev_X10_notesOfDigits F p3 w4) sm_X10_notesOfDigits g837 dX10_send_98 rfl rfl (Nat.le_of_ble_eq_true rfl) (Nat.le_of_ble_eq_true rfl) (Nat.le_of_ble_eq_true rfl) (fun r6 => ?_)
        refine I_iconst (pc := 101) hx 0 dX10_send_101 ?_
        refine E_iload (pc := 102) hx 4 dX10_send_102 rfl ?_
        refine I_cVIW  (pc := 104) hx [.int (oI p1), .int (oI p2), .int (oI r5), .int (oI r6), .int (oI 0), .int (oI p4)] [] (ev_X2_addTune F (shR a0 5) (kt_8_5 h0) p1 p2 r5 r6 0 p4 w4) vm_X2_addTune fc2 (kt_8_5 h0) (hx.ci (kt_8_5 h0) (Nat.le_of_ble_eq_true rfl)) g840 dX10_send_104 rfl rfl (Nat.le_of_ble_eq_true rfl) (Nat.le_of_ble_eq_true rfl) (Nat.le_of_ble_eq_true rfl) (fun r7 w8 => ?_)
        exact E_iret (pc := 107) hx dX10_send_107 rfl rfl (Nat.le_of_ble_eq_true rfl)
      exact E_thrw (pc := 65) hx (i := 3) (text := xTx.getD 3 "") xtS (by decide +kernel) dX10_send_65 dX10_send_68 dX10_send_69 dX10_send_72 dX10_send_75 (Nat.le_of_ble_eq_true rfl) (Nat.le_of_ble_eq_true rfl) (Nat.le_of_ble_eq_true rfl) rfl
    exact E_thrw (pc := 42) hx (i := 2) (text := xTx.getD 2 "") xtA (by decide +kernel) dX10_send_42 dX10_send_45 dX10_send_46 dX10_send_49 dX10_send_52 (Nat.le_of_ble_eq_true rfl) (Nat.le_of_ble_eq_true rfl) (Nat.le_of_ble_eq_true rfl) rfl
  exact E_thrw (pc := 15) hx (i := 1) (text := xTx.getD 1 "") xtA (by decide +kernel) dX10_send_15 dX10_send_18 dX10_send_19 dX10_send_22 dX10_send_25 (Nat.le_of_ble_eq_true rfl) (Nat.le_of_ble_eq_true rfl) (Nat.le_of_ble_eq_true rfl) rfl
set_option maxHeartbeats 4000000 in
set_option maxRecDepth 100000 in
theorem ev_X10_tick (F : Nat) (a0 : Nat) (h0 : shK a0 = 10 + 8) (p1 : Int) (w : aI) : Ev yX10_tick cX10_tick 3 (some .int) 7 2 jvT [.ref a0, .int (oI p1)] (cm w) (f_X10_tick F a0 p1 w) := by
  refine Ev.of (own := RX10) (by decide +kernel) rfl (Nat.le_of_ble_eq_true rfl) (fun x hx => ?_)
  show En x jvT 2 0 0 [(0, .ref a0), (1, .int (oI p1))] [] (cm w) _
  unfold f_X10_tick
  refine E_aload_n (pc := 0) hx 0 dX10_tick_0 rfl rfl ?_
  refine E_iload_n (pc := 1) hx 1 dX10_tick_1 rfl rfl ?_
  refine I_iconst (pc := 2) hx 1 dX10_tick_2 ?_
  refine I_sipush (pc := 3) hx 200 dX10_tick_3 rfl ?_
  refine I_cVN (hcv := rfl) (pc := 6) hx [.int (oI p1), .int (oI 1), .int (oI 200)] [] (ev_X10_needNumber F a0 h0 p1 1 200 w) vm_X10_needNumber fc8 h0 (hx.ci h0 (Nat.le_of_ble_eq_true rfl)) g824 dX10_tick_6 rfl rfl (Nat.le_of_ble_eq_true rfl) (Nat.le_of_ble_eq_true rfl) (Nat.le_of_ble_eq_true rfl) ?_
  refine E_aload_n (pc := 9) hx 0 dX10_tick_9 rfl rfl ?_
  refine E_getR (pc := 10) hx 5 fc8 h0 (hx.ci h0 (Nat.le_of_ble_eq_true rfl)) rfl ⟨rfl, rfl, rfl⟩ g501 dX10_tick_10 ?_
  refine E_iload_n (pc := 13) hx 1 dX10_tick_13 rfl rfl ?_
  refine I_cVB  (pc := 14) hx [.int (oI p1)] [] (ev_X2_hasTimeFor F (shR a0 5) (kt_8_5 h0) p1 w) vm_X2_hasTimeFor fc2 (kt_8_5 h0) (hx.ci (kt_8_5 h0) (Nat.le_of_ble_eq_true rfl)) g917 dX10_tick_14 rfl rfl (Nat.le_of_ble_eq_true rfl) (Nat.le_of_ble_eq_true rfl) (Nat.le_of_ble_eq_true rfl) (fun r1 => ?_)
  refine I_ifB_ne (pc := 17) hx 31 dX10_tick_17 rfl ?_ ?_
  · refine E_aload_n (pc := 31) hx 0 dX10_tick_31 rfl rfl ?_
    refine E_getR (pc := 32) hx 8 fc8 h0 (hx.ci h0 (Nat.le_of_ble_eq_true rfl)) rfl ⟨rfl, rfl, rfl⟩ g504 dX10_tick_32 ?_
    refine E_aload_n (pc := 35) hx 0 dX10_tick_35 rfl rfl ?_
    refine E_getR (pc := 36) hx 5 fc8 h0 (hx.ci h0 (Nat.le_of_ble_eq_true rfl)) rfl ⟨rfl, rfl, rfl⟩ g501 dX10_tick_36 ?_
    refine I_cVV  (pc := 39) hx [.ref (shR a0 5)] [] (ev_X1_keep F (shR a0 8) (kt_8_8 h0) (shR a0 5) (kt_8_5 h0) w) vm_X1_keep fc1 (kt_8_8 h0) (hx.ci (kt_8_8 h0) (Nat.le_of_ble_eq_true rfl)) g782 dX10_tick_39 rfl rfl (Nat.le_of_ble_eq_true rfl) (Nat.le_of_ble_eq_true rfl) (Nat.le_of_ble_eq_true rfl) (fun w2 => ?_)
    refine E_aload_n (pc := 42) hx 0 dX10_tick_42 rfl rfl ?_
    refine E_getR (pc := 43) hx 5 fc8 h0 (hx.ci h0 (Nat.le_of_ble_eq_true rfl)) rfl ⟨rfl, rfl, rfl⟩ g501 dX10_tick_43 ?_
    refine E_getR (pc := 46) hx 8 fc2 (kt_8_5 h0) (hx.ci (kt_8_5 h0) (Nat.le_of_ble_eq_true rfl)) rfl ⟨rfl, rfl, rfl⟩ g151 dX10_tick_46 ?_
    refine I_iconst (pc := 49) hx 0 dX10_tick_49 ?_
    refine I_iconst (pc := 50) hx 5 dX10_tick_50 ?_
    refine I_cVI  (pc := 51) hx [.int (oI 0), .int (oI 5)] [] (ev_X7_get F (shR (shR a0 5) 8) (kt_2_8 (kt_8_5 h0)) 0 5 w2) vm_X7_get fc6 (kt_2_8 (kt_8_5 h0)) (hx.ci (kt_2_8 (kt_8_5 h0)) (Nat.le_of_ble_eq_true rfl)) g885 dX10_tick_51 rfl rfl (Nat.le_of_ble_eq_true rfl) (Nat.le_of_ble_eq_true rfl) (Nat.le_of_ble_eq_true rfl) (fun r3 => ?_)
    refine E_istore_n (pc := 54) hx dX10_tick_54 rfl (Nat.le_of_ble_eq_true rfl) rfl ?_
    refine E_aload_n (pc := 55) hx 1 dX10_tick_55 rfl rfl ?_
    refine E_getR (pc := 56) hx 5 fc8 h0 (hx.ci h0 (Nat.le_of_ble_eq_true rfl)) rfl ⟨rfl, rfl, rfl⟩ g501 dX10_tick_56 ?_
    refine E_iload_n (pc := 59) hx 2 dX10_tick_59 rfl rfl ?_
    refine I_cSV  (pc := 60) hx [.ref (shR a0 5), .int (oI p1)] [] (ev_X8_run F (shR a0 5) (kt_8_5 h0) p1 w2) sm_X8_run g922 dX10_tick_60 rfl rfl (Nat.le_of_ble_eq_true rfl) (Nat.le_of_ble_eq_true rfl) (Nat.le_of_ble_eq_true rfl) (fun w4 => ?_)
    refine E_aload_n (pc := 63) hx 1 dX10_tick_63 rfl rfl ?_
    refine E_getR (pc := 64) hx 5 fc8 h0 (hx.ci h0 (Nat.le_of_ble_eq_true rfl)) rfl ⟨rfl, rfl, rfl⟩ g501 dX10_tick_64 ?_
    refine E_getR (pc := 67) hx 8 fc2 (kt_8_5 h0) (hx.ci (kt_8_5 h0) (Nat.le_of_ble_eq_true rfl)) rfl ⟨rfl, rfl, rfl⟩ g151 dX10_tick_67 ?_
    refine I_iconst (pc := 70) hx 0 dX10_tick_70 ?_
    refine I_iconst (pc := 71) hx 5 dX10_tick_71 ?_
    refine I_cVI  (pc := 72) hx [.int (oI 0), .int (oI 5)] [] (ev_X7_get F (shR (shR a0 5) 8) (kt_2_8 (kt_8_5 h0)) 0 5 w4) vm_X7_get fc6 (kt_2_8 (kt_8_5 h0)) (hx.ci (kt_2_8 (kt_8_5 h0)) (Nat.le_of_ble_eq_true rfl)) g885 dX10_tick_72 rfl rfl (Nat.le_of_ble_eq_true rfl) (Nat.le_of_ble_eq_true rfl) (Nat.le_of_ble_eq_true rfl) (fun r5 => ?_)
    refine E_iload_n (pc := 75) hx 0 dX10_tick_75 rfl rfl ?_
    refine I_isub (pc := 76) hx dX10_tick_76 ?_
    exact E_iret (pc := 77) hx dX10_tick_77 rfl rfl (Nat.le_of_ble_eq_true rfl)
  exact E_thrw (pc := 20) hx (i := 4) (text := xTx.getD 4 "") xtS (by decide +kernel) dX10_tick_20 dX10_tick_23 dX10_tick_24 dX10_tick_27 dX10_tick_30 (Nat.le_of_ble_eq_true rfl) (Nat.le_of_ble_eq_true rfl) (Nat.le_of_ble_eq_true rfl) rfl
set_option maxHeartbeats 4000000 in
set_option maxRecDepth 100000 in
theorem ev_X10_give (F : Nat) (a0 : Nat) (h0 : shK a0 = 10 + 8) (p1 : Int) (p2 : Int) (w : aI) : Ev yX10_give cX10_give 3 (some .int) 7 3 jvT [.ref a0, .int (oI p1), .int (oI p2)] (cm w) (f_X10_give F a0 p1 p2 w) := by
  refine Ev.of (own := RX10) (by decide +kernel) rfl (Nat.le_of_ble_eq_true rfl) (fun x hx => ?_)
  show En x jvT 3 0 0 [(0, .ref a0), (1, .int (oI p1)), (2, .int (oI p2))] [] (cm w) _
  unfold f_X10_give
  refine E_aload_n (pc := 0) hx 0 dX10_give_0 rfl rfl ?_
  refine E_iload_n (pc := 1) hx 1 dX10_give_1 rfl rfl ?_
  refine I_cVN (hcv := rfl) (pc := 2) hx [.int (oI p1)] [] (ev_X10_needRoof F a0 h0 p1 w) vm_X10_needRoof fc8 h0 (hx.ci h0 (Nat.le_of_ble_eq_true rfl)) g694 dX10_give_2 rfl rfl (Nat.le_of_ble_eq_true rfl) (Nat.le_of_ble_eq_true rfl) (Nat.le_of_ble_eq_true rfl) ?_
  refine E_aload_n (pc := 5) hx 0 dX10_give_5 rfl rfl ?_
  refine E_iload_n (pc := 6) hx 2 dX10_give_6 rfl rfl ?_
  refine I_iconst (pc := 7) hx 1 dX10_give_7 ?_
  refine I_bipush (pc := 8) hx 99 dX10_give_8 rfl ?_
  refine I_cVN (hcv := rfl) (pc := 10) hx [.int (oI p2), .int (oI 1), .int (oI 99)] [] (ev_X10_needNumber F a0 h0 p2 1 99 w) vm_X10_needNumber fc8 h0 (hx.ci h0 (Nat.le_of_ble_eq_true rfl)) g824 dX10_give_10 rfl rfl (Nat.le_of_ble_eq_true rfl) (Nat.le_of_ble_eq_true rfl) (Nat.le_of_ble_eq_true rfl) ?_
  refine E_aload_n (pc := 13) hx 0 dX10_give_13 rfl rfl ?_
  refine E_getR (pc := 14) hx 5 fc8 h0 (hx.ci h0 (Nat.le_of_ble_eq_true rfl)) rfl ⟨rfl, rfl, rfl⟩ g501 dX10_give_14 ?_
  refine E_iload_n (pc := 17) hx 1 dX10_give_17 rfl rfl ?_
  refine E_iload_n (pc := 18) hx 2 dX10_give_18 rfl rfl ?_
  refine I_cVB  (pc := 19) hx [.int (oI p1), .int (oI p2)] [] (ev_X2_hasRoomFor F (shR a0 5) (kt_8_5 h0) p1 p2 w) vm_X2_hasRoomFor fc2 (kt_8_5 h0) (hx.ci (kt_8_5 h0) (Nat.le_of_ble_eq_true rfl)) g876 dX10_give_19 rfl rfl (Nat.le_of_ble_eq_true rfl) (Nat.le_of_ble_eq_true rfl) (Nat.le_of_ble_eq_true rfl) (fun r1 => ?_)
  refine I_ifB_ne (pc := 22) hx 36 dX10_give_22 rfl ?_ ?_
  · refine E_aload_n (pc := 36) hx 0 dX10_give_36 rfl rfl ?_
    refine E_getR (pc := 37) hx 8 fc8 h0 (hx.ci h0 (Nat.le_of_ble_eq_true rfl)) rfl ⟨rfl, rfl, rfl⟩ g504 dX10_give_37 ?_
    refine E_aload_n (pc := 40) hx 0 dX10_give_40 rfl rfl ?_
    refine E_getR (pc := 41) hx 5 fc8 h0 (hx.ci h0 (Nat.le_of_ble_eq_true rfl)) rfl ⟨rfl, rfl, rfl⟩ g501 dX10_give_41 ?_
    refine I_cVV  (pc := 44) hx [.ref (shR a0 5)] [] (ev_X1_keep F (shR a0 8) (kt_8_8 h0) (shR a0 5) (kt_8_5 h0) w) vm_X1_keep fc1 (kt_8_8 h0) (hx.ci (kt_8_8 h0) (Nat.le_of_ble_eq_true rfl)) g782 dX10_give_44 rfl rfl (Nat.le_of_ble_eq_true rfl) (Nat.le_of_ble_eq_true rfl) (Nat.le_of_ble_eq_true rfl) (fun w2 => ?_)
    refine E_aload_n (pc := 47) hx 0 dX10_give_47 rfl rfl ?_
    refine E_getR (pc := 48) hx 5 fc8 h0 (hx.ci h0 (Nat.le_of_ble_eq_true rfl)) rfl ⟨rfl, rfl, rfl⟩ g501 dX10_give_48 ?_
    refine E_iload_n (pc := 51) hx 1 dX10_give_51 rfl rfl ?_
    refine E_iload_n (pc := 52) hx 2 dX10_give_52 rfl rfl ?_
    refine I_cVV  (pc := 53) hx [.int (oI p1), .int (oI p2)] [] (ev_X2_takeCoins F (shR a0 5) (kt_8_5 h0) p1 p2 w2) vm_X2_takeCoins fc2 (kt_8_5 h0) (hx.ci (kt_8_5 h0) (Nat.le_of_ble_eq_true rfl)) g881 dX10_give_53 rfl rfl (Nat.le_of_ble_eq_true rfl) (Nat.le_of_ble_eq_true rfl) (Nat.le_of_ble_eq_true rfl) (fun w3 => ?_)
    refine E_aload_n (pc := 56) hx 0 dX10_give_56 rfl rfl ?_
    refine E_getR (pc := 57) hx 5 fc8 h0 (hx.ci h0 (Nat.le_of_ble_eq_true rfl)) rfl ⟨rfl, rfl, rfl⟩ g501 dX10_give_57 ?_
    refine E_getR (pc := 60) hx 4 fc2 (kt_8_5 h0) (hx.ci (kt_8_5 h0) (Nat.le_of_ble_eq_true rfl)) rfl ⟨rfl, rfl, rfl⟩ g141 dX10_give_60 ?_
    refine E_iload_n (pc := 63) hx 1 dX10_give_63 rfl rfl ?_
    refine I_iconst (pc := 64) hx 3 dX10_give_64 ?_
    refine I_cVI  (pc := 65) hx [.int (oI p1), .int (oI 3)] [] (ev_X7_get F (shR (shR a0 5) 4) (kt_2_4 (kt_8_5 h0)) p1 3 w3) vm_X7_get fc6 (kt_2_4 (kt_8_5 h0)) (hx.ci (kt_2_4 (kt_8_5 h0)) (Nat.le_of_ble_eq_true rfl)) g885 dX10_give_65 rfl rfl (Nat.le_of_ble_eq_true rfl) (Nat.le_of_ble_eq_true rfl) (Nat.le_of_ble_eq_true rfl) (fun r4 => ?_)
    exact E_iret (pc := 68) hx dX10_give_68 rfl rfl (Nat.le_of_ble_eq_true rfl)
  exact E_thrw (pc := 25) hx (i := 5) (text := xTx.getD 5 "") xtS (by decide +kernel) dX10_give_25 dX10_give_28 dX10_give_29 dX10_give_32 dX10_give_35 (Nat.le_of_ble_eq_true rfl) (Nat.le_of_ble_eq_true rfl) (Nat.le_of_ble_eq_true rfl) rfl
set_option maxHeartbeats 4000000 in
set_option maxRecDepth 100000 in
theorem ev_X10_cut (F : Nat) (a0 : Nat) (h0 : shK a0 = 10 + 8) (p1 : Int) (p2 : Int) (w : aI) : Ev yX10_cut cX10_cut 3 (some .int) 7 3 jvT [.ref a0, .int (oI p1), .int (oI p2)] (cm w) (f_X10_cut F a0 p1 p2 w) := by
  refine Ev.of (own := RX10) (by decide +kernel) rfl (Nat.le_of_ble_eq_true rfl) (fun x hx => ?_)
  show En x jvT 3 0 0 [(0, .ref a0), (1, .int (oI p1)), (2, .int (oI p2))] [] (cm w) _
  unfold f_X10_cut
  refine E_aload_n (pc := 0) hx 0 dX10_cut_0 rfl rfl ?_
  refine E_iload_n (pc := 1) hx 1 dX10_cut_1 rfl rfl ?_
  refine I_cVN (hcv := rfl) (pc := 2) hx [.int (oI p1)] [] (ev_X10_needRoof F a0 h0 p1 w) vm_X10_needRoof fc8 h0 (hx.ci h0 (Nat.le_of_ble_eq_true rfl)) g694 dX10_cut_2 rfl rfl (Nat.le_of_ble_eq_true rfl) (Nat.le_of_ble_eq_true rfl) (Nat.le_of_ble_eq_true rfl) ?_
  refine E_aload_n (pc := 5) hx 0 dX10_cut_5 rfl rfl ?_
  refine E_iload_n (pc := 6) hx 2 dX10_cut_6 rfl rfl ?_
  refine I_cVN (hcv := rfl) (pc := 7) hx [.int (oI p2)] [] (ev_X10_needRoof F a0 h0 p2 w) vm_X10_needRoof fc8 h0 (hx.ci h0 (Nat.le_of_ble_eq_true rfl)) g694 dX10_cut_7 rfl rfl (Nat.le_of_ble_eq_true rfl) (Nat.le_of_ble_eq_true rfl) (Nat.le_of_ble_eq_true rfl) ?_
  refine E_aload_n (pc := 10) hx 0 dX10_cut_10 rfl rfl ?_
  refine E_getR (pc := 11) hx 5 fc8 h0 (hx.ci h0 (Nat.le_of_ble_eq_true rfl)) rfl ⟨rfl, rfl, rfl⟩ g501 dX10_cut_11 ?_
  refine E_iload_n (pc := 14) hx 1 dX10_cut_14 rfl rfl ?_
  refine E_iload_n (pc := 15) hx 2 dX10_cut_15 rfl rfl ?_
  refine I_cVI  (pc := 16) hx [.int (oI p1), .int (oI p2)] [] (ev_X2_wayBetween F (shR a0 5) (kt_8_5 h0) p1 p2 w) vm_X2_wayBetween fc2 (kt_8_5 h0) (hx.ci (kt_8_5 h0) (Nat.le_of_ble_eq_true rfl)) g765 dX10_cut_16 rfl rfl (Nat.le_of_ble_eq_true rfl) (Nat.le_of_ble_eq_true rfl) (Nat.le_of_ble_eq_true rfl) (fun r1 => ?_)
  refine I_iconst (pc := 19) hx (-1) dX10_cut_19 ?_
  refine E_gd (fun hr2 => ?_)
  refine I_icmp_ne (pc := 20) hx 34 dX10_cut_20 rfl ⟨hr2, (by decide)⟩ ?_ ?_
  · refine E_aload_n (pc := 34) hx 0 dX10_cut_34 rfl rfl ?_
    refine E_getR (pc := 35) hx 8 fc8 h0 (hx.ci h0 (Nat.le_of_ble_eq_true rfl)) rfl ⟨rfl, rfl, rfl⟩ g504 dX10_cut_35 ?_
    refine E_aload_n (pc := 38) hx 0 dX10_cut_38 rfl rfl ?_
    refine E_getR (pc := 39) hx 5 fc8 h0 (hx.ci h0 (Nat.le_of_ble_eq_true rfl)) rfl ⟨rfl, rfl, rfl⟩ g501 dX10_cut_39 ?_
    refine I_cVV  (pc := 42) hx [.ref (shR a0 5)] [] (ev_X1_keep F (shR a0 8) (kt_8_8 h0) (shR a0 5) (kt_8_5 h0) w) vm_X1_keep fc1 (kt_8_8 h0) (hx.ci (kt_8_8 h0) (Nat.le_of_ble_eq_true rfl)) g782 dX10_cut_42 rfl rfl (Nat.le_of_ble_eq_true rfl) (Nat.le_of_ble_eq_true rfl) (Nat.le_of_ble_eq_true rfl) (fun w3 => ?_)
    refine E_aload_n (pc := 45) hx 0 dX10_cut_45 rfl rfl ?_
    refine E_getR (pc := 46) hx 5 fc8 h0 (hx.ci h0 (Nat.le_of_ble_eq_true rfl)) rfl ⟨rfl, rfl, rfl⟩ g501 dX10_cut_46 ?_
    refine E_iload_n (pc := 49) hx 1 dX10_cut_49 rfl rfl ?_
    refine E_iload_n (pc := 50) hx 2 dX10_cut_50 rfl rfl ?_
    refine I_cVBW  (pc := 51) hx [.int (oI p1), .int (oI p2)] [] (ev_X2_cutWay F (shR a0 5) (kt_8_5 h0) p1 p2 w3) vm_X2_cutWay fc2 (kt_8_5 h0) (hx.ci (kt_8_5 h0) (Nat.le_of_ble_eq_true rfl)) g791 dX10_cut_51 rfl rfl (Nat.le_of_ble_eq_true rfl) (Nat.le_of_ble_eq_true rfl) (Nat.le_of_ble_eq_true rfl) (fun r4 w5 => ?_)
    refine E_pop (pc := 54) hx dX10_cut_54 rfl ?_
    refine E_aload_n (pc := 55) hx 0 dX10_cut_55 rfl rfl ?_
    refine E_getR (pc := 56) hx 5 fc8 h0 (hx.ci h0 (Nat.le_of_ble_eq_true rfl)) rfl ⟨rfl, rfl, rfl⟩ g501 dX10_cut_56 ?_
    refine I_getI (pc := 59) hx 2 2 rfl fc2 (kt_8_5 h0) (hx.ci (kt_8_5 h0) (Nat.le_of_ble_eq_true rfl)) rfl ⟨rfl, rfl, rfl⟩ g133 dX10_cut_59 ?_
    exact E_iret (pc := 62) hx dX10_cut_62 rfl rfl (Nat.le_of_ble_eq_true rfl)
  exact E_thrw (pc := 23) hx (i := 6) (text := xTx.getD 6 "") xtS (by decide +kernel) dX10_cut_23 dX10_cut_26 dX10_cut_27 dX10_cut_30 dX10_cut_33 (Nat.le_of_ble_eq_true rfl) (Nat.le_of_ble_eq_true rfl) (Nat.le_of_ble_eq_true rfl) rfl
set_option maxHeartbeats 4000000 in
set_option maxRecDepth 100000 in
theorem ev_X10_set (F : Nat) (a0 : Nat) (h0 : shK a0 = 10 + 8) (p1 : Int) (p2 : Int) (w : aI) : Ev yX10_set cX10_set 4 (some .int) 7 2 jvT [.ref a0, .int (oI p1), .int (oI p2)] (cm w) (f_X10_set F a0 p1 p2 w) := by
  refine Ev.of (own := RX10) (by decide +kernel) rfl (Nat.le_of_ble_eq_true rfl) (fun x hx => ?_)
  show En x jvT 2 0 0 [(0, .ref a0), (1, .int (oI p1)), (2, .int (oI p2))] [] (cm w) _
  unfold f_X10_set
  refine E_aload_n (pc := 0) hx 0 dX10_set_0 rfl rfl ?_
  refine E_iload_n (pc := 1) hx 1 dX10_set_1 rfl rfl ?_
  refine I_bipush (pc := 2) hx 8 dX10_set_2 rfl ?_
  refine I_bipush (pc := 4) hx 10 dX10_set_4 rfl ?_
  refine I_cVN (hcv := rfl) (pc := 6) hx [.int (oI p1), .int (oI 8), .int (oI 10)] [] (ev_X10_needNumber F a0 h0 p1 8 10 w) vm_X10_needNumber fc8 h0 (hx.ci h0 (Nat.le_of_ble_eq_true rfl)) g824 dX10_set_6 rfl rfl (Nat.le_of_ble_eq_true rfl) (Nat.le_of_ble_eq_true rfl) (Nat.le_of_ble_eq_true rfl) ?_
  refine E_aload_n (pc := 9) hx 0 dX10_set_9 rfl rfl ?_
  refine E_iload_n (pc := 10) hx 2 dX10_set_10 rfl rfl ?_
  refine E_iload_n (pc := 11) hx 1 dX10_set_11 rfl rfl ?_
  refine I_cSI  (pc := 12) hx [.int (oI p1)] [.int (oI p2), .ref a0] (ev_X2_leastOf F p1 w) sm_X2_leastOf g865 dX10_set_12 rfl rfl (Nat.le_of_ble_eq_true rfl) (Nat.le_of_ble_eq_true rfl) (Nat.le_of_ble_eq_true rfl) (fun r1 => ?_)
  refine E_iload_n (pc := 15) hx 1 dX10_set_15 rfl rfl ?_
  refine I_cSI  (pc := 16) hx [.int (oI p1)] [.int (oI r1), .int (oI p2), .ref a0] (ev_X2_mostOf F p1 w) sm_X2_mostOf g866 dX10_set_16 rfl rfl (Nat.le_of_ble_eq_true rfl) (Nat.le_of_ble_eq_true rfl) (Nat.le_of_ble_eq_true rfl) (fun r2 => ?_)
  refine I_cVN (hcv := rfl) (pc := 19) hx [.int (oI p2), .int (oI r1), .int (oI r2)] [] (ev_X10_needNumber F a0 h0 p2 r1 r2 w) vm_X10_needNumber fc8 h0 (hx.ci h0 (Nat.le_of_ble_eq_true rfl)) g824 dX10_set_19 rfl rfl (Nat.le_of_ble_eq_true rfl) (Nat.le_of_ble_eq_true rfl) (Nat.le_of_ble_eq_true rfl) ?_
  refine E_aload_n (pc := 22) hx 0 dX10_set_22 rfl rfl ?_
  refine E_getR (pc := 23) hx 8 fc8 h0 (hx.ci h0 (Nat.le_of_ble_eq_true rfl)) rfl ⟨rfl, rfl, rfl⟩ g504 dX10_set_23 ?_
  refine E_aload_n (pc := 26) hx 0 dX10_set_26 rfl rfl ?_
  refine E_getR (pc := 27) hx 5 fc8 h0 (hx.ci h0 (Nat.le_of_ble_eq_true rfl)) rfl ⟨rfl, rfl, rfl⟩ g501 dX10_set_27 ?_
  refine I_cVV  (pc := 30) hx [.ref (shR a0 5)] [] (ev_X1_keep F (shR a0 8) (kt_8_8 h0) (shR a0 5) (kt_8_5 h0) w) vm_X1_keep fc1 (kt_8_8 h0) (hx.ci (kt_8_8 h0) (Nat.le_of_ble_eq_true rfl)) g782 dX10_set_30 rfl rfl (Nat.le_of_ble_eq_true rfl) (Nat.le_of_ble_eq_true rfl) (Nat.le_of_ble_eq_true rfl) (fun w3 => ?_)
  refine E_aload_n (pc := 33) hx 0 dX10_set_33 rfl rfl ?_
  refine E_getR (pc := 34) hx 5 fc8 h0 (hx.ci h0 (Nat.le_of_ble_eq_true rfl)) rfl ⟨rfl, rfl, rfl⟩ g501 dX10_set_34 ?_
  refine E_iload_n (pc := 37) hx 1 dX10_set_37 rfl rfl ?_
  refine I_cVI  (pc := 38) hx [.int (oI p1)] [] (ev_X2_setting F (shR a0 5) (kt_8_5 h0) p1 w3) vm_X2_setting fc2 (kt_8_5 h0) (hx.ci (kt_8_5 h0) (Nat.le_of_ble_eq_true rfl)) g867 dX10_set_38 rfl rfl (Nat.le_of_ble_eq_true rfl) (Nat.le_of_ble_eq_true rfl) (Nat.le_of_ble_eq_true rfl) (fun r4 => ?_)
  refine E_istore_n (pc := 41) hx dX10_set_41 rfl (Nat.le_of_ble_eq_true rfl) rfl ?_
  refine E_aload_n (pc := 42) hx 1 dX10_set_42 rfl rfl ?_
  refine E_getR (pc := 43) hx 5 fc8 h0 (hx.ci h0 (Nat.le_of_ble_eq_true rfl)) rfl ⟨rfl, rfl, rfl⟩ g501 dX10_set_43 ?_
  refine E_iload_n (pc := 46) hx 2 dX10_set_46 rfl rfl ?_
  refine E_iload_n (pc := 47) hx 3 dX10_set_47 rfl rfl ?_
  refine I_cVV  (pc := 48) hx [.int (oI p1), .int (oI p2)] [] (ev_X2_settle F (shR a0 5) (kt_8_5 h0) p1 p2 w3) vm_X2_settle fc2 (kt_8_5 h0) (hx.ci (kt_8_5 h0) (Nat.le_of_ble_eq_true rfl)) g871 dX10_set_48 rfl rfl (Nat.le_of_ble_eq_true rfl) (Nat.le_of_ble_eq_true rfl) (Nat.le_of_ble_eq_true rfl) (fun w5 => ?_)
  refine E_iload_n (pc := 51) hx 0 dX10_set_51 rfl rfl ?_
  exact E_iret (pc := 52) hx dX10_set_52 rfl rfl (Nat.le_of_ble_eq_true rfl)
